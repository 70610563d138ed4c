/-! call, follow, back: the code -/
theorem dX4_latest_0 : decode cX4_latest 0 = .ok (.iload_n 1, 1) := by decide +kernel
theorem dX4_latest_1 : decode cX4_latest 1 = .ok (.ifCond .lt 35, 3) := by decide +kernel
theorem dX4_latest_4 : decode cX4_latest 4 = .ok (.iload_n 1, 1) := by decide +kernel
theorem dX4_latest_5 : decode cX4_latest 5 = .ok (.aload_n 0, 1) := by decide +kernel
theorem dX4_latest_6 : decode cX4_latest 6 = .ok (.getfield 15, 3) := by decide +kernel
theorem dX4_latest_9 : decode cX4_latest 9 = .ok (.if_icmp .gt 27, 3) := by decide +kernel
theorem dX4_latest_12 : decode cX4_latest 12 = .ok (.aload_n 0, 1) := by decide +kernel
theorem dX4_latest_13 : decode cX4_latest 13 = .ok (.getfield 11, 3) := by decide +kernel
theorem dX4_latest_16 : decode cX4_latest 16 = .ok (.aload_n 0, 1) := by decide +kernel
theorem dX4_latest_17 : decode cX4_latest 17 = .ok (.getfield 19, 3) := by decide +kernel
theorem dX4_latest_20 : decode cX4_latest 20 = .ok (.iload_n 1, 1) := by decide +kernel
theorem dX4_latest_21 : decode cX4_latest 21 = .ok (.isub, 1) := by decide +kernel
theorem dX4_latest_22 : decode cX4_latest 22 = .ok (.sipush 200, 3) := by decide +kernel
theorem dX4_latest_25 : decode cX4_latest 25 = .ok (.iadd, 1) := by decide +kernel
theorem dX4_latest_26 : decode cX4_latest 26 = .ok (.iconst 1, 1) := by decide +kernel
theorem dX4_latest_27 : decode cX4_latest 27 = .ok (.iadd, 1) := by decide +kernel
theorem dX4_latest_28 : decode cX4_latest 28 = .ok (.sipush 201, 3) := by decide +kernel
theorem dX4_latest_31 : decode cX4_latest 31 = .ok (.irem, 1) := by decide +kernel
theorem dX4_latest_32 : decode cX4_latest 32 = .ok (.aaload, 1) := by decide +kernel
theorem dX4_latest_33 : decode cX4_latest 33 = .ok (.goto 4, 3) := by decide +kernel
theorem dX4_latest_36 : decode cX4_latest 36 = .ok (.aconst_null, 1) := by decide +kernel
theorem dX4_latest_37 : decode cX4_latest 37 = .ok (.areturn, 1) := by decide +kernel
theorem yy_X4_latest : cY yX4_latest cX4_latest 2 (some (.object "CallerHall$Moment")) 1 := ⟨wdK_X4_latest, wdZ_RX4, by decide +kernel⟩
theorem yi_X4_latest : cYi yX4_latest := ⟨wdN_X4_latest, wdS_X4_latest⟩
theorem dX11_back_0 : decode cX11_back 0 = .ok (.iload_n 1, 1) := by decide +kernel
theorem dX11_back_1 : decode cX11_back 1 = .ok (.ifCond .lt 14, 3) := by decide +kernel
theorem dX11_back_4 : decode cX11_back 4 = .ok (.iload_n 1, 1) := by decide +kernel
theorem dX11_back_5 : decode cX11_back 5 = .ok (.aload_n 0, 1) := by decide +kernel
theorem dX11_back_6 : decode cX11_back 6 = .ok (.getfield 66, 3) := by decide +kernel
theorem dX11_back_9 : decode cX11_back 9 = .ok (.getfield 195, 3) := by decide +kernel
theorem dX11_back_12 : decode cX11_back 12 = .ok (.if_icmp .le 5, 3) := by decide +kernel
theorem dX11_back_15 : decode cX11_back 15 = .ok (.iconst 0, 1) := by decide +kernel
theorem dX11_back_16 : decode cX11_back 16 = .ok (.ireturn, 1) := by decide +kernel
theorem dX11_back_17 : decode cX11_back 17 = .ok (.aload_n 0, 1) := by decide +kernel
theorem dX11_back_18 : decode cX11_back 18 = .ok (.getfield 66, 3) := by decide +kernel
theorem dX11_back_21 : decode cX11_back 21 = .ok (.iload_n 1, 1) := by decide +kernel
theorem dX11_back_22 : decode cX11_back 22 = .ok (.invokevirtual 196, 3) := by decide +kernel
theorem dX11_back_25 : decode cX11_back 25 = .ok (.astore_n 2, 1) := by decide +kernel
theorem dX11_back_26 : decode cX11_back 26 = .ok (.iload_n 1, 1) := by decide +kernel
theorem dX11_back_27 : decode cX11_back 27 = .ok (.ifCond .le 43, 3) := by decide +kernel
theorem dX11_back_30 : decode cX11_back 30 = .ok (.aload_n 2, 1) := by decide +kernel
theorem dX11_back_31 : decode cX11_back 31 = .ok (.ifnull 39, 3) := by decide +kernel
theorem dX11_back_34 : decode cX11_back 34 = .ok (.aload_n 2, 1) := by decide +kernel
theorem dX11_back_35 : decode cX11_back 35 = .ok (.aload_n 0, 1) := by decide +kernel
theorem dX11_back_36 : decode cX11_back 36 = .ok (.getfield 44, 3) := by decide +kernel
theorem dX11_back_39 : decode cX11_back 39 = .ok (.aload_n 0, 1) := by decide +kernel
theorem dX11_back_40 : decode cX11_back 40 = .ok (.getfield 56, 3) := by decide +kernel
theorem dX11_back_43 : decode cX11_back 43 = .ok (.invokevirtual 200, 3) := by decide +kernel
theorem dX11_back_46 : decode cX11_back 46 = .ok (.aload_n 0, 1) := by decide +kernel
theorem dX11_back_47 : decode cX11_back 47 = .ok (.aload_n 2, 1) := by decide +kernel
theorem dX11_back_48 : decode cX11_back 48 = .ok (.getfield 206, 3) := by decide +kernel
theorem dX11_back_51 : decode cX11_back 51 = .ok (.putfield 158, 3) := by decide +kernel
theorem dX11_back_54 : decode cX11_back 54 = .ok (.aload_n 0, 1) := by decide +kernel
theorem dX11_back_55 : decode cX11_back 55 = .ok (.aload_n 2, 1) := by decide +kernel
theorem dX11_back_56 : decode cX11_back 56 = .ok (.getfield 207, 3) := by decide +kernel
theorem dX11_back_59 : decode cX11_back 59 = .ok (.putfield 161, 3) := by decide +kernel
theorem dX11_back_62 : decode cX11_back 62 = .ok (.aload_n 0, 1) := by decide +kernel
theorem dX11_back_63 : decode cX11_back 63 = .ok (.getfield 66, 3) := by decide +kernel
theorem dX11_back_66 : decode cX11_back 66 = .ok (.iload_n 1, 1) := by decide +kernel
theorem dX11_back_67 : decode cX11_back 67 = .ok (.invokevirtual 208, 3) := by decide +kernel
theorem dX11_back_70 : decode cX11_back 70 = .ok (.iconst 1, 1) := by decide +kernel
theorem dX11_back_71 : decode cX11_back 71 = .ok (.ireturn, 1) := by decide +kernel
theorem yy_X11_back : cY yX11_back cX11_back 3 (some .boolean) 1 := ⟨wdK_X11_back, wdZ_RX11, by decide +kernel⟩
theorem yi_X11_back : cYi yX11_back := ⟨wdN_X11_back, wdS_X11_back⟩
section KC
variable {p : Program} {l : Launch} {e : Env} {R : Room} {s : State} {m : MethodId} {args : Array Value} {below : List Frame} {meth : Method} {c : Code} {Q : State → Prop}
variable {E : cE} {A : Nat → Prop} {cc : ByteArray} {mL : Nat} {ret : Option FieldType} {y0 : MethodName}
variable {ws : va_W} {ce sl pc : Nat} {lv : List (Nat × Value)} {rest : List Value} {t μ : St} {r : Nat → Nat} {W0 : va_W}
theorem k_bipush (X : gX p s m meth c cc mL ret y0 args E A) {n : Int} (hdg : decode cc pc = .ok (.bipush n, 2)) (hv : (Int8.ofInt n).toInt32 = Int32.ofInt n) (kk : kP ce sl p l e R s m args below meth c E A mL Q ws (pc + 2) lv (iv n :: rest)) : kP ce sl p l e R s m args below meth c E A mL Q ws pc lv rest := by
  intro H locs ls hP hD hS hl
  obtain ⟨hx, hb, hr, hml, hown, hts, hlk, hin⟩ := X.1
  exact lv_bipush hx hb hdg hv (kk H locs ls hP hD hS hl)
theorem k_sipush (X : gX p s m meth c cc mL ret y0 args E A) {n : Int} (hdg : decode cc pc = .ok (.sipush n, 3)) (hv : (Int16.ofInt n).toInt32 = Int32.ofInt n) (kk : kP ce sl p l e R s m args below meth c E A mL Q ws (pc + 3) lv (iv n :: rest)) : kP ce sl p l e R s m args below meth c E A mL Q ws pc lv rest := by
  intro H locs ls hP hD hS hl
  obtain ⟨hx, hb, hr, hml, hown, hts, hlk, hin⟩ := X.1
  exact lv_sipush hx hb hdg hv (kk H locs ls hP hD hS hl)
theorem k_iadd (X : gX p s m meth c cc mL ret y0 args E A) {a b : Int} (hdg : decode cc pc = .ok (.iadd, 1)) (kk : kP ce sl p l e R s m args below meth c E A mL Q ws (pc + 1) lv (iv (a + b) :: rest)) : kP ce sl p l e R s m args below meth c E A mL Q ws pc lv (iv b :: iv a :: rest) := by
  intro H locs ls hP hD hS hl
  obtain ⟨hx, hb, hr, hml, hown, hts, hlk, hin⟩ := X.1
  refine lv_iadd hx hb hdg ?_
  rw [← Int32.ofInt_add a b]
  exact kk H locs ls hP hD hS hl
theorem k_isub (X : gX p s m meth c cc mL ret y0 args E A) {a b : Int} (hdg : decode cc pc = .ok (.isub, 1)) (kk : kP ce sl p l e R s m args below meth c E A mL Q ws (pc + 1) lv (iv (a - b) :: rest)) : kP ce sl p l e R s m args below meth c E A mL Q ws pc lv (iv b :: iv a :: rest) := by
  intro H locs ls hP hD hS hl
  obtain ⟨hx, hb, hr, hml, hown, hts, hlk, hin⟩ := X.1
  refine lv_isub hx hb hdg ?_
  rw [← Int32.ofInt_sub a b]
  exact kk H locs ls hP hD hS hl
theorem k_irem (X : gX p s m meth c cc mL ret y0 args E A) {a b : Int} (ha : inR a) (ha0 : 0 ≤ a) (hb2 : inR b) (hb0 : 0 < b) (hdg : decode cc pc = .ok (.irem, 1)) (kk : kP ce sl p l e R s m args below meth c E A mL Q ws (pc + 1) lv (iv (a % b) :: rest)) : kP ce sl p l e R s m args below meth c E A mL Q ws pc lv (iv b :: iv a :: rest) := by
  intro H locs ls hP hD hS hl
  obtain ⟨hx, hb, hr, hml, hown, hts, hlk, hin⟩ := X.1
  refine lv_irem hx hb hdg (z_ne0 hb2 hb0) ?_
  rw [z_rem ha hb2 ha0 hb0]
  exact kk H locs ls hP hD hS hl
theorem k_if_lt (X : gX p s m meth c cc mL ret y0 args E A) {a : Int} {off : Int} {tgt : Nat} (ha : inR a) (hdg : decode cc pc = .ok (.ifCond .lt off, 3)) (ht : (pc : Int) + off = (tgt : Int)) (kt : a < 0 → kP ce sl p l e R s m args below meth c E A mL Q ws tgt lv rest) (kf : ¬ a < 0 → kP ce sl p l e R s m args below meth c E A mL Q ws (pc + 3) lv rest) : kP ce sl p l e R s m args below meth c E A mL Q ws pc lv (iv a :: rest) := by
  intro H locs ls hP hD hS hl
  obtain ⟨hx, hb, hr, hml, hown, hts, hlk, hin⟩ := X.1
  refine lv_if_lt hx hb hdg ht (fun q => ?_) (fun q => ?_)
  · exact kt ((z_lt ha (by omega)).mp q) H locs ls hP hD hS hl
  · exact kf (fun k => q ((z_lt ha (by omega)).mpr k)) H locs ls hP hD hS hl
theorem k_icmp_lt (X : gX p s m meth c cc mL ret y0 args E A) {a b : Int} {off : Int} {tgt : Nat} (ha : inR a) (hb2 : inR b) (hdg : decode cc pc = .ok (.if_icmp .lt off, 3)) (ht : (pc : Int) + off = (tgt : Int)) (kt : a < b → kP ce sl p l e R s m args below meth c E A mL Q ws tgt lv rest) (kf : ¬ a < b → kP ce sl p l e R s m args below meth c E A mL Q ws (pc + 3) lv rest) : kP ce sl p l e R s m args below meth c E A mL Q ws pc lv (iv b :: iv a :: rest) := by
  intro H locs ls hP hD hS hl
  obtain ⟨hx, hb, hr, hml, hown, hts, hlk, hin⟩ := X.1
  refine lv_icmp_lt hx hb hdg ht (fun q => ?_) (fun q => ?_)
  · exact kt ((z_lt ha hb2).mp q) H locs ls hP hD hS hl
  · exact kf (fun k => q ((z_lt ha hb2).mpr k)) H locs ls hP hD hS hl
theorem k_iald (X : gX p s m meth c cc mL ret y0 args E A) {tab : List gS} {id n : Nat} {i : Int} (hA : gA tab id 1 n) (h1 : 0 ≤ i) (h2 : i < n) (hdg : decode cc pc = .ok (.iaload, 1)) (kk : kP ce sl p l e R s m args below meth c E A mL Q (gW E r tab t ++ W0) (pc + 1) lv (iv (t.1 id i.toNat) :: rest)) : kP ce sl p l e R s m args below meth c E A mL Q (gW E r tab t ++ W0) pc lv (iv i :: .ref (r id) :: rest) := by
  intro H locs ls hP hD hS hl
  obtain ⟨hx, hb, hr, hml, hown, hts, hlk, hin⟩ := X.1
  obtain ⟨j, hj, hU, hn⟩ := hA
  refine va_iald (f := fun i => Int32.ofInt (t.1 id i)) hx hb X.2.2.1 hP j 1 (gW_ap hj) rfl (vp_in_z h1 h2 hn) hdg ?_
  rw [z_cl h1 (by omega)]
  exact kk H locs ls hP hD hS hl
abbrev rm_call : Room := { frames := 205, cells := 4, slots := 1576, locals := 12108 }
/-- the first half of call: the text is read -/
theorem k_call0 (X : gX p s m meth c cX11_call 3 (some .int) yX11_call args E A) {N : Nat} {t1 t2 : St} (h1 : f_X10_read N t = some t1) (h2 : f_X7_readCall N t1 = some t2) (h18 : inR (t1.1 302 18)) (hR : R = rm_call) (kk : kP 0 0 p l e R s m args below meth c E A 3 Q (gW E r shH (pI t2 300 13 (t2.1 303 5)) ++ W0) 33 [(1, iv (t1.1 302 18)), (0, .ref (r 300))] []) : kP 0 0 p l e R s m args below meth c E A 3 Q (gW E r shH t ++ W0) 0 [(0, .ref (r 300))] [] := by
  subst hR
  refine k_aload_n X dX11_call_0 0 rfl ?_
  refine k_getR X fH_X11_10_300 rfl dX11_call_1 ?_
  refine k_hV (rest := []) X (cp_X10_read l E r N t t1 h1) yy_X10_read yi_X10_read wdM_RX11_112 ⟨_, _, oH_301⟩ rfl rfl rfl (Nat.le_of_ble_eq_true rfl) dX11_call_4 ⟨by decide, by decide⟩ ⟨rfl, rfl⟩ ⟨by decide, by decide⟩ ?_
  refine k_aload_n X dX11_call_7 0 rfl ?_
  refine k_getR X fH_X11_19_300 rfl dX11_call_8 ?_
  refine k_getI X fH_X11_128_302 rfl dX11_call_11 ?_
  refine k_istore_n (lv' := [(1, iv (t1.1 302 18)), (0, .ref (r 300))]) X dX11_call_14 rfl (by decide) rfl ?_
  refine k_aload_n X dX11_call_15 1 rfl ?_
  refine k_getR X fH_X11_28_300 rfl dX11_call_16 ?_
  refine k_hV (rest := []) X (cp_X7_readCall l E r N t1 t2 h2) yy_X7_readCall yi_X7_readCall wdM_RX11_131 ⟨_, _, oH_303⟩ rfl rfl rfl (Nat.le_of_ble_eq_true rfl) dX11_call_19 ⟨by decide, by decide⟩ ⟨rfl, rfl⟩ ⟨by decide, by decide⟩ ?_
  refine k_aload_n X dX11_call_22 1 rfl ?_
  refine k_aload_n X dX11_call_23 1 rfl ?_
  refine k_getR X fH_X11_28_300 rfl dX11_call_24 ?_
  refine k_getI X fH_X11_118_303 rfl dX11_call_27 ?_
  refine k_putI X fH_X11_121_300w rfl dX11_call_30 ?_
  exact kk
/-- call: the text is wrong -/
theorem c_call0 (l : Launch) (E : cE) (r : Nat → Nat) (N : Nat) (W0 : va_W) (t t1 t2 t4 : St) (w : Int) (h1 : f_X10_read N t = some t1) (h2 : f_X7_readCall N t1 = some t2) (h18 : inR (t1.1 302 18)) (hf : inR (t2.1 303 5)) (hf0 : t2.1 303 5 ≠ 0) (h4 : f_X7_wrongPlace N (pI t2 300 13 (t2.1 303 5)) = some (w, t4)) : cM l E yX11_call cX11_call 3 (some .int) rm_call [.ref (r 300)] (gW E r shH t ++ W0) (qSm E r W0 ((-2) - w) (pI t4 302 18 (t1.1 302 18))) := by
  refine k_of (by decide) (Nat.le_of_ble_eq_true rfl) ?_
  intro p e s m below meth c A X
  suffices hk : kP 0 0 p l e rm_call s m [.ref (r 300)].toArray below meth c E A 3 (MQ below ((qSm E r W0 ((-2) - w) (pI t4 302 18 (t1.1 302 18))) A) [.ref (r 300)].toArray s rm_call.cells rm_call.slots A) (gW E r shH t ++ W0) 0 [(0, .ref (r 300))] [] from hk
  refine k_call0 X h1 h2 h18 rfl ?_
  refine k_aload_n X dX11_call_33 1 rfl ?_
  refine k_getI X fH_X11_121_300 rfl dX11_call_34 ?_
  rw [show (pI t2 300 13 (t2.1 303 5)).1 300 13 = t2.1 303 5 from pI_at]
  refine k_if_ne (tgt := 48) X hf dX11_call_37 (by decide) (fun _ => ?_) (fun h => absurd h hf0)
  refine k_bipush X dX11_call_48 (by decide) ?_
  refine k_aload_n X dX11_call_50 1 rfl ?_
  refine k_getR X fH_X11_28_300 rfl dX11_call_51 ?_
  refine k_hI (rest := [iv (-2)]) X (cp_X7_wrongPlace l E r N (pI t2 300 13 (t2.1 303 5)) (w, t4) h4) yy_X7_wrongPlace yi_X7_wrongPlace wdM_RX11_124 ⟨_, _, oH_303⟩ rfl rfl rfl (Nat.le_of_ble_eq_true rfl) dX11_call_54 ⟨by decide, by decide⟩ ⟨rfl, rfl⟩ ⟨by decide, by decide⟩ ?_
  refine k_isub X dX11_call_57 ?_
  refine k_istore_n (lv' := [(2, iv ((-2) - w)), (1, iv (t1.1 302 18)), (0, .ref (r 300))]) X dX11_call_58 rfl (by decide) rfl ?_
  refine k_aload_n X dX11_call_59 2 rfl ?_
  refine k_getR X fH_X11_19_300 rfl dX11_call_60 ?_
  refine k_iload_n X dX11_call_63 1 rfl ?_
  refine k_putI X fH_X11_128_302w rfl dX11_call_64 ?_
  refine k_iload_n X dX11_call_67 0 rfl ?_
  exact k_iret X () rfl (List.Perm.refl _) dX11_call_68 (by decide) (by decide)
/-- call: the step is read, and can't be danced -/
theorem c_call1 (l : Launch) (E : cE) (r : Nat → Nat) (N : Nat) (W0 : va_W) (t t1 t2 t5 t6 : St) (ev : Int64) (v : Int) (h1 : f_X10_read N t = some t1) (h2 : f_X7_readCall N t1 = some t2) (h18 : inR (t1.1 302 18)) (hf0 : t2.1 303 5 = 0) (hv : inR v) (hv0 : v ≠ 0) (h3 : f_X3_everybody N 0 (pI t2 300 13 (t2.1 303 5)) = some (ev, pI t2 300 13 (t2.1 303 5))) (h4 : f_X1_attempt N 0 (t1.1 302 18) ev (pI t2 300 13 (t2.1 303 5)) = some (v, t5)) (h5 : f_X11_noteFailure N t5 = some t6) : cM l E yX11_call cX11_call 3 (some .int) rm_call [.ref (r 300)] (gW E r shH t ++ W0) (qSm E r W0 v (pI t6 302 18 (t1.1 302 18))) := by
  refine k_of (by decide) (Nat.le_of_ble_eq_true rfl) ?_
  intro p e s m below meth c A X
  suffices hk : kP 0 0 p l e rm_call s m [.ref (r 300)].toArray below meth c E A 3 (MQ below ((qSm E r W0 v (pI t6 302 18 (t1.1 302 18))) A) [.ref (r 300)].toArray s rm_call.cells rm_call.slots A) (gW E r shH t ++ W0) 0 [(0, .ref (r 300))] [] from hk
  refine k_call0 X h1 h2 h18 rfl ?_
  refine k_aload_n X dX11_call_33 1 rfl ?_
  refine k_getI X fH_X11_121_300 rfl dX11_call_34 ?_
  rw [show (pI t2 300 13 (t2.1 303 5)).1 300 13 = t2.1 303 5 from pI_at]
  refine k_if_ne (tgt := 48) X (by rw [hf0]; omega) dX11_call_37 (by decide) (fun h => absurd hf0 h) (fun _ => ?_)
  refine k_aload_n X dX11_call_40 1 rfl ?_
  refine k_iload_n X dX11_call_41 0 rfl ?_
  suffices hk2 : kP 0 0 p l e rm_call s m [.ref (r 300)].toArray below meth c E A 3 (MQ below ((qSm E r W0 v (pI t6 302 18 (t1.1 302 18))) A) [.ref (r 300)].toArray s rm_call.cells rm_call.slots A) ((gW E r shH (pI t2 300 13 (t2.1 303 5)) ++ W0) ++ []) 42 [(1, iv (t1.1 302 18)), (0, .ref (r 300))] [iv (t1.1 302 18), .ref (r 300)] by
    rw [List.append_nil] at hk2
    exact hk2
  refine k_callI (rest := []) X (c_dance0 l E r N W0 (t1.1 302 18) (pI t2 300 13 (t2.1 303 5)) ev v t5 t6 hv hv0 h3 h4 h5) yy_X11_danceAt yi_X11_danceAt wdM_RX11_134 0 11 (by rw [List.append_nil]; exact gW_ap oH_300) rfl rfl rfl (Nat.le_of_ble_eq_true rfl) dX11_call_42 ⟨by decide, by decide⟩ ⟨by decide, by decide⟩ (fun r9 _ h9 => ?_)
  have h9 : r9 = Int32.ofInt v := h9
  subst h9
  rw [List.append_nil]
  refine k_goto (tgt := 58) X dX11_call_45 (by decide) ?_
  refine k_istore_n (lv' := [(2, iv v), (1, iv (t1.1 302 18)), (0, .ref (r 300))]) X dX11_call_58 rfl (by decide) rfl ?_
  refine k_aload_n X dX11_call_59 2 rfl ?_
  refine k_getR X fH_X11_19_300 rfl dX11_call_60 ?_
  refine k_iload_n X dX11_call_63 1 rfl ?_
  refine k_putI X fH_X11_128_302w rfl dX11_call_64 ?_
  refine k_iload_n X dX11_call_67 0 rfl ?_
  exact k_iret X () rfl (List.Perm.refl _) dX11_call_68 (by decide) (by decide)
/-- call: the step is danced -/
theorem c_call2 (l : Launch) (E : cE) (r : Nat → Nat) (N : Nat) (t μ t1 t2 t5 t6 t7 z : St) (ev : Int64) (B i : Nat) (len : Nat → Nat) (h1 : f_X10_read N t = some t1) (h2 : f_X7_readCall N t1 = some t2) (h18 : inR (t1.1 302 18)) (hf0 : t2.1 303 5 = 0) (h3 : f_X3_everybody N 0 (pI t2 300 13 (t2.1 303 5)) = some (ev, pI t2 300 13 (t2.1 303 5))) (h4 : f_X1_attempt N 0 (t1.1 302 18) ev (pI t2 300 13 (t2.1 303 5)) = some (0, t5)) (hN : NTh N t5 μ B i len z) (h5 : f_X1_settle N 0 t5 = some t6) (h6 : f_X11_countStep N t6 = some t7) : cM l E yX11_call cX11_call 3 (some .int) rm_call [.ref (r 300)] (gW E r shH t ++ exL E r B len μ) (qDn E r len μ z B i (t5.1 300 11) (t5.1 300 12) 0 (pI t7 302 18 (t1.1 302 18))) := by
  refine k_of (by decide) (Nat.le_of_ble_eq_true rfl) ?_
  intro p e s m below meth c A X
  suffices hk : kP 0 0 p l e rm_call s m [.ref (r 300)].toArray below meth c E A 3 (MQ below ((qDn E r len μ z B i (t5.1 300 11) (t5.1 300 12) 0 (pI t7 302 18 (t1.1 302 18))) A) [.ref (r 300)].toArray s rm_call.cells rm_call.slots A) (gW E r shH t ++ exL E r B len μ) 0 [(0, .ref (r 300))] [] from hk
  refine k_call0 X h1 h2 h18 rfl ?_
  refine k_aload_n X dX11_call_33 1 rfl ?_
  refine k_getI X fH_X11_121_300 rfl dX11_call_34 ?_
  rw [show (pI t2 300 13 (t2.1 303 5)).1 300 13 = t2.1 303 5 from pI_at]
  refine k_if_ne (tgt := 48) X (by rw [hf0]; omega) dX11_call_37 (by decide) (fun h => absurd hf0 h) (fun _ => ?_)
  refine k_aload_n X dX11_call_40 1 rfl ?_
  refine k_iload_n X dX11_call_41 0 rfl ?_
  suffices hk2 : kP 0 0 p l e rm_call s m [.ref (r 300)].toArray below meth c E A 3 (MQ below ((qDn E r len μ z B i (t5.1 300 11) (t5.1 300 12) 0 (pI t7 302 18 (t1.1 302 18))) A) [.ref (r 300)].toArray s rm_call.cells rm_call.slots A) ((gW E r shH (pI t2 300 13 (t2.1 303 5)) ++ exL E r B len μ) ++ []) 42 [(1, iv (t1.1 302 18)), (0, .ref (r 300))] [iv (t1.1 302 18), .ref (r 300)] by
    rw [List.append_nil] at hk2
    exact hk2
  refine k_callI (rest := []) X (c_dance1 l E r N (t1.1 302 18) (pI t2 300 13 (t2.1 303 5)) μ ev t5 t6 t7 z B i len h3 h4 hN h5 h6) yy_X11_danceAt yi_X11_danceAt wdM_RX11_134 0 11 (by rw [List.append_nil]; exact gW_ap oH_300) rfl rfl rfl (Nat.le_of_ble_eq_true rfl) dX11_call_42 ⟨by decide, by decide⟩ ⟨by decide, by decide⟩ (fun r9 u h9 => ?_)
  obtain ⟨h9, hu⟩ := h9
  subst h9
  rw [List.append_nil]
  have e300 : r 300 = u.1 300 := (hu.1 300 (by omega)).symm
  rw [show ([(1, iv (t1.1 302 18)), (0, .ref (r 300))] : List (Nat × Value)) = [(1, iv (t1.1 302 18)), (0, .ref (u.1 300))] by rw [e300]]
  refine k_goto (tgt := 58) X dX11_call_45 (by decide) ?_
  refine k_istore_n (lv' := [(2, iv 0), (1, iv (t1.1 302 18)), (0, .ref (u.1 300))]) X dX11_call_58 rfl (by decide) rfl ?_
  refine k_aload_n X dX11_call_59 2 rfl ?_
  refine k_getR X fH_X11_19_300 rfl dX11_call_60 ?_
  refine k_iload_n X dX11_call_63 1 rfl ?_
  refine k_putI X fH_X11_128_302w rfl dX11_call_64 ?_
  refine k_iload_n X dX11_call_67 0 rfl ?_
  exact k_iret X u ⟨rfl, hu⟩ (List.Perm.refl _) dX11_call_68 (by decide) (by decide)
abbrev rm_follow : Room := { frames := 6, cells := 4, slots := 1576, locals := 174 }
/-- the first half of follow -/
theorem k_follow0 (X : gX p s m meth c cX11_follow 3 (some .int) yX11_follow args E A) {N : Nat} {x : Int} (h1 : f_X9_chosenStep N (t.1 310 17) t = some (x, t)) (hx : inR x) (hR : R = rm_follow) (kk : kP 0 0 p l e R s m args below meth c E A 3 Q (gW E r shH t ++ W0) 15 [(1, iv x), (0, .ref (r 300))] []) : kP 0 0 p l e R s m args below meth c E A 3 Q (gW E r shH t ++ W0) 0 [(0, .ref (r 300))] [] := by
  subst hR
  refine k_aload_n X dX11_follow_0 0 rfl ?_
  refine k_getR X fH_X11_75_300 rfl dX11_follow_1 ?_
  refine k_aload_n X dX11_follow_4 0 rfl ?_
  refine k_getR X fH_X11_75_300 rfl dX11_follow_5 ?_
  refine k_getI X fH_X11_245_310 rfl dX11_follow_8 ?_
  refine k_hI (rest := []) X (cp_X9_chosenStep l E r N (t.1 310 17) t (x, t) h1) yy_X9_chosenStep yi_X9_chosenStep wdM_RX11_242 ⟨_, _, oH_310⟩ rfl rfl rfl (Nat.le_of_ble_eq_true rfl) dX11_follow_11 ⟨by decide, by decide⟩ ⟨rfl, rfl⟩ ⟨by decide, by decide⟩ ?_
  refine k_istore_n (lv' := [(1, iv x), (0, .ref (r 300))]) X dX11_follow_14 rfl (by decide) rfl ?_
  exact kk
/-- follow: there is no step -/
theorem c_follow0 (l : Launch) (E : cE) (r : Nat → Nat) (N : Nat) (W0 : va_W) (t : St) (x : Int) (h1 : f_X9_chosenStep N (t.1 310 17) t = some (x, t)) (hx : inR x) (hx0 : x < 0) : cM l E yX11_follow cX11_follow 3 (some .int) rm_follow [.ref (r 300)] (gW E r shH t ++ W0) (qSm E r W0 (-1) t) := by
  refine k_of (by decide) (Nat.le_of_ble_eq_true rfl) ?_
  intro p e s m below meth c A X
  suffices hk : kP 0 0 p l e rm_follow s m [.ref (r 300)].toArray below meth c E A 3 (MQ below ((qSm E r W0 (-1) t) A) [.ref (r 300)].toArray s rm_follow.cells rm_follow.slots A) (gW E r shH t ++ W0) 0 [(0, .ref (r 300))] [] from hk
  refine k_follow0 X h1 hx rfl ?_
  refine k_iload_n X dX11_follow_15 0 rfl ?_
  refine k_if_lt (tgt := 30) X hx dX11_follow_16 (by decide) (fun _ => ?_) (fun h => absurd hx0 h)
  refine k_iconst X dX11_follow_30 ?_
  exact k_iret X () rfl (List.Perm.refl _) dX11_follow_31 (by decide) (by decide)
/-- follow: to where danceAt is called -/
theorem k_follow1 (X : gX p s m meth c cX11_follow 3 (some .int) yX11_follow args E A) {x : Int} (hx : inR x) (hx0 : 0 ≤ x) (hx1 : x < t.1 302 16) (hx2 : t.1 302 16 ≤ 32) (kk : kP 0 0 p l e R s m args below meth c E A 3 Q (gW E r shH t ++ W0) 42 [(1, iv x), (0, .ref (r 300))] [iv (t.1 361 x.toNat), .ref (r 300)]) : kP 0 0 p l e R s m args below meth c E A 3 Q (gW E r shH t ++ W0) 15 [(1, iv x), (0, .ref (r 300))] [] := by
  refine k_iload_n X dX11_follow_15 0 rfl ?_
  refine k_if_lt (tgt := 30) X hx dX11_follow_16 (by decide) (fun h => absurd h (by omega)) (fun _ => ?_)
  refine k_iload_n X dX11_follow_19 0 rfl ?_
  refine k_aload_n X dX11_follow_20 1 rfl ?_
  refine k_getR X fH_X11_19_300 rfl dX11_follow_21 ?_
  refine k_getI X fH_X11_211_302 rfl dX11_follow_24 ?_
  refine k_icmp_lt (tgt := 32) X hx (by omega) dX11_follow_27 (by decide) (fun _ => ?_) (fun h => absurd hx1 h)
  refine k_aload_n X dX11_follow_32 1 rfl ?_
  refine k_aload_n X dX11_follow_33 1 rfl ?_
  refine k_getR X fH_X11_19_300 rfl dX11_follow_34 ?_
  refine k_getR X fH_X11_214_302 rfl dX11_follow_37 ?_
  refine k_iload_n X dX11_follow_40 0 rfl ?_
  refine k_iald X aH_361 hx0 (by omega) dX11_follow_41 ?_
  exact kk
/-- follow: the step can't be danced -/
theorem c_follow1 (l : Launch) (E : cE) (r : Nat → Nat) (N : Nat) (W0 : va_W) (t t5 t6 : St) (x v : Int) (ev : Int64) (h1 : f_X9_chosenStep N (t.1 310 17) t = some (x, t)) (hx : inR x) (hx0 : 0 ≤ x) (hx1 : x < t.1 302 16) (hx2 : t.1 302 16 ≤ 32) (hv : inR v) (hv0 : v ≠ 0) (h3 : f_X3_everybody N 0 t = some (ev, t)) (h4 : f_X1_attempt N 0 (t.1 361 x.toNat) ev t = some (v, t5)) (h5 : f_X11_noteFailure N t5 = some t6) : cM l E yX11_follow cX11_follow 3 (some .int) rm_follow [.ref (r 300)] (gW E r shH t ++ W0) (qSm E r W0 v t6) := by
  refine k_of (by decide) (Nat.le_of_ble_eq_true rfl) ?_
  intro p e s m below meth c A X
  suffices hk : kP 0 0 p l e rm_follow s m [.ref (r 300)].toArray below meth c E A 3 (MQ below ((qSm E r W0 v t6) A) [.ref (r 300)].toArray s rm_follow.cells rm_follow.slots A) (gW E r shH t ++ W0) 0 [(0, .ref (r 300))] [] from hk
  refine k_follow0 X h1 hx rfl ?_
  refine k_follow1 X hx hx0 hx1 hx2 ?_
  suffices hk2 : kP 0 0 p l e rm_follow s m [.ref (r 300)].toArray below meth c E A 3 (MQ below ((qSm E r W0 v t6) A) [.ref (r 300)].toArray s rm_follow.cells rm_follow.slots A) ((gW E r shH t ++ W0) ++ []) 42 [(1, iv x), (0, .ref (r 300))] [iv (t.1 361 x.toNat), .ref (r 300)] by
    rw [List.append_nil] at hk2
    exact hk2
  refine k_callI (rest := []) X (c_dance0 l E r N W0 (t.1 361 x.toNat) t ev v t5 t6 hv hv0 h3 h4 h5) yy_X11_danceAt yi_X11_danceAt wdM_RX11_134 0 11 (by rw [List.append_nil]; exact gW_ap oH_300) rfl rfl rfl (Nat.le_of_ble_eq_true rfl) dX11_follow_42 ⟨by decide, by decide⟩ ⟨by decide, by decide⟩ (fun r9 _ h9 => ?_)
  have h9 : r9 = Int32.ofInt v := h9
  subst h9
  rw [List.append_nil]
  refine k_istore_n (lv' := [(2, iv v), (1, iv x), (0, .ref (r 300))]) X dX11_follow_45 rfl (by decide) rfl ?_
  refine k_iload_n X dX11_follow_46 0 rfl ?_
  refine k_if_ne (tgt := 63) X hv dX11_follow_47 (by decide) (fun _ => ?_) (fun h => absurd h hv0)
  refine k_iload_n X dX11_follow_63 0 rfl ?_
  exact k_iret X () rfl (List.Perm.refl _) dX11_follow_64 (by decide) (by decide)
/-- follow: the step is danced -/
theorem c_follow2 (l : Launch) (E : cE) (r : Nat → Nat) (N : Nat) (t μ t5 t6 t7 z : St) (x : Int) (ev : Int64) (B i : Nat) (len : Nat → Nat) (h1 : f_X9_chosenStep N (t.1 310 17) t = some (x, t)) (hx : inR x) (hx0 : 0 ≤ x) (hx1 : x < t.1 302 16) (hx2 : t.1 302 16 ≤ 32) (h3 : f_X3_everybody N 0 t = some (ev, t)) (h4 : f_X1_attempt N 0 (t.1 361 x.toNat) ev t = some (0, t5)) (hN : NTh N t5 μ B i len z) (h5 : f_X1_settle N 0 t5 = some t6) (h6 : f_X11_countStep N t6 = some t7) : cM l E yX11_follow cX11_follow 3 (some .int) rm_follow [.ref (r 300)] (gW E r shH t ++ exL E r B len μ) (qDn E r len μ z B i (t5.1 300 11) (t5.1 300 12) 0 (pI t7 310 17 (t7.1 310 17 + 1))) := by
  refine k_of (by decide) (Nat.le_of_ble_eq_true rfl) ?_
  intro p e s m below meth c A X
  suffices hk : kP 0 0 p l e rm_follow s m [.ref (r 300)].toArray below meth c E A 3 (MQ below ((qDn E r len μ z B i (t5.1 300 11) (t5.1 300 12) 0 (pI t7 310 17 (t7.1 310 17 + 1))) A) [.ref (r 300)].toArray s rm_follow.cells rm_follow.slots A) (gW E r shH t ++ exL E r B len μ) 0 [(0, .ref (r 300))] [] from hk
  refine k_follow0 X h1 hx rfl ?_
  refine k_follow1 X hx hx0 hx1 hx2 ?_
  suffices hk2 : kP 0 0 p l e rm_follow s m [.ref (r 300)].toArray below meth c E A 3 (MQ below ((qDn E r len μ z B i (t5.1 300 11) (t5.1 300 12) 0 (pI t7 310 17 (t7.1 310 17 + 1))) A) [.ref (r 300)].toArray s rm_follow.cells rm_follow.slots A) ((gW E r shH t ++ exL E r B len μ) ++ []) 42 [(1, iv x), (0, .ref (r 300))] [iv (t.1 361 x.toNat), .ref (r 300)] by
    rw [List.append_nil] at hk2
    exact hk2
  refine k_callI (rest := []) X (c_dance1 l E r N (t.1 361 x.toNat) t μ ev t5 t6 t7 z B i len h3 h4 hN h5 h6) yy_X11_danceAt yi_X11_danceAt wdM_RX11_134 0 11 (by rw [List.append_nil]; exact gW_ap oH_300) rfl rfl rfl (Nat.le_of_ble_eq_true rfl) dX11_follow_42 ⟨by decide, by decide⟩ ⟨by decide, by decide⟩ (fun r9 u h9 => ?_)
  obtain ⟨h9, hu⟩ := h9
  subst h9
  rw [List.append_nil]
  have e300 : r 300 = u.1 300 := (hu.1 300 (by omega)).symm
  rw [show ([(1, iv x), (0, .ref (r 300))] : List (Nat × Value)) = [(1, iv x), (0, .ref (u.1 300))] by rw [e300]]
  refine k_istore_n (lv' := [(2, iv 0), (1, iv x), (0, .ref (u.1 300))]) X dX11_follow_45 rfl (by decide) rfl ?_
  refine k_iload_n X dX11_follow_46 0 rfl ?_
  refine k_if_ne (tgt := 63) X (a := 0) (by omega) dX11_follow_47 (by decide) (fun h => absurd rfl h) (fun _ => ?_)
  refine k_aload_n X dX11_follow_50 2 rfl ?_
  refine k_getR X fH_X11_75_300 rfl dX11_follow_51 ?_
  refine k_dup X rfl dX11_follow_54 ?_
  refine k_getI X fH_X11_245_310 rfl dX11_follow_55 ?_
  refine k_iconst X dX11_follow_58 ?_
  refine k_iadd X dX11_follow_59 ?_
  refine k_putI X fH_X11_245_310w rfl dX11_follow_60 ?_
  refine k_iload_n X dX11_follow_63 0 rfl ?_
  exact k_iret X u ⟨rfl, hu⟩ (List.Perm.refl _) dX11_follow_64 (by decide) (by decide)
end KC
