/-! latest and back: the code -/
section KE
variable {p : Program} {l : Launch} {e : Env} {R : Room} {s : State} {m : MethodId} {args : Array Value} {below : List Frame} {meth : Method} {c : Code} {Q : State → Prop}
variable {E : cE} {A : Nat → Prop} {cc : ByteArray} {mL : Nat} {ret : Option FieldType} {y0 : MethodName}
variable {ws : va_W} {ce sl pc : Nat} {lv : List (Nat × Value)} {rest : List Value} {t μ : St} {r : Nat → Nat} {W0 : va_W}
theorem k_if_le (X : gX p s m meth c cc mL ret y0 args E A) {a : Int} {off : Int} {tgt : Nat} (ha : inR a) (hdg : decode cc pc = .ok (.ifCond .le off, 3)) (ht : (pc : Int) + off = (tgt : Int)) (kt : a ≤ 0 → kP ce sl p l e R s m args below meth c E A mL Q ws tgt lv rest) (kf : ¬ a ≤ 0 → kP ce sl p l e R s m args below meth c E A mL Q ws (pc + 3) lv rest) : kP ce sl p l e R s m args below meth c E A mL Q ws pc lv (iv a :: rest) := by
  intro H locs ls hP hD hS hl
  obtain ⟨hx, hb, hr, hml, hown, hts, hlk, hin⟩ := X.1
  refine lv_if_le hx hb hdg ht (fun q => ?_) (fun q => ?_)
  · exact kt ((z_le ha (by omega)).mp q) H locs ls hP hD hS hl
  · exact kf (fun k => q ((z_le ha (by omega)).mpr k)) H locs ls hP hD hS hl
theorem k_icmp_le (X : gX p s m meth c cc mL ret y0 args E A) {a b : Int} {off : Int} {tgt : Nat} (ha : inR a) (hb2 : inR b) (hdg : decode cc pc = .ok (.if_icmp .le off, 3)) (ht : (pc : Int) + off = (tgt : Int)) (kt : a ≤ b → kP ce sl p l e R s m args below meth c E A mL Q ws tgt lv rest) (kf : ¬ a ≤ b → kP ce sl p l e R s m args below meth c E A mL Q ws (pc + 3) lv rest) : kP ce sl p l e R s m args below meth c E A mL Q ws pc lv (iv b :: iv a :: rest) := by
  intro H locs ls hP hD hS hl
  obtain ⟨hx, hb, hr, hml, hown, hts, hlk, hin⟩ := X.1
  refine lv_icmp_le hx hb hdg ht (fun q => ?_) (fun q => ?_)
  · exact kt ((z_le ha hb2).mp q) H locs ls hP hD hS hl
  · exact kf (fun k => q ((z_le ha hb2).mpr k)) H locs ls hP hD hS hl
theorem k_icmp_gt (X : gX p s m meth c cc mL ret y0 args E A) {a b : Int} {off : Int} {tgt : Nat} (ha : inR a) (hb2 : inR b) (hdg : decode cc pc = .ok (.if_icmp .gt off, 3)) (ht : (pc : Int) + off = (tgt : Int)) (kt : b < a → kP ce sl p l e R s m args below meth c E A mL Q ws tgt lv rest) (kf : ¬ b < a → kP ce sl p l e R s m args below meth c E A mL Q ws (pc + 3) lv rest) : kP ce sl p l e R s m args below meth c E A mL Q ws pc lv (iv b :: iv a :: rest) := by
  intro H locs ls hP hD hS hl
  obtain ⟨hx, hb, hr, hml, hown, hts, hlk, hin⟩ := X.1
  refine lv_icmp_gt hx hb hdg ht (fun q => ?_) (fun q => ?_)
  · exact kt ((z_lt hb2 ha).mp q) H locs ls hP hD hS hl
  · exact kf (fun k => q ((z_lt hb2 ha).mpr k)) H locs ls hP hD hS hl
theorem k_ifnull (X : gX p s m meth c cc mL ret y0 args E A) {x : Nat} {off : Int} (hdg : decode cc pc = .ok (.ifnull off, 3)) (kk : kP ce sl p l e R s m args below meth c E A mL Q ws (pc + 3) lv rest) : kP ce sl p l e R s m args below meth c E A mL Q ws pc lv (.ref x :: rest) := by
  intro H locs ls hP hD hS hl
  obtain ⟨hx, hb, hr, hml, hown, hts, hlk, hin⟩ := X.1
  exact lv_ifnull hx hb hdg (kk H locs ls hP hD hS hl)
theorem k_astore_nN (X : gX p s m meth c cc mL ret y0 args E A) {k : Fin 4} {i : Nat} {lv' : List (Nat × Value)} (hdg : decode cc pc = .ok (.astore_n k, 1)) (hi : k.val = i) (hn : i < mL) (hl2 : (i, .null) :: lv.filter (fun q => !(q.1 == i) && !(q.1 + 1 == i && q.2.category == 2)) = lv') (kk : kP ce sl p l e R s m args below meth c E A mL Q ws (pc + 1) lv' rest) : kP ce sl p l e R s m args below meth c E A mL Q ws pc lv (.null :: rest) := by
  intro H locs ls hP hD hS hl
  obtain ⟨hx, hb, hr, hml, hown, hts, hlk, hin⟩ := X.1
  exact lv_astore_nN hx hb hdg hi hl hn hl2 (fun ls1 hl1 => kk H locs ls1 hP hD hS hl1)
theorem k_callQ {y : MethodName} {bytes : ByteArray} {maxL : Nat} {ret1 : Option FieldType} {rm : Room} {idx n : Nat} {As st0 : List Value} {b : Nat} {wc wr : va_W} (X : gX p s m meth c cc mL ret y0 args E A) {S : Type} {post : Option Nat → S → Prop} {w' : S → va_W} (hM : cM l E y bytes maxL ret1 rm (.ref b :: As) wc (qQ E post w')) (hY : cY y bytes maxL ret1 n) (hI : cYi y) (hlink : Cond.methodLink y0.cls idx y ∈ TB) (rq ci : Nat) {rfs : List Value} {T : u_T} {N : Nat} (hrq : (wc ++ wr)[rq]? = some (b, .inr (ci, rfs))) (hci : vwCl[ci]? = some (y.cls, T, N)) (hlen : As.length = n) (hst : st0 = As.reverse ++ .ref b :: rest) (hcat : (rest.map fun v => v.category).sum ≤ 8) (hdg : decode cc pc = .ok (.invokevirtual idx, 3)) (hR : rm.frames + 1 ≤ R.frames ∧ 8 + (maxL + 11) + rm.locals ≤ R.locals) (hf : ce + rm.cells ≤ R.cells ∧ sl + rm.slots ≤ R.slots)
    (kk : ∀ (v : Option Nat) (u : S), post v u → kP (ce + rm.cells) (sl + rm.slots) p l e R s m args below meth c E A mL Q (w' u ++ wr) (pc + 3) lv (va_rf v :: rest)) : kP ce sl p l e R s m args below meth c E A mL Q (wc ++ wr) pc lv st0 := by
  intro H locs ls hP hD hS hl
  have hdis : ∀ i ∈ List.range' wc.length wr.length, i ∉ List.range wc.length := fun i hi h2 => by
    rw [List.mem_range'_1] at hi
    rw [List.mem_range] at h2
    omega
  refine cQ_go (cM_runV X.1 hM hY hI hlink hP hD hS X.2.2.1 X.2.2.2 X.2.1 (List.range wc.length) (va_nd_of List.nodup_range) rng_1 rq ci hrq hci hlen hl.1 hst hcat hdg hR hf) hP hD hS X.2.1 (List.range wc.length) (List.range' wc.length wr.length) rng_1 rng_2 (va_nd_of List.nodup_range') hdis (fun v u H1 locs1 hu h1 h2 hS1 => ?_)
  exact kk v u hu H1 locs1 ls (h1.perm List.perm_append_comm) (h2.perm List.perm_append_comm) hS1 hl
theorem k_aret {C : String} (X : gX p s m meth c cc mL (some (.object C)) y0 args E A) {S : Type} {post : Option Nat → S → Prop} {w' : S → va_W} {mc ms : Nat} {v : Option Nat} (u : S) (hu : post v u) (hw : ws.Perm (w' u)) (hdg : decode cc pc = .ok (.areturn, 1)) (h1 : ce ≤ mc) (h2 : sl ≤ ms) : kP ce sl p l e R s m args below meth c E A mL (MQ below (qQ E post w' A) args s mc ms A) ws pc lv [va_rf v] := by
  intro H locs ls hP hD hS hl
  obtain ⟨hx, hb, hr, hml, hown, hts, hlk, hin⟩ := X.1
  refine W.widen h1 h2 ?_
  exact W.aret hx hb hr (Or.inl ⟨_, rfl⟩) (by cases v; exact Or.inl rfl; exact Or.inr ⟨_, rfl⟩) (fun t9 ht hW => ⟨⟨v, u, rfl, hu, by rw [ht]; exact hP.perm hw, va_K.moved hW.alike X.2.2.1, hD.perm hw⟩, hS.F ht⟩) hS.2.2 hdg
abbrev rm_latest : Room := { frames := 0, cells := 0, slots := 0, locals := 0 }
/-- which slot lies n steps back -/
def slB (t : St) (n : Int) : Nat := (((t.1 309 1 - n) + 200 + 1) % 201).toNat
theorem c_X4_latest (l : Launch) (E : cE) (r : Nat → Nat) (n : Int) (t μ : St) (B : Nat) (len : Nat → Nat) (h0 : 0 ≤ n ∧ n ≤ t.1 309 2) (h2 : t.1 309 2 ≤ 200) (h1 : 0 ≤ t.1 309 1 ∧ t.1 309 1 ≤ 200) : cM l E yX4_latest cX4_latest 2 (some (.object "CallerHall$Moment")) rm_latest [.ref (r 309), iv n] (gW E r shH t ++ exL E r B len μ) (qQ E (fun (r9 : Option Nat) (_ : Unit) => r9 = mQ r B (slB t n)) (fun (_ : Unit) => gW E r shH t ++ exL E r B len μ)) := by
  refine k_of (by decide) (Nat.le_of_ble_eq_true rfl) ?_
  intro p e s m below meth c A X
  suffices hk : kP 0 0 p l e rm_latest s m [.ref (r 309), iv n].toArray below meth c E A 2 (MQ below ((qQ E (fun (r9 : Option Nat) (_ : Unit) => r9 = mQ r B (slB t n)) (fun (_ : Unit) => gW E r shH t ++ exL E r B len μ)) A) [.ref (r 309), iv n].toArray s rm_latest.cells rm_latest.slots A) (gW E r shH t ++ exL E r B len μ) 0 [(0, .ref (r 309)), (1, iv n)] [] from hk
  refine k_iload_n X dX4_latest_0 1 rfl ?_
  refine k_if_lt (tgt := 36) X (by omega) dX4_latest_1 (by decide) (fun h => absurd h (by omega)) (fun _ => ?_)
  refine k_iload_n X dX4_latest_4 1 rfl ?_
  refine k_aload_n X dX4_latest_5 0 rfl ?_
  refine k_getI X fH_X4_15_309 rfl dX4_latest_6 ?_
  refine k_icmp_gt (tgt := 36) X (by omega) (by omega) dX4_latest_9 (by decide) (fun h => absurd h (by omega)) (fun _ => ?_)
  refine k_aload_n X dX4_latest_12 0 rfl ?_
  refine k_getR X fH_X4_11_309 rfl dX4_latest_13 ?_
  refine k_aload_n X dX4_latest_16 0 rfl ?_
  refine k_getI X fH_X4_19_309 rfl dX4_latest_17 ?_
  refine k_iload_n X dX4_latest_20 1 rfl ?_
  refine k_isub X dX4_latest_21 ?_
  refine k_sipush X dX4_latest_22 (by decide) ?_
  refine k_iadd X dX4_latest_25 ?_
  refine k_iconst X dX4_latest_26 ?_
  refine k_iadd X dX4_latest_27 ?_
  refine k_sipush X dX4_latest_28 (by decide) ?_
  refine k_irem X (by omega) (by omega) (by omega) (by omega) dX4_latest_31 ?_
  refine k_aald X exL_at (by omega) (by omega) dX4_latest_32 ?_
  refine k_goto (tgt := 37) X dX4_latest_33 (by decide) ?_
  exact k_aret X () rfl (List.Perm.refl _) dX4_latest_37 (by decide) (by decide)
abbrev rm_back : Room := { frames := 5, cells := 0, slots := 0, locals := 120 }
/-- back: there is nothing to go back to -/
theorem c_back0 (l : Launch) (E : cE) (r : Nat → Nat) (n : Int) (W0 : va_W) (t : St) (hn : inR n) (h2 : inR (t.1 309 2)) (h : n < 0 ∨ t.1 309 2 < n) : cM l E yX11_back cX11_back 3 (some .boolean) rm_back [.ref (r 300), iv n] (gW E r shH t ++ W0) (qSm E r W0 0 t) := by
  refine k_of (by decide) (Nat.le_of_ble_eq_true rfl) ?_
  intro p e s m below meth c A X
  suffices hk : kP 0 0 p l e rm_back s m [.ref (r 300), iv n].toArray below meth c E A 3 (MQ below ((qSm E r W0 0 t) A) [.ref (r 300), iv n].toArray s rm_back.cells rm_back.slots A) (gW E r shH t ++ W0) 0 [(0, .ref (r 300)), (1, iv n)] [] from hk
  refine k_iload_n X dX11_back_0 1 rfl ?_
  have fin : kP 0 0 p l e rm_back s m [.ref (r 300), iv n].toArray below meth c E A 3 (MQ below ((qSm E r W0 0 t) A) [.ref (r 300), iv n].toArray s rm_back.cells rm_back.slots A) (gW E r shH t ++ W0) 15 [(0, .ref (r 300)), (1, iv n)] [] := by
    refine k_iconst X dX11_back_15 ?_
    exact k_zret X (Or.inl (by decide)) () rfl (List.Perm.refl _) dX11_back_16 (by decide) (by decide)
  refine k_if_lt (tgt := 15) X hn dX11_back_1 (by decide) (fun _ => fin) (fun hq => ?_)
  refine k_iload_n X dX11_back_4 1 rfl ?_
  refine k_aload_n X dX11_back_5 0 rfl ?_
  refine k_getR X fH_X11_66_300 rfl dX11_back_6 ?_
  refine k_getI X fH_X11_195_309 rfl dX11_back_9 ?_
  exact k_icmp_le (tgt := 17) X hn h2 dX11_back_12 (by decide) (fun h9 => absurd h9 (by omega)) (fun _ => fin)
/-- the first half of back -/
theorem k_back0 (X : gX p s m meth c cX11_back 3 (some .boolean) yX11_back args E A) {n : Int} {B : Nat} {len : Nat → Nat} (h0 : 0 ≤ n ∧ n ≤ t.1 309 2) (h2 : t.1 309 2 ≤ 200) (h1 : 0 ≤ t.1 309 1 ∧ t.1 309 1 ≤ 200) (hR : R = rm_back) (kk : kP 0 0 p l e R s m args below meth c E A 3 Q (gW E r shH t ++ exL E r B len μ) 25 [(0, .ref (r 300)), (1, iv n)] [va_rf (mQ r B (slB t n))]) : kP 0 0 p l e R s m args below meth c E A 3 Q (gW E r shH t ++ exL E r B len μ) 0 [(0, .ref (r 300)), (1, iv n)] [] := by
  subst hR
  refine k_iload_n X dX11_back_0 1 rfl ?_
  refine k_if_lt (tgt := 15) X (by omega) dX11_back_1 (by decide) (fun h => absurd h (by omega)) (fun _ => ?_)
  refine k_iload_n X dX11_back_4 1 rfl ?_
  refine k_aload_n X dX11_back_5 0 rfl ?_
  refine k_getR X fH_X11_66_300 rfl dX11_back_6 ?_
  refine k_getI X fH_X11_195_309 rfl dX11_back_9 ?_
  refine k_icmp_le (tgt := 17) X (by omega) (by omega) dX11_back_12 (by decide) (fun _ => ?_) (fun h => absurd h0.2 h)
  refine k_aload_n X dX11_back_17 0 rfl ?_
  refine k_getR X fH_X11_66_300 rfl dX11_back_18 ?_
  refine k_iload_n X dX11_back_21 1 rfl ?_
  suffices hk2 : kP 0 0 p l e rm_back s m args below meth c E A 3 Q ((gW E r shH t ++ exL E r B len μ) ++ []) 22 [(0, .ref (r 300)), (1, iv n)] [iv n, .ref (r 309)] by
    rw [List.append_nil] at hk2
    exact hk2
  refine k_callQ (rest := []) X (c_X4_latest l E r n t μ B len h0 h2 h1) yy_X4_latest yi_X4_latest wdM_RX11_196 9 4 (by rw [List.append_nil]; exact gW_ap oH_309) rfl rfl rfl (Nat.le_of_ble_eq_true rfl) dX11_back_22 ⟨by decide, by decide⟩ ⟨by decide, by decide⟩ (fun v _ hv => ?_)
  have hv : v = mQ r B (slB t n) := hv
  subst hv
  rw [List.append_nil]
  exact kk
/-- back by nothing -/
theorem c_back1 (l : Launch) (E : cE) (r : Nat → Nat) (B : Nat) (len : Nat → Nat) (t μ : St) (h0 : 0 ≤ t.1 309 2) (h2 : t.1 309 2 ≤ 200) (h1 : 0 ≤ t.1 309 1 ∧ t.1 309 1 ≤ 200) : cM l E yX11_back cX11_back 3 (some .boolean) rm_back [.ref (r 300), iv 0] (gW E r shH t ++ exL E r B len μ) (qSm E r (exL E r B len μ) 1 t) := by
  refine k_of (by decide) (Nat.le_of_ble_eq_true rfl) ?_
  intro p e s m below meth c A X
  suffices hk : kP 0 0 p l e rm_back s m [.ref (r 300), iv 0].toArray below meth c E A 3 (MQ below ((qSm E r (exL E r B len μ) 1 t) A) [.ref (r 300), iv 0].toArray s rm_back.cells rm_back.slots A) (gW E r shH t ++ exL E r B len μ) 0 [(0, .ref (r 300)), (1, iv 0)] [] from hk
  refine k_back0 (n := 0) X ⟨by omega, h0⟩ h2 h1 rfl ?_
  have fin : kP 0 0 p l e rm_back s m [.ref (r 300), iv 0].toArray below meth c E A 3 (MQ below ((qSm E r (exL E r B len μ) 1 t) A) [.ref (r 300), iv 0].toArray s rm_back.cells rm_back.slots A) (gW E r shH t ++ exL E r B len μ) 26 [(0, .ref (r 300)), (1, iv 0)] [] := by
    refine k_iload_n X dX11_back_26 1 rfl ?_
    refine k_if_le (tgt := 70) X (a := 0) (by omega) dX11_back_27 (by decide) (fun _ => ?_) (fun h => absurd (Int.le_refl 0) h)
    refine k_iconst X dX11_back_70 ?_
    exact k_zret X (Or.inr (by decide)) () rfl (List.Perm.refl _) dX11_back_71 (by decide) (by decide)
  cases hq : mQ r B (slB t 0) with
  | none =>
    refine k_astore_nN (lv' := [(2, .null), (0, .ref (r 300)), (1, iv 0)]) X dX11_back_25 rfl (by decide) rfl ?_
    exact k_sub [1, 2] rfl fin
  | some a =>
    refine k_astore_n (lv' := [(2, .ref a), (0, .ref (r 300)), (1, iv 0)]) X dX11_back_25 rfl (by decide) rfl ?_
    exact k_sub [1, 2] rfl fin
/-- back by n steps -/
theorem c_back2 (l : Launch) (E : cE) (r : Nat → Nat) (N : Nat) (n : Int) (B i : Nat) (len : Nat → Nat) (t μ z t9 : St) (h0 : 0 < n ∧ n ≤ t.1 309 2) (h2 : t.1 309 2 ≤ 200) (h1 : 0 ≤ t.1 309 1 ∧ t.1 309 1 ≤ 200) (hi : slB t n = i) (hB : i < B ∧ B ≤ 201) (h3 : t.1 311 3 ≤ 1000) (hl : len i ≤ 1500) (hz : f_X5_restore N 0 0 (len i) (cmb t μ i) = some z) (hz3 : z.1 311 3 ≤ 1000) (hzm : z.1 1000 = μ.1 (1000 + i) ∧ z.1 1300 = μ.1 (1300 + i) ∧ z.2 1000 = μ.2 (1000 + i) ∧ z.2 1600 = μ.2 (1600 + i)) (hd : f_X4_drop N n (pI (pI z 300 11 (z.1 1000 6)) 300 12 (z.1 1000 7)) = some t9) : cM l E yX11_back cX11_back 3 (some .boolean) rm_back [.ref (r 300), iv n] (gW E r shH t ++ exL E r B len μ) (qSm E r (exL E r B len μ) 1 t9) := by
  refine k_of (by decide) (Nat.le_of_ble_eq_true rfl) ?_
  intro p e s m below meth c A X
  suffices hk : kP 0 0 p l e rm_back s m [.ref (r 300), iv n].toArray below meth c E A 3 (MQ below ((qSm E r (exL E r B len μ) 1 t9) A) [.ref (r 300), iv n].toArray s rm_back.cells rm_back.slots A) (gW E r shH t ++ exL E r B len μ) 0 [(0, .ref (r 300)), (1, iv n)] [] from hk
  refine k_back0 (n := n) X ⟨by omega, h0.2⟩ h2 h1 rfl ?_
  rw [hi, show mQ r B i = some (r (1000 + i)) from if_pos hB.1]
  refine k_astore_n (lv' := [(2, .ref (r (1000 + i))), (0, .ref (r 300)), (1, iv n)]) X dX11_back_25 rfl (by decide) rfl ?_
  refine k_iload_n X dX11_back_26 2 rfl ?_
  refine k_if_le (tgt := 70) X (by omega) dX11_back_27 (by decide) (fun h => absurd h (by omega)) (fun _ => ?_)
  refine k_aload_n X dX11_back_30 0 rfl ?_
  refine k_ifnull X dX11_back_31 ?_
  refine k_aload_n X dX11_back_34 0 rfl ?_
  refine k_aload_n X dX11_back_35 1 rfl ?_
  refine k_getR X fH_X11_44_300 rfl dX11_back_36 ?_
  refine k_aload_n X dX11_back_39 1 rfl ?_
  refine k_getR X fH_X11_56_300 rfl dX11_back_40 ?_
  have hperm : (gW E r shH t ++ exL E r B len μ).Perm (gW E (rsl r i) (shH ++ exN (len i)) (cmb t μ i) ++ mR E r B len μ i) := by
    rw [gW_cmb h3, List.append_assoc]
    exact List.Perm.append_left _ (exL_pick hB.1)
  refine k_perm hperm ?_
  refine k_callV (rest := []) X (cx_X5_restore l E (rsl r i) N (exN (len i)) (gU_N _) (len i) (EX5_N hl) 0 (by decide) 0 (by decide) (cmb t μ i) z hz) yy_X5_restore yi_X5_restore wdM_RX11_200 81 5 (gW_ap (oX_at (EX5_N hl))) rfl rfl rfl (Nat.le_of_ble_eq_true rfl) dX11_back_43 ⟨by decide, by decide⟩ ⟨by decide, by decide⟩ (fun _ _ => ?_)
  refine k_aload_n X dX11_back_46 1 rfl ?_
  refine k_aload_n X dX11_back_47 0 rfl ?_
  refine k_getI (r := rsl r i) (id := 1000) X (fX_X11_206 (EX5_N hl)) rfl dX11_back_48 ?_
  refine k_putI (r := rsl r i) (id := 300) X (gFw.ap (gU_N _) fH_X11_158_300w) rfl dX11_back_51 ?_
  refine k_aload_n X dX11_back_54 1 rfl ?_
  refine k_aload_n X dX11_back_55 0 rfl ?_
  refine k_getI (r := rsl r i) (id := 1000) X (fX_X11_207 (EX5_N hl)) rfl dX11_back_56 ?_
  refine k_putI (r := rsl r i) (id := 300) X (gFw.ap (gU_N _) fH_X11_161_300w) rfl dX11_back_59 ?_
  rw [show (pI z 300 11 (z.1 1000 6)).1 1000 7 = z.1 1000 7 by rw [pI_ne (by decide)]]
  generalize hw : pI (pI z 300 11 (z.1 1000 6)) 300 12 (z.1 1000 7) = w at hd ⊢
  have w1 : ∀ a, a ≠ 300 → w.1 a = z.1 a := fun a ha => by rw [← hw, pI_ne ha, pI_ne ha]
  have w2 : w.2 = z.2 := by rw [← hw]; rfl
  have hperm2 : (gW E (rsl r i) (shH ++ exN (len i)) w ++ mR E r B len μ i).Perm (gW E r shH w ++ exL E r B len μ) := by
    have e1 : gW E (rsl r i) shH w = gW E r shH w := gW_cg shB_H (fun id hid => by unfold rsl; rw [if_neg (by omega), if_neg (by omega), if_neg (by omega)]) (fun _ _ => ⟨rfl, rfl⟩) (by rw [w1 311 (by decide)]; exact hz3)
    have e2 : gW E (rsl r i) (exN (len i)) w = mC E r len μ i := by
      rw [gW_mom, w1 1000 (by decide), w1 1300 (by decide), w2, hzm.1, hzm.2.1, hzm.2.2.1, hzm.2.2.2]
      rfl
    rw [gW_app, e1, e2, List.append_assoc]
    exact List.Perm.append_left _ (exL_pick hB.1).symm
  refine k_perm hperm2 ?_
  refine k_aload_n X dX11_back_62 1 rfl ?_
  refine k_getR X fH_X11_66_300 rfl dX11_back_63 ?_
  refine k_iload_n X dX11_back_66 2 rfl ?_
  refine k_hV (rest := []) X (cp_X4_drop l E r N n w t9 hd) yy_X4_drop yi_X4_drop wdM_RX11_208 ⟨_, _, oH_309⟩ rfl rfl rfl (Nat.le_of_ble_eq_true rfl) dX11_back_67 ⟨by decide, by decide⟩ ⟨rfl, rfl⟩ ⟨by decide, by decide⟩ ?_
  refine k_iconst X dX11_back_70 ?_
  exact k_zret X (Or.inr (by decide)) () rfl (List.Perm.refl _) dX11_back_71 (by decide) (by decide)
end KE
