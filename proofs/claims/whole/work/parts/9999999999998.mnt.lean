/-! History.note -/
theorem dX4_note_0 : decode cX4_note 0 = .ok (.aload_n 0, 1) := by decide +kernel
theorem dX4_note_1 : decode cX4_note 1 = .ok (.getfield 11, 3) := by decide +kernel
theorem dX4_note_4 : decode cX4_note 4 = .ok (.aload_n 0, 1) := by decide +kernel
theorem dX4_note_5 : decode cX4_note 5 = .ok (.getfield 19, 3) := by decide +kernel
theorem dX4_note_8 : decode cX4_note 8 = .ok (.aaload, 1) := by decide +kernel
theorem dX4_note_9 : decode cX4_note 9 = .ok (.ifnonnull 19, 3) := by decide +kernel
theorem dX4_note_12 : decode cX4_note 12 = .ok (.aload_n 0, 1) := by decide +kernel
theorem dX4_note_13 : decode cX4_note 13 = .ok (.getfield 11, 3) := by decide +kernel
theorem dX4_note_16 : decode cX4_note 16 = .ok (.aload_n 0, 1) := by decide +kernel
theorem dX4_note_17 : decode cX4_note 17 = .ok (.getfield 19, 3) := by decide +kernel
theorem dX4_note_20 : decode cX4_note 20 = .ok (.new 9, 3) := by decide +kernel
theorem dX4_note_23 : decode cX4_note 23 = .ok (.dup, 1) := by decide +kernel
theorem dX4_note_24 : decode cX4_note 24 = .ok (.invokespecial 22, 3) := by decide +kernel
theorem dX4_note_27 : decode cX4_note 27 = .ok (.aastore, 1) := by decide +kernel
theorem dX4_note_28 : decode cX4_note 28 = .ok (.aload_n 0, 1) := by decide +kernel
theorem dX4_note_29 : decode cX4_note 29 = .ok (.getfield 11, 3) := by decide +kernel
theorem dX4_note_32 : decode cX4_note 32 = .ok (.aload_n 0, 1) := by decide +kernel
theorem dX4_note_33 : decode cX4_note 33 = .ok (.getfield 19, 3) := by decide +kernel
theorem dX4_note_36 : decode cX4_note 36 = .ok (.aaload, 1) := by decide +kernel
theorem dX4_note_37 : decode cX4_note 37 = .ok (.astore 5, 2) := by decide +kernel
theorem dX4_note_39 : decode cX4_note 39 = .ok (.aload 5, 2) := by decide +kernel
theorem dX4_note_41 : decode cX4_note 41 = .ok (.aload_n 1, 1) := by decide +kernel
theorem dX4_note_42 : decode cX4_note 42 = .ok (.aload_n 2, 1) := by decide +kernel
theorem dX4_note_43 : decode cX4_note 43 = .ok (.invokevirtual 23, 3) := by decide +kernel
theorem dX4_note_46 : decode cX4_note 46 = .ok (.aload 5, 2) := by decide +kernel
theorem dX4_note_48 : decode cX4_note 48 = .ok (.iload_n 3, 1) := by decide +kernel
theorem dX4_note_49 : decode cX4_note 49 = .ok (.putfield 27, 3) := by decide +kernel
theorem dX4_note_52 : decode cX4_note 52 = .ok (.aload 5, 2) := by decide +kernel
theorem dX4_note_54 : decode cX4_note 54 = .ok (.iload 4, 2) := by decide +kernel
theorem dX4_note_56 : decode cX4_note 56 = .ok (.putfield 30, 3) := by decide +kernel
theorem dX4_note_59 : decode cX4_note 59 = .ok (.return_, 1) := by decide +kernel
theorem yy_X4_note : cY yX4_note cX4_note 6 none 4 := ⟨wdK_X4_note, wdZ_RX4, by decide +kernel⟩
theorem yi_X4_note : cYi yX4_note := ⟨wdN_X4_note, wdS_X4_note⟩
theorem gU_N (n : Nat) : gU (shH ++ exN n) := gU_of (show va_nd ((shH ++ exN n).map (fun q => q.1)) = true from (show va_nd ((shH ++ exN 0).map (fun q => q.1)) = true by decide))
theorem gW_len {E : cE} {r : Nat → Nat} {t : St} : (gW E r shH t).length = 81 := by unfold gW; rw [List.length_map]; rfl
theorem exL_at {E : cE} {r : Nat → Nat} {t μ : St} {B : Nat} {len : Nat → Nat} : (gW E r shH t ++ exL E r B len μ)[81]? = some (r 420, aQ E 201 (mQ r B)) := by
  rw [List.getElem?_append_right (by rw [gW_len]; exact Nat.le_refl _), gW_len]
  rfl
section KH
variable {p : Program} {l : Launch} {e : Env} {R : Room} {s : State} {m : MethodId} {args : Array Value} {below : List Frame} {meth : Method} {c : Code} {Q : State → Prop}
variable {E : cE} {A : Nat → Prop} {cc : ByteArray} {mL : Nat} {ret : Option FieldType} {y0 : MethodName}
variable {ws : va_W} {ce sl pc : Nat} {lv : List (Nat × Value)} {rest : List Value} {t μ : St} {r : Nat → Nat}
theorem k_aald (X : gX p s m meth c cc mL ret y0 args E A) {a q0 : Nat} {f : Nat → Option Nat} (ha : ws[q0]? = some (a, aQ E 201 f)) {i : Int} (h0 : 0 ≤ i) (h1 : i < 201) (hdg : decode cc pc = .ok (.aaload, 1)) (kk : kP ce sl p l e R s m args below meth c E A mL Q ws (pc + 1) lv (va_rf (f i.toNat) :: rest)) : kP ce sl p l e R s m args below meth c E A mL Q ws pc lv (iv i :: .ref a :: rest) := by
  intro H locs ls hP hD hS hl
  obtain ⟨hx, hb, hr, hml, hown, hts, hlk, hin⟩ := X.1
  refine va_aldq hx hb X.2.2.1 hP q0 4 ha rfl (vp_in_z h0 (by omega) (by decide)) hdg ?_
  rw [z_cl h0 (by omega)]
  exact kk H locs ls hP hD hS hl
theorem k_aast (X : gX p s m meth c cc mL ret y0 args E A) {a q0 qk v : Nat} {vs : List Value} {f : Nat → Option Nat} (ha : ws[q0]? = some (a, aQ E 201 f)) (hv : ws[qk]? = some (v, .inr (5, vs))) {i : Int} (h0 : 0 ≤ i) (h1 : i < 201) (hdg : decode cc pc = .ok (.aastore, 1)) (kk : kP ce sl p l e R s m args below meth c E A mL Q (ws.set q0 (a, aQ E 201 (va_up f i.toNat (some v)))) (pc + 1) lv rest) : kP ce sl p l e R s m args below meth c E A mL Q ws pc lv (.ref v :: iv i :: .ref a :: rest) := by
  intro H locs ls hP hD hS hl
  obtain ⟨hx, hb, hr, hml, hown, hts, hlk, hin⟩ := X.1
  refine va_astq (r := (RX5, TX5, 8)) hx hb X.2.2.1 hP hD hS q0 4 qk 5 ha rfl hv rfl (vp_in_z h0 (by omega) (by decide)) hdg (fun H1 locs1 hP1 hD1 hS1 => ?_)
  rw [z_cl h0 (by omega)] at hP1 hD1
  exact kk H1 locs1 ls hP1 hD1 hS1 hl
theorem k_nn (X : gX p s m meth c cc mL ret y0 args E A) {x : Nat} {off : Int} {tgt : Nat} (hdg : decode cc pc = .ok (.ifnonnull off, 3)) (ht : (pc : Int) + off = (tgt : Int)) (kk : kP ce sl p l e R s m args below meth c E A mL Q ws tgt lv rest) : kP ce sl p l e R s m args below meth c E A mL Q ws pc lv (.ref x :: rest) := by
  intro H locs ls hP hD hS hl
  obtain ⟨hx, hb, hr, hml, hown, hts, hlk, hin⟩ := X.1
  exact lv_ifnonnull hx hb hdg ht (kk H locs ls hP hD hS hl)
theorem k_nnN (X : gX p s m meth c cc mL ret y0 args E A) {off : Int} (hdg : decode cc pc = .ok (.ifnonnull off, 3)) (kk : kP ce sl p l e R s m args below meth c E A mL Q ws (pc + 3) lv rest) : kP ce sl p l e R s m args below meth c E A mL Q ws pc lv (.null :: rest) := by
  intro H locs ls hP hD hS hl
  obtain ⟨hx, hb, hr, hml, hown, hts, hlk, hin⟩ := X.1
  exact lv_ifnonnullN hx hb hdg (kk H locs ls hP hD hS hl)
theorem k_dup (X : gX p s m meth c cc mL ret y0 args E A) {v : Value} (hc : v.category = 1) (hdg : decode cc pc = .ok (.dup, 1)) (kk : kP ce sl p l e R s m args below meth c E A mL Q ws (pc + 1) lv (v :: v :: rest)) : kP ce sl p l e R s m args below meth c E A mL Q ws pc lv (v :: rest) := by
  intro H locs ls hP hD hS hl
  obtain ⟨hx, hb, hr, hml, hown, hts, hlk, hin⟩ := X.1
  exact lv_dup hx hb hdg hc (kk H locs ls hP hD hS hl)
/-- a new Moment, made by the history -/
theorem k_newM (X : gX p s m meth c cX4_note mL ret yX4_note args E A) (hc : ce + 3 ≤ R.cells) (hs : sl + 76 ≤ R.slots) (hR : 2 ≤ R.frames ∧ 40 ≤ R.locals) {ra : Nat} {i : Int} (kk : ∀ q a b : Nat, kP (ce + 3) (sl + 76) p l e R s m args below meth c E A mL Q ([(q, ob 5 [.ref a, .int 0, .int 0, .long 0, .ref b, .int 0, .int 0, .int 0]), (a, aI E 64 (fun _ => 0)), (b, aJ E 4 (fun _ => 0))] ++ ws) 27 lv [.ref q, iv i, .ref ra]) : kP ce sl p l e R s m args below meth c E A mL Q ws 20 lv [iv i, .ref ra] := by
  intro H locs ls hP hD hS hl
  obtain ⟨hx, hb, hr, hml, hown, hts, hlk, hin⟩ := id X.1
  have hown : s.vm.findClass RX4 = some m.cls := hown
  obtain ⟨_, _, hAO, hN_RX11_18, hN_RX11_43, hN_RX11_65, hN_RX10_83, hN_RX4_22, hStr⟩ := id X.2.2.2
  refine va_new (D := E.1) (cl := vwCl) (ci := 5) (fs := [.null, .int 0, .int 0, .long 0, .null, .int 0, .int 0, .int 0]) (C := RX5) (T := TX5) (N := 8) hx hb hts iX5 tyX5 tyX5_ok hown (hts _ wdC_RX4_9) (hts _ wdI_RX5) (hts _ wdZ_RX5) X.2.2.1 hP hD hS X.2.1 rfl zX5 (by omega) (by omega) dX4_note_20 (fun q H1 hP1 hD1 hS1 => ?_)
  have pq : (ws ++ [(q, ob 5 [.null, .int 0, .int 0, .long 0, .null, .int 0, .int 0, .int 0])]).Perm ([(q, ob 5 [.null, .int 0, .int 0, .long 0, .null, .int 0, .int 0, .int 0])] ++ ws) := List.perm_append_comm
  have hP2 := hP1.perm pq
  have hD2 := hD1.perm pq
  refine lv_dup hx hb dX4_note_23 rfl ?_
  have hdis : ∀ i ∈ List.range' 1 ws.length, i ∉ List.range 1 := fun i hi h2 => by
    rw [List.mem_range'_1] at hi
    rw [List.mem_range] at h2
    omega
  refine cV_go (wc := [(q, ob 5 [.null, .int 0, .int 0, .long 0, .null, .int 0, .int 0, .int 0])]) (wr := ws) (cM_runIN (As := []) (rest := [.ref q, iv i, .ref ra]) X.1 (c_X5_init l E q) yy_X5_init wdN_X5_init rfl hN_RX4_22 hP2 hD2 hS1 X.2.2.1 X.2.2.2 X.2.1 (List.range 1) rfl rng_1 rfl hl.1 rfl (Nat.le_of_ble_eq_true rfl) dX4_note_24 ⟨hR.1, hR.2⟩ ⟨by show ce + 1 + 2 ≤ R.cells; omega, by show sl + 8 + 68 ≤ R.slots; omega⟩) hP2 hD2 hS1 X.2.1 (List.range 1) (List.range' 1 ws.length) rng_1 rng_2 (va_nd_of List.nodup_range') hdis (fun u H3 locs3 hu h1 h2 hS3 => ?_)
  have pq2 : (ws ++ [(q, ob 5 [.ref u.1, .int 0, .int 0, .long 0, .ref u.2, .int 0, .int 0, .int 0]), (u.1, aI E 64 (fun _ => 0)), (u.2, aJ E 4 (fun _ => 0))]).Perm ([(q, ob 5 [.ref u.1, .int 0, .int 0, .long 0, .ref u.2, .int 0, .int 0, .int 0]), (u.1, aI E 64 (fun _ => 0)), (u.2, aJ E 4 (fun _ => 0))] ++ ws) := List.perm_append_comm
  exact kk q u.1 u.2 H3 locs3 ls (h1.perm pq2) (h2.perm pq2) hS3 hl
/-- what History.note comes to -/
abbrev qNt (E : cE) (r : Nat → Nat) (len : Nat → Nat) (μ t z : St) (B i : Nat) (b st : Int) := qV E (fun (u : (Nat → Nat) × (Nat → Nat)) => (∀ id, id < 1000 → u.1 id = r id) ∧ (∀ j, j ≠ i → u.2 j = len j) ∧ u.2 i ≤ 1500 ∧ z.1 1000 5 ≤ (u.2 i : Int)) (fun (u : (Nat → Nat) × (Nat → Nat)) => gW E u.1 shH t ++ exL E u.1 B u.2 (mU μ i z b st))
set_option maxHeartbeats 1000000 in
theorem nt_tail {B i N : Nat} {len len0 r0 : Nat → Nat} {z μ0 : St} {b st : Int} {mc ms : Nat} (X : gX p s m meth c cX4_note 6 none yX4_note args E A) (hi : t.1 309 1 = i) (hB : i < B ∧ B ≤ 201) (h3 : t.1 311 3 ≤ 1000) (hl : len i ≤ 1500) (hz : f_X5_note N 0 0 (len i) (cmb t μ i) = some z) (hzf : ∀ id, id < 1000 → z.1 id = t.1 id ∧ z.2 id = t.2 id) (hR : 3 ≤ R.frames ∧ 90 ≤ R.locals) (hf : ce + 1 ≤ R.cells ∧ sl + 1500 ≤ R.slots) (hm : ce + 1 ≤ mc ∧ sl + 1500 ≤ ms) (h0 : (∀ id, id < 1000 → r id = r0 id) ∧ (∀ j, j ≠ i → len j = len0 j) ∧ mU μ i z b st = mU μ0 i z b st) :
    kP ce sl p l e R s m args below meth c E A 6 (MQ below ((qNt E r0 len0 μ0 t z B i b st) A) args s mc ms A) (gW E r shH t ++ exL E r B len μ) 28 [(0, .ref (r 309)), (1, .ref (r (305 + 0))), (2, .ref (r (307 + 0))), (3, iv b), (4, iv st)] [] := by
  have hi2 : i < 201 := by omega
  refine k_aload_n X dX4_note_28 0 rfl ?_
  refine k_getR X fH_X4_11_309 rfl dX4_note_29 ?_
  refine k_aload_n X dX4_note_32 0 rfl ?_
  refine k_getI X fH_X4_19_309 rfl dX4_note_33 ?_
  rw [hi]
  refine k_aald X exL_at (by omega) (by omega) dX4_note_36 ?_
  rw [Int.toNat_natCast, show mQ r B i = some (r (1000 + i)) from if_pos hB.1]
  refine k_astore (lv' := [(5, .ref (r (1000 + i))), (0, .ref (r 309)), (1, .ref (r (305 + 0))), (2, .ref (r (307 + 0))), (3, iv b), (4, iv st)]) X dX4_note_37 (by decide) rfl ?_
  refine k_aload X dX4_note_39 0 rfl ?_
  refine k_aload_n X dX4_note_41 2 rfl ?_
  refine k_aload_n X dX4_note_42 3 rfl ?_
  have hperm : (gW E r shH t ++ exL E r B len μ).Perm (gW E (rsl r i) (shH ++ exN (len i)) (cmb t μ i) ++ mR E r B len μ i) := by
    rw [gW_cmb h3, List.append_assoc]
    exact List.Perm.append_left _ (exL_pick hB.1)
  refine k_perm hperm ?_
  have hz3 : z.1 311 3 ≤ 1000 := by rw [(hzf 311 (by omega)).1]; exact h3
  refine k_callV (rest := []) X (cx_X5_note l E (rsl r i) N (exN (len i)) (gU_N _) (len i) (EX5_N hl) 0 (by decide) 0 (by decide) (cmb t μ i) z hz3 hz) yy_X5_note yi_X5_note wdM_RX4_23 81 5 (gW_ap (oX_at (EX5_N hl))) rfl rfl rfl (Nat.le_of_ble_eq_true rfl) dX4_note_43 ⟨hR.1, by show 8 + (4 + 11) + 60 ≤ R.locals; omega⟩ hf (fun u hu => ?_)
  obtain ⟨q, n2⟩ := u
  obtain ⟨hu1, hu2⟩ := hu
  have hu1 : n2 ≤ 1500 := hu1
  have hu2 : z.1 1000 5 ≤ (n2 : Int) := hu2
  refine k_aload X dX4_note_46 0 rfl ?_
  refine k_iload_n X dX4_note_48 4 rfl ?_
  refine k_putI (r := rup (rsl r i) q) (id := 1000) X (fX_X4_27w (gU_N n2) (EX5_N hu1)) rfl dX4_note_49 ?_
  refine k_aload X dX4_note_52 0 rfl ?_
  refine k_iload X dX4_note_54 5 rfl ?_
  refine k_putI (r := rup (rsl r i) q) (id := 1000) X (fX_X4_30w (gU_N n2) (EX5_N hu1)) rfl dX4_note_56 ?_
  refine k_vret X ((fun id => if id = 1600 + i then q else r id, fun j => if j = i then n2 else len j) : (Nat → Nat) × (Nat → Nat)) ⟨fun id hid => (if_neg (by omega)).trans (h0.1 id hid), fun j hj => (if_neg hj).trans (h0.2.1 j hj), ?_, ?_⟩ ?_ dX4_note_59 hm.1 hm.2
  · show (if i = i then n2 else len i) ≤ 1500
    rw [if_pos rfl]; exact hu1
  · show z.1 1000 5 ≤ ((if i = i then n2 else len i : Nat) : Int)
    rw [if_pos rfl]; exact hu2
  · show (gW E (rup (rsl r i) q) (shH ++ exN n2) (pI (pI z 1000 6 b) 1000 7 st) ++ mR E r B len μ i).Perm (gW E (fun id => if id = 1600 + i then q else r id) shH t ++ exL E (fun id => if id = 1600 + i then q else r id) B (fun j => if j = i then n2 else len j) (mU μ0 i z b st))
    rw [← h0.2.2]
    have hc := mU_c (μ := μ) (z := z) (b := b) (st := st) hi2
    have e1 : gW E (rup (rsl r i) q) shH (pI (pI z 1000 6 b) 1000 7 st) = gW E r shH t := gW_cg shB_H (fun id hid => by rw [rup_ne (by omega)]; unfold rsl; rw [if_neg (by omega), if_neg (by omega), if_neg (by omega)]) (fun id hid => ⟨by rw [pI_ne (by omega), pI_ne (by omega)]; exact (hzf id hid).1, (hzf id hid).2⟩) h3
    have e2 : gW E (fun id => if id = 1600 + i then q else r id) shH t = gW E r shH t := gW_cg shB_H (fun id hid => if_neg (by omega)) (fun id hid => ⟨rfl, rfl⟩) h3
    have e3 : mR E (fun id => if id = 1600 + i then q else r id) B (fun j => if j = i then n2 else len j) (mU μ i z b st) i = mR E r B len μ i := mR_cg ⟨if_neg (by omega), fun j hj => if_neg (by omega)⟩ (fun j hj hji => ⟨⟨if_neg (by omega), if_neg (by omega)⟩, if_neg hji, mU_o hi2 (by omega) hji⟩)
    have e4 : mC E (fun id => if id = 1600 + i then q else r id) (fun j => if j = i then n2 else len j) (mU μ i z b st) i = gW E (rup (rsl r i) q) (exN n2) (pI (pI z 1000 6 b) 1000 7 st) := by
      rw [gW_mom]
      unfold mC
      rw [hc.1, hc.2.1, hc.2.2.1, hc.2.2.2]
      rw [show rup (rsl r i) q 1600 = q from rfl, show rup (rsl r i) q 1000 = r (1000 + i) from rfl, show rup (rsl r i) q 1300 = r (1300 + i) from rfl]
      dsimp only
      rw [if_neg (show ¬ 1000 + i = 1600 + i by omega), if_neg (show ¬ 1300 + i = 1600 + i by omega), if_pos (show 1600 + i = 1600 + i from rfl), if_pos (show i = i from rfl)]
      rfl
    rw [e2]
    refine List.Perm.symm (List.Perm.trans (List.Perm.append_left _ (exL_pick hB.1)) ?_)
    rw [e3, e4, gW_app, e1, List.append_assoc]
abbrev zZ : St := (fun _ _ => 0, fun _ _ => 0)
abbrev rm_X4_note : Room := { frames := 3, cells := 4, slots := 1576, locals := 100 }
set_option maxHeartbeats 1000000 in
theorem c_X4_note (l : Launch) (E : cE) (r : Nat → Nat) (N : Nat) (t μ : St) (B i : Nat) (len : Nat → Nat) (b st : Int) (z : St) (hi : t.1 309 1 = i) (hB : i ≤ B ∧ B ≤ 201 ∧ i < 201) (h3 : t.1 311 3 ≤ 1000) (hl : i < B → len i ≤ 1500) (hz : f_X5_note N 0 0 (if i < B then len i else 4) (cmb t (if i < B then μ else mU μ i zZ 0 0) i) = some z) (hzf : ∀ id, id < 1000 → z.1 id = t.1 id ∧ z.2 id = t.2 id) : cM l E yX4_note cX4_note 6 none rm_X4_note [.ref (r 309), .ref (r (305 + 0)), .ref (r (307 + 0)), iv b, iv st] (gW E r shH t ++ exL E r B len μ) (qNt E r len μ t z (if i < B then B else B + 1) i b st) := by
  refine k_of (by decide) (Nat.le_of_ble_eq_true rfl) ?_
  intro p e s m below meth c A X
  suffices hk : kP 0 0 p l e rm_X4_note s m [.ref (r 309), .ref (r (305 + 0)), .ref (r (307 + 0)), iv b, iv st].toArray below meth c E A 6 (MQ below ((qNt E r len μ t z (if i < B then B else B + 1) i b st) A) [.ref (r 309), .ref (r (305 + 0)), .ref (r (307 + 0)), iv b, iv st].toArray s rm_X4_note.cells rm_X4_note.slots A) (gW E r shH t ++ exL E r B len μ) 0 [(0, .ref (r 309)), (1, .ref (r (305 + 0))), (2, .ref (r (307 + 0))), (3, iv b), (4, iv st)] [] from hk
  refine k_aload_n X dX4_note_0 0 rfl ?_
  refine k_getR X fH_X4_11_309 rfl dX4_note_1 ?_
  refine k_aload_n X dX4_note_4 0 rfl ?_
  refine k_getI X fH_X4_19_309 rfl dX4_note_5 ?_
  rw [hi]
  refine k_aald X exL_at (by omega) (by omega) dX4_note_8 ?_
  rw [Int.toNat_natCast]
  by_cases hc : i < B
  · rw [if_pos hc] at hz
    rw [if_pos hc] at hz
    rw [if_pos hc, show mQ r B i = some (r (1000 + i)) from if_pos hc]
    refine k_nn (tgt := 28) X dX4_note_9 (by decide) ?_
    exact nt_tail (N := N) X hi ⟨hc, hB.2.1⟩ h3 (hl hc) hz hzf ⟨by decide, by decide⟩ ⟨by decide, by decide⟩ ⟨by decide, by decide⟩ ⟨fun _ _ => rfl, fun _ _ => rfl, rfl⟩
  · have hiB : i = B := by omega
    rw [if_neg hc] at hz
    rw [if_neg hc] at hz
    rw [if_neg hc, show mQ r B i = none from if_neg hc]
    refine k_nnN X dX4_note_9 ?_
    refine k_aload_n X dX4_note_12 0 rfl ?_
    refine k_getR X fH_X4_11_309 rfl dX4_note_13 ?_
    refine k_aload_n X dX4_note_16 0 rfl ?_
    refine k_getI X fH_X4_19_309 rfl dX4_note_17 ?_
    rw [hi]
    refine k_newM X (by decide) (by decide) ⟨by decide, by decide⟩ (fun q a d => ?_)
    refine k_aast (q0 := 81 + 3) (qk := 0) X (by show (gW E r shH t ++ exL E r B len μ)[81]? = some (r 420, aQ E 201 (mQ r B)); exact exL_at) (by rfl) (by omega) (by omega) dX4_note_27 ?_
    rw [Int.toNat_natCast]
    generalize hr2 : (fun id => if id = 1000 + i then q else if id = 1300 + i then a else if id = 1600 + i then d else r id : Nat → Nat) = r2
    generalize hl2 : (fun j => if j = i then 4 else len j : Nat → Nat) = len2
    have r2o : ∀ id, id ≠ 1000 + i → id ≠ 1300 + i → id ≠ 1600 + i → r2 id = r id := fun id z1 z2 z3 => by rw [← hr2]; show (if id = 1000 + i then q else if id = 1300 + i then a else if id = 1600 + i then d else r id) = r id; rw [if_neg z1, if_neg z2, if_neg z3]
    have r21 : r2 (1000 + i) = q := by rw [← hr2]; show (if 1000 + i = 1000 + i then q else _) = q; rw [if_pos rfl]
    have r22 : r2 (1300 + i) = a := by rw [← hr2]; show (if 1300 + i = 1000 + i then q else if 1300 + i = 1300 + i then a else _) = a; rw [if_neg (by omega), if_pos rfl]
    have r23 : r2 (1600 + i) = d := by rw [← hr2]; show (if 1600 + i = 1000 + i then q else if 1600 + i = 1300 + i then a else if 1600 + i = 1600 + i then d else _) = d; rw [if_neg (by omega), if_neg (by omega), if_pos rfl]
    have l2o : ∀ j, j ≠ i → len2 j = len j := fun j hj => by rw [← hl2]; show (if j = i then 4 else len j) = len j; rw [if_neg hj]
    have l21 : len2 i = 4 := by rw [← hl2]; show (if i = i then 4 else len i) = 4; rw [if_pos rfl]
    have hperm : (([(q, ob 5 [.ref a, .int 0, .int 0, .long 0, .ref d, .int 0, .int 0, .int 0]), (a, aI E 64 (fun _ => 0)), (d, aJ E 4 (fun _ => 0))] ++ (gW E r shH t ++ exL E r B len μ)).set (81 + 3) (r 420, aQ E 201 (va_up (mQ r B) i (some q)))).Perm (gW E r2 shH t ++ exL E r2 (B + 1) len2 (mU μ i zZ 0 0)) := by
      have e1 : gW E r2 shH t = gW E r shH t := gW_cg shB_H (fun id hid => r2o id (by omega) (by omega) (by omega)) (fun _ _ => ⟨rfl, rfl⟩) h3
      have e2 : mQ r2 (B + 1) = va_up (mQ r B) i (some q) := by
        funext j
        unfold mQ va_up
        by_cases hj : j = i
        · rw [if_pos hj, if_pos (by omega), hj, r21]
        · rw [if_neg hj]
          show (if j < B + 1 then some (r2 (1000 + j)) else none) = (if j < B then some (r (1000 + j)) else none)
          by_cases hjB : j < B
          · rw [if_pos hjB, if_pos (by omega), r2o (1000 + j) (by omega) (by omega) (by omega)]
          · rw [if_neg hjB, if_neg (by omega)]
      have e3 : (List.range B).flatMap (mC E r2 len2 (mU μ i zZ 0 0)) = (List.range B).flatMap (mC E r len μ) := flm_cong (fun j hj => by
        rw [List.mem_range] at hj
        exact mC_cg ⟨r2o _ (by omega) (by omega) (by omega), r2o _ (by omega) (by omega) (by omega), r2o _ (by omega) (by omega) (by omega)⟩ (l2o j (by omega)) (mU_o hB.2.2 (by omega) (by omega)))
      have e4 : mC E r2 len2 (mU μ i zZ 0 0) B = [(q, ob 5 [.ref a, .int 0, .int 0, .long 0, .ref d, .int 0, .int 0, .int 0]), (a, aI E 64 (fun _ => 0)), (d, aJ E 4 (fun _ => 0))] := by
        have hcc := mU_c (μ := μ) (z := zZ) (b := 0) (st := 0) hB.2.2
        unfold mC
        rw [← hiB, r21, r22, r23, l21, hcc.1, hcc.2.1, hcc.2.2.1, hcc.2.2.2]
        rfl
      have e5 : ([(q, ob 5 [.ref a, .int 0, .int 0, .long 0, .ref d, .int 0, .int 0, .int 0]), (a, aI E 64 (fun _ => 0)), (d, aJ E 4 (fun _ => 0))] ++ (gW E r shH t ++ exL E r B len μ)).set (81 + 3) (r 420, aQ E 201 (va_up (mQ r B) i (some q))) = [(q, ob 5 [.ref a, .int 0, .int 0, .long 0, .ref d, .int 0, .int 0, .int 0]), (a, aI E 64 (fun _ => 0)), (d, aJ E 4 (fun _ => 0))] ++ (gW E r shH t ++ ((r 420, aQ E 201 (va_up (mQ r B) i (some q))) :: (List.range B).flatMap (mC E r len μ))) := by
        rw [List.set_append_right _ _ (by show 3 ≤ 81 + 3; omega), show 81 + 3 - [(q, ob 5 [.ref a, .int 0, .int 0, .long 0, .ref d, .int 0, .int 0, .int 0]), (a, aI E 64 (fun _ => 0)), (d, aJ E 4 (fun _ => 0))].length = 81 from rfl, List.set_append_right _ _ (by rw [gW_len]; exact Nat.le_refl _), gW_len]
        rfl
      rw [e5, e1]
      unfold exL
      rw [e2, r2o 420 (by omega) (by omega) (by omega), List.range_succ, List.flatMap_append, e3, List.flatMap_singleton, e4]
      refine List.perm_append_comm.trans ?_
      rw [List.append_assoc]
      exact List.Perm.append_left _ (List.Perm.refl _)
    refine k_perm hperm ?_
    rw [show r 309 = r2 309 from (r2o 309 (by omega) (by omega) (by omega)).symm, show r (305 + 0) = r2 (305 + 0) from (r2o 305 (by omega) (by omega) (by omega)).symm, show r (307 + 0) = r2 (307 + 0) from (r2o 307 (by omega) (by omega) (by omega)).symm] at X ⊢
    exact nt_tail (N := N) (len := len2) (μ := mU μ i zZ 0 0) X hi ⟨by omega, by omega⟩ h3 (by rw [l21]; decide) (by rw [l21]; exact hz) hzf ⟨by decide, by decide⟩ ⟨by decide, by decide⟩ ⟨by decide, by decide⟩ ⟨fun id hid => r2o id (by omega) (by omega) (by omega), l2o, mU_mU⟩
end KH
