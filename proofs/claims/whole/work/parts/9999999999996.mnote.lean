/-! Moment.note: it may make a longer array -/
theorem dX5_note_0 : decode cX5_note 0 = .ok (.iconst 0, 1) := by decide +kernel
theorem dX5_note_1 : decode cX5_note 1 = .ok (.istore_n 3, 1) := by decide +kernel
theorem dX5_note_2 : decode cX5_note 2 = .ok (.iload_n 3, 1) := by decide +kernel
theorem dX5_note_3 : decode cX5_note 3 = .ok (.aload_n 1, 1) := by decide +kernel
theorem dX5_note_4 : decode cX5_note 4 = .ok (.getfield 19, 3) := by decide +kernel
theorem dX5_note_7 : decode cX5_note 7 = .ok (.if_icmp .ge 30, 3) := by decide +kernel
theorem dX5_note_10 : decode cX5_note 10 = .ok (.aload_n 0, 1) := by decide +kernel
theorem dX5_note_11 : decode cX5_note 11 = .ok (.getfield 9, 3) := by decide +kernel
theorem dX5_note_14 : decode cX5_note 14 = .ok (.iload_n 3, 1) := by decide +kernel
theorem dX5_note_15 : decode cX5_note 15 = .ok (.aload_n 1, 1) := by decide +kernel
theorem dX5_note_16 : decode cX5_note 16 = .ok (.getfield 25, 3) := by decide +kernel
theorem dX5_note_19 : decode cX5_note 19 = .ok (.iload_n 3, 1) := by decide +kernel
theorem dX5_note_20 : decode cX5_note 20 = .ok (.iaload, 1) := by decide +kernel
theorem dX5_note_21 : decode cX5_note 21 = .ok (.bipush 14, 2) := by decide +kernel
theorem dX5_note_23 : decode cX5_note 23 = .ok (.ishl, 1) := by decide +kernel
theorem dX5_note_24 : decode cX5_note 24 = .ok (.aload_n 1, 1) := by decide +kernel
theorem dX5_note_25 : decode cX5_note 25 = .ok (.iload_n 3, 1) := by decide +kernel
theorem dX5_note_26 : decode cX5_note 26 = .ok (.invokevirtual 28, 3) := by decide +kernel
theorem dX5_note_29 : decode cX5_note 29 = .ok (.ior, 1) := by decide +kernel
theorem dX5_note_30 : decode cX5_note 30 = .ok (.iastore, 1) := by decide +kernel
theorem dX5_note_31 : decode cX5_note 31 = .ok (.iinc 3 1, 3) := by decide +kernel
theorem dX5_note_34 : decode cX5_note 34 = .ok (.goto (-32), 3) := by decide +kernel
theorem dX5_note_37 : decode cX5_note 37 = .ok (.aload_n 0, 1) := by decide +kernel
theorem dX5_note_38 : decode cX5_note 38 = .ok (.aload_n 2, 1) := by decide +kernel
theorem dX5_note_39 : decode cX5_note 39 = .ok (.getfield 32, 3) := by decide +kernel
theorem dX5_note_42 : decode cX5_note 42 = .ok (.putfield 38, 3) := by decide +kernel
theorem dX5_note_45 : decode cX5_note 45 = .ok (.aload_n 0, 1) := by decide +kernel
theorem dX5_note_46 : decode cX5_note 46 = .ok (.aload_n 2, 1) := by decide +kernel
theorem dX5_note_47 : decode cX5_note 47 = .ok (.getfield 39, 3) := by decide +kernel
theorem dX5_note_50 : decode cX5_note 50 = .ok (.putfield 42, 3) := by decide +kernel
theorem dX5_note_53 : decode cX5_note 53 = .ok (.aload_n 0, 1) := by decide +kernel
theorem dX5_note_54 : decode cX5_note 54 = .ok (.aload_n 2, 1) := by decide +kernel
theorem dX5_note_55 : decode cX5_note 55 = .ok (.getfield 43, 3) := by decide +kernel
theorem dX5_note_58 : decode cX5_note 58 = .ok (.putfield 47, 3) := by decide +kernel
theorem dX5_note_61 : decode cX5_note 61 = .ok (.aload_n 0, 1) := by decide +kernel
theorem dX5_note_62 : decode cX5_note 62 = .ok (.aload_n 2, 1) := by decide +kernel
theorem dX5_note_63 : decode cX5_note 63 = .ok (.getfield 32, 3) := by decide +kernel
theorem dX5_note_66 : decode cX5_note 66 = .ok (.ifCond .eq 10, 3) := by decide +kernel
theorem dX5_note_69 : decode cX5_note 69 = .ok (.aload_n 2, 1) := by decide +kernel
theorem dX5_note_70 : decode cX5_note 70 = .ok (.getfield 48, 3) := by decide +kernel
theorem dX5_note_73 : decode cX5_note 73 = .ok (.goto 4, 3) := by decide +kernel
theorem dX5_note_76 : decode cX5_note 76 = .ok (.iconst 0, 1) := by decide +kernel
theorem dX5_note_77 : decode cX5_note 77 = .ok (.putfield 51, 3) := by decide +kernel
theorem dX5_note_80 : decode cX5_note 80 = .ok (.aload_n 0, 1) := by decide +kernel
theorem dX5_note_81 : decode cX5_note 81 = .ok (.getfield 15, 3) := by decide +kernel
theorem dX5_note_84 : decode cX5_note 84 = .ok (.arraylength, 1) := by decide +kernel
theorem dX5_note_85 : decode cX5_note 85 = .ok (.aload_n 0, 1) := by decide +kernel
theorem dX5_note_86 : decode cX5_note 86 = .ok (.getfield 51, 3) := by decide +kernel
theorem dX5_note_89 : decode cX5_note 89 = .ok (.if_icmp .ge 13, 3) := by decide +kernel
theorem dX5_note_92 : decode cX5_note 92 = .ok (.aload_n 0, 1) := by decide +kernel
theorem dX5_note_93 : decode cX5_note 93 = .ok (.aload_n 0, 1) := by decide +kernel
theorem dX5_note_94 : decode cX5_note 94 = .ok (.getfield 51, 3) := by decide +kernel
theorem dX5_note_97 : decode cX5_note 97 = .ok (.newarray .long, 2) := by decide +kernel
theorem dX5_note_99 : decode cX5_note 99 = .ok (.putfield 15, 3) := by decide +kernel
theorem dX5_note_102 : decode cX5_note 102 = .ok (.aload_n 2, 1) := by decide +kernel
theorem dX5_note_103 : decode cX5_note 103 = .ok (.getfield 52, 3) := by decide +kernel
theorem dX5_note_106 : decode cX5_note 106 = .ok (.iconst 0, 1) := by decide +kernel
theorem dX5_note_107 : decode cX5_note 107 = .ok (.aload_n 0, 1) := by decide +kernel
theorem dX5_note_108 : decode cX5_note 108 = .ok (.getfield 15, 3) := by decide +kernel
theorem dX5_note_111 : decode cX5_note 111 = .ok (.iconst 0, 1) := by decide +kernel
theorem dX5_note_112 : decode cX5_note 112 = .ok (.aload_n 0, 1) := by decide +kernel
theorem dX5_note_113 : decode cX5_note 113 = .ok (.getfield 51, 3) := by decide +kernel
theorem dX5_note_116 : decode cX5_note 116 = .ok (.invokestatic 53, 3) := by decide +kernel
theorem dX5_note_119 : decode cX5_note 119 = .ok (.return_, 1) := by decide +kernel
def exN (n : Nat) : List gS := [(1000, 9, 5, mF5), (1300, 1, 64, []), (1600, 2, n, [])]
theorem EX5_N {n : Nat} (h : n ≤ 1500) : EX5 n (exN n) := ⟨rfl, h⟩
def rup (r : Nat → Nat) (q : Nat) : Nat → Nat := fun id => bif Nat.beq id 1600 then q else r id
theorem rup_ne {r : Nat → Nat} {q id : Nat} (h : id ≠ 1600) : rup r q id = r id := by
  unfold rup
  rw [show Nat.beq id 1600 = false from Bool.eq_false_iff.mpr (fun k => h (Nat.eq_of_beq_eq_true k))]
  rfl
theorem rup_at {r : Nat → Nat} {q : Nat} : rup r q 1600 = q := rfl
theorem rup_self {r : Nat → Nat} : rup r (r 1600) = r := by
  funext id
  by_cases h : id = 1600
  · rw [h]; rfl
  · rw [rup_ne h]
/-- an array of longs made anew -/
def zl (t : St) : St := (t.1, fun a => bif Nat.beq a 1600 then (fun _ => 0) else t.2 a)
theorem zl_ne {t : St} {a : Nat} (h : a ≠ 1600) : (zl t).2 a = t.2 a := by
  show (bif Nat.beq a 1600 then (fun _ => 0) else t.2 a) = _
  rw [show Nat.beq a 1600 = false from Bool.eq_false_iff.mpr (fun k => h (Nat.eq_of_beq_eq_true k))]
  rfl
def f_X5_noteA (o2 : Nat) (t : St) : Option St := if 0 ≤ t.1 1000 5 ∧ t.1 1000 5 ≤ 1500 then some (cpL (zl t) (410 + o2) 1600 0 0 (t.1 1000 5).toNat) else none
abbrev qN (E : cE) (r : Nat → Nat) (z : St) := qV E (fun (u : Nat × Nat) => u.2 ≤ 1500 ∧ z.1 1000 5 ≤ (u.2 : Int)) (fun (u : Nat × Nat) => gW E (rup r u.1) (shH ++ exN u.2) z)
/-- tables that stay below 1000 -/
def shB (tab : List gS) : Bool := tab.all (fun q => decide (q.1 < 1000) && q.2.2.2.zipIdx.all (fun f => decide (f.1.2 < 1000) && (decide (f.1.1 < 3) || (decide (q.1 = 311) && decide (f.2 = 3)))))
theorem shB_H : shB shH = true := by decide +kernel
theorem gW_cg {E : cE} {r r2 : Nat → Nat} {t t2 : St} {tab : List gS} (hB : shB tab = true) (hr : ∀ id, id < 1000 → r2 id = r id) (ht : ∀ id, id < 1000 → t2.1 id = t.1 id ∧ t2.2 id = t.2 id) (h3 : t.1 311 3 ≤ 1000) : gW E r2 tab t2 = gW E r tab t := by
  unfold gW
  apply List.map_congr_left
  intro q hq
  unfold shB at hB
  rw [List.all_eq_true] at hB
  have h1 := hB q hq
  rw [Bool.and_eq_true, decide_eq_true_iff, List.all_eq_true] at h1
  obtain ⟨hid, hfs⟩ := h1
  have ht1 := ht q.1 hid
  unfold gc
  rw [hr q.1 hid]
  have hg : gfs r2 t2 q.1 q.2.2.2 = gfs r t q.1 q.2.2.2 := by
    unfold gfs
    apply List.map_congr_left
    intro f hf
    have h2 := hfs f hf
    rw [Bool.and_eq_true, decide_eq_true_iff, Bool.or_eq_true, decide_eq_true_iff, Bool.and_eq_true, decide_eq_true_iff, decide_eq_true_iff] at h2
    unfold gv
    rw [ht1.1, ht1.2, hr f.1.2 h2.1]
    rcases h2.2 with h4 | ⟨h4, h5⟩
    · have h6 : f.1.1 = 0 ∨ f.1.1 = 1 ∨ f.1.1 = 2 := by omega
      rcases h6 with h6 | h6 | h6
      · rw [h6]; rfl
      · rw [h6]; rfl
      · rw [h6]; rfl
    · rw [h4, h5, hr (t.1 311 3 - 1).toNat (by omega)]
  unfold gce
  rw [hg, ht1.1, ht1.2]
theorem gW_app {E : cE} {r : Nat → Nat} {t : St} {a b : List gS} : gW E r (a ++ b) t = gW E r a t ++ gW E r b t := by unfold gW; rw [List.map_append]
section KN
variable {p : Program} {l : Launch} {e : Env} {R : Room} {s : State} {m : MethodId} {args : Array Value} {below : List Frame} {meth : Method} {c : Code} {Q : State → Prop}
variable {E : cE} {A : Nat → Prop} {cc : ByteArray} {mL : Nat} {ret : Option FieldType} {y0 : MethodName}
variable {ws : va_W} {ce sl pc : Nat} {lv : List (Nat × Value)} {rest : List Value} {t : St} {r : Nat → Nat} {tab : List gS} {W0 : va_W}
theorem k_drop {a b : va_W} {stk : List Value} (kk : kP ce sl p l e R s m args below meth c E A mL Q a pc lv stk) : kP ce sl p l e R s m args below meth c E A mL Q (a ++ b) pc lv stk := fun H locs ls hP hD hS hl =>
  kk H locs ls (hP.sub (List.range a.length) (cw_fm rng_1)) (hD.sub (List.range a.length) (va_nd_of List.nodup_range) rng_1) hS hl
/-- a new array of longs -/
theorem k_newJ (X : gX p s m meth c cc mL ret y0 args E A) {n : Int} (h0 : 0 ≤ n) (h1 : n ≤ 1500) (hc : ce + 1 ≤ R.cells) (hs : sl + n.toNat ≤ R.slots) (hdg : decode cc pc = .ok (.newarray .long, 2)) (kk : ∀ q : Nat, kP (ce + 1) (sl + n.toNat) p l e R s m args below meth c E A mL Q (ws ++ [(q, aJ E n.toNat (fun _ => 0))]) (pc + 2) lv (.ref q :: rest)) : kP ce sl p l e R s m args below meth c E A mL Q ws pc lv (iv n :: rest) := by
  intro H locs ls hP hD hS hl
  obtain ⟨hx, hb, hr, hml, hown, hts, hlk, hin⟩ := X.1
  have r1 : inR n := ⟨by omega, by omega⟩
  have r0 : inR 0 := ⟨by decide, by decide⟩
  refine cw_newa (E := E) (atype := .long) (ty := .long) (a0 := (n.toNat, .inr (.inl (fun _ => 0)))) (N' := n.toNat) hx hb (hts _ wdA_long) rfl X.2.2.1 hP hD hS X.2.1 2 rfl rfl (fun _ => rfl) (fun k => absurd ((z_lt r1 r0).mp k) (by omega)) (z_cl h0 r1.2) (by show n.toNat * 8 ≤ 536870912; omega) hc hs hdg (fun q H1 hP1 hD1 hS1 => ?_)
  exact kk q H1 locs ls hP1 hD1 hS1 hl
/-- a reference is written into a field -/
theorem k_putR (X : gX p s m meth c cc mL ret y0 args E A) {b q ci f N idx j : Nat} {vs : List Value} {C ref : String} {T : u_T} {ty0 : Nat → FieldType} {ty : FieldType} (hj : ws[j]? = some (b, .inr (ci, vs))) (hci : vwCl[ci]? = some (C, T, N)) (hfn : f < N) (hws : ∀ w ∈ u_ws C T N, w ∈ TB) (hlink : Cond.fieldLink y0.cls idx ref (T f).2.1 (T f).2.2.1 ∈ TB) (href : ref = (T f).1) (hty : ∀ k, k < N → parseFieldDescriptor (T k).2.2.1 = some (ty0 k)) (hnm : ∀ a, a < N → ∀ b, b < N → a ≠ b → (T a).2.1 ≠ (T b).2.1) (hfin : (T f).2.2.2 = false) (hpf : parseFieldDescriptor (T f).2.2.1 = some (.array ty)) (hlen : f < vs.length) (hdg : decode cc pc = .ok (.putfield idx, 3)) (kk : kP ce sl p l e R s m args below meth c E A mL Q (ws.set j (b, .inr (ci, vs.set f (.ref q)))) (pc + 3) lv rest) : kP ce sl p l e R s m args below meth c E A mL Q ws pc lv (.ref q :: .ref b :: rest) := by
  intro H locs ls hP hD hS hl
  obtain ⟨hx, hb, hr, hml, hown, hts, hlk, hin⟩ := X.1
  subst href
  exact va_put (D := E.1) (v := .ref q) (ty := .array ty) hx hb hts hws ty0 hty hnm hown X.2.2.1 hP hD hS j hj hci f hfn (hts _ hlink) (fun _ h9 => h9) hfin hpf rfl rfl hlen hdg (fun H1 locs1 hP1 hD1 hS1 => kk H1 locs1 ls hP1 hD1 hS1 hl)
theorem k_copyL (X : gX p s m meth c cc mL ret y0 args E A) {src dst n0 n1 : Nat} {sp dp n : Int} {idx : Nat} (h0 : gA tab src 2 n0) (h1 : gA tab dst 2 n1) (hlink : Cond.methodLink y0.cls idx arraycopyName ∈ TB) (hfr : 1 ≤ R.frames) (hlo : (rest.map fun v => v.category).sum + (nativeFrameWords "java/lang/System" "arraycopy" 5 + 11) ≤ R.locals) (hdg : decode cc pc = .ok (.invokestatic idx, 3)) (q : 0 ≤ sp ∧ 0 ≤ dp ∧ 0 ≤ n ∧ sp + n ≤ n0 ∧ dp + n ≤ n1) (kk : kP ce sl p l e R s m args below meth c E A mL Q (gW E r tab (cpL t src dst sp.toNat dp.toNat n.toNat)) (pc + 3) lv rest) : kP ce sl p l e R s m args below meth c E A mL Q (gW E r tab t) pc lv (iv n :: iv dp :: .ref (r dst) :: iv sp :: .ref (r src) :: rest) := by
  intro H locs ls hP hD hS hl
  obtain ⟨hx, hb, hr, hml, hown, hts, hlk, hin⟩ := X.1
  obtain ⟨b1, b2, b3, b4, b5⟩ := q
  obtain ⟨j0, hj0, hU, hn0⟩ := h0
  obtain ⟨j1, hj1, _, hn1⟩ := h1
  have r1 : inR sp := ⟨by omega, by omega⟩
  have r2 : inR dp := ⟨by omega, by omega⟩
  have r3 : inR n := ⟨by omega, by omega⟩
  have r0 : inR 0 := ⟨by decide, by decide⟩
  have c1 := z_cl b1 r1.2
  have c2 := z_cl b2 r2.2
  have c3 := z_cl b3 r3.2
  refine va_copyl (n0 := n0) (n1 := n1) (f := t.2 src) (g := t.2 dst) (ty := .long) hx hb (hml.trans hl.1.symm) hown (hts _ hlink) (hts _ wd_acn) (hts _ wd_acs) (hts _ wd_acz) X.2.2.1 hP hD hS j0 j1 2 2 (gW_at hj0) (gW_at hj1) rfl rfl rfl (fun k => absurd ((z_lt r1 r0).mp k) (by omega)) (fun k => absurd ((z_lt r2 r0).mp k) (by omega)) (fun k => absurd ((z_lt r3 r0).mp k) (by omega)) (by rw [c1, c3]; omega) (by rw [c2, c3]; omega) (fun i _ => rfl) hfr hlo hdg (fun H1 locs1 hP1 hD1 hS1 => ?_)
  rw [c1, c2, c3] at hP1 hD1
  have e1 : (gW E r tab t).set j1 (r dst, aJ E n1 (va_cpy (t.2 src) (t.2 dst) sp.toNat dp.toNat n.toNat)) = gW E r tab (cpL t src dst sp.toNat dp.toNat n.toNat) := by
    rw [← cpL_at]
    exact gW_set (q := (dst, 2, n1, [])) (t1 := cpL t src dst sp.toNat dp.toNat n.toNat) hU hj1 (fun id2 h9 => ⟨rfl, cpL_ne h9⟩)
  have hP2 : va_P E.1 vwCl ((gW E r tab t).set j1 (r dst, aJ E n1 (va_cpy (t.2 src) (t.2 dst) sp.toNat dp.toNat n.toNat))) H1 := hP1
  have hD2 : va_D A ((gW E r tab t).set j1 (r dst, aJ E n1 (va_cpy (t.2 src) (t.2 dst) sp.toNat dp.toNat n.toNat))) := hD1
  rw [e1] at hP2 hD2
  exact kk H1 locs1 ls hP2 hD2 hS1 hl
theorem g_vretN (X : gX p s m meth c cc mL none y0 args E A) {n6 : Nat} {ex : List gS} {z : St} {mc ms : Nat} (hE5 : EX5 n6 ex) (hz : z.1 1000 5 ≤ (n6 : Int)) (h : some t = some z) (hdg : decode cc pc = .ok (.return_, 1)) : gP p l e R s m args below meth c E A mL (MQ below ((qN E r z) A) args s mc ms A) (gW E r (shH ++ ex)) pc lv [] t := by
  cases h
  refine (k_vret (ws := gW E r (shH ++ ex) t) X ((r 1600, n6) : Nat × Nat) ⟨hE5.2, hz⟩ ?_ hdg (Nat.zero_le _) (Nat.zero_le _) : kP 0 0 p l e R s m args below meth c E A mL (MQ below ((qN E r t) A) args s mc ms A) (gW E r (shH ++ ex) t) pc lv [])
  show (gW E r (shH ++ ex) t).Perm (gW E (rup r (r 1600)) (shH ++ exN n6) t)
  rw [rup_self, hE5.1]
  exact List.Perm.refl _
theorem note_le {o2 n6 : Nat} {z : St} (h : (lt1 (t.1 1000 5) fun v24 => cpI 0 0 v24 1500 n6 (lt1 (cpL t (410 + o2) 1600 (0 : Int).toNat (0 : Int).toNat v24.toNat) fun t25 => some t25)) = some z) : z.1 1000 5 ≤ (n6 : Int) := by
  rw [lt1_k] at h
  unfold cpI at h
  split at h
  · next q =>
    rw [lt1_k] at h
    cases h
    show t.1 1000 5 ≤ (n6 : Int)
    omega
  · cases h
set_option maxHeartbeats 1000000 in
theorem note_alloc (X : gX p s m meth c cX5_note 4 none yX5_note args E A) {n6 o2 : Nat} {ex : List gS} {z : St} {mc ms : Nat} (hU : gU (shH ++ ex)) (hE5 : EX5 n6 ex) (ho2 : o2 < 2) (hz : z.1 311 3 ≤ 1000) (h : f_X5_noteA o2 t = some z) (hmc : 1 ≤ mc) (hms : 1500 ≤ ms) (hRc : 1 ≤ R.cells) (hRs : 1500 ≤ R.slots) (hfr : 1 ≤ R.frames) (hlo : (nativeFrameWords "java/lang/System" "arraycopy" 5 + 11) ≤ R.locals) : gP p l e R s m args below meth c E A 4 (MQ below ((qN E r z) A) args s mc ms A) (gW E r (shH ++ ex)) 92 [(0, .ref (r 1000)), (2, .ref (r (307 + o2)))] [] t := by
  unfold f_X5_noteA at h
  split at h
  · next q =>
    cases h
    have h3 : t.1 311 3 ≤ 1000 := hz
    suffices hk : kP 0 0 p l e R s m args below meth c E A 4 (MQ below ((qN E r (cpL (zl t) (410 + o2) 1600 0 0 (t.1 1000 5).toNat)) A) args s mc ms A) (gW E r (shH ++ ex) t ++ []) 92 [(0, .ref (r 1000)), (2, .ref (r (307 + o2)))] [] by
      rw [List.append_nil] at hk
      exact hk
    refine k_aload_n X dX5_note_92 0 rfl ?_
    refine k_aload_n X dX5_note_93 0 rfl ?_
    refine k_getI X (fX_X5_51 hE5) rfl dX5_note_94 ?_
    refine k_newJ X q.1 q.2 (by omega) (by omega) dX5_note_97 (fun a => ?_)
    generalize hn : (t.1 1000 5).toNat = n
    have hn2 : (n : Int) = t.1 1000 5 := by omega
    have hjx : (gW E r (shH ++ ex) t ++ [] ++ [(a, aJ E n (fun _ => 0))])[81]? = some (r 1000, .inr (5, gfs r t 1000 mF5)) := by
      rw [List.append_assoc]
      exact gW_ap (oX_at hE5)
    refine k_putR X (ty := .long) (ty0 := tyX5) (f := 4) hjx (C := RX5) (T := TX5) (N := 8) rfl (by decide) iX5 wdF_RX5_15 rfl tyX5_ok nmX5 rfl (by decide +kernel) (by rw [gfs_len]; decide) dX5_note_99 ?_
    have hperm : ((gW E r (shH ++ ex) t ++ [] ++ [(a, aJ E n (fun _ => 0))]).set 81 (r 1000, .inr (5, (gfs r t 1000 mF5).set 4 (.ref a)))).Perm (gW E (rup r a) (shH ++ exN n) (zl t) ++ [(r 1600, aJ E n6 (t.2 1600))]) := by
      rw [hE5.1, gW_app, gW_app, List.append_nil]
      rw [show gW E (rup r a) shH (zl t) = gW E r shH t from gW_cg shB_H (fun id hi => rup_ne (by omega)) (fun id hi => ⟨rfl, zl_ne (by omega)⟩) h3]
      rw [List.append_assoc, List.append_assoc]
      rw [List.set_append_right _ _ (by unfold gW; rw [List.length_map]; decide), show 81 - (gW E r shH t).length = 0 from by unfold gW; rw [List.length_map]; decide]
      refine List.Perm.append_left _ ?_
      show [(r 1000, .inr (5, (gfs r t 1000 mF5).set 4 (.ref a))), (r 1300, aI E 64 (fun i => Int32.ofInt (t.1 1300 i))), (r 1600, aJ E n6 (t.2 1600)), (a, aJ E n (fun _ => 0))].Perm [(r 1000, .inr (5, (gfs r t 1000 mF5).set 4 (.ref a))), (r 1300, aI E 64 (fun i => Int32.ofInt (t.1 1300 i))), (a, aJ E n (fun _ => 0)), (r 1600, aJ E n6 (t.2 1600))]
      exact List.Perm.cons _ (List.Perm.cons _ (List.Perm.swap _ _ _))
    refine k_perm hperm ?_
    refine k_drop ?_
    have hU2 : gU (shH ++ exN n) := by
      intro i j p q hi hj he
      have hl : ∀ (k : Nat) (q : gS), (shH ++ exN n)[k]? = some q → ∃ q2, (shH ++ ex)[k]? = some q2 ∧ q2.1 = q.1 := by
        intro k q hk
        rw [hE5.1]
        by_cases hks : k < shH.length
        · rw [List.getElem?_append_left hks] at hk ⊢
          exact ⟨q, hk, rfl⟩
        · rw [List.getElem?_append_right (by omega)] at hk ⊢
          match hkk : k - shH.length, hk with
          | 0, hk => cases hk; exact ⟨_, rfl, rfl⟩
          | 1, hk => cases hk; exact ⟨_, rfl, rfl⟩
          | 2, hk => cases hk; exact ⟨_, rfl, rfl⟩
          | k2 + 3, hk => cases hk
      obtain ⟨p2, hp2, ep⟩ := hl i p hi
      obtain ⟨q2, hq2, eq⟩ := hl j q hj
      exact hU i j p2 q2 hp2 hq2 (by rw [ep, eq]; exact he)
    have hN5 : EX5 n (exN n) := EX5_N (by omega)
    have e307 : r (307 + o2) = rup r a (307 + o2) := (rup_ne (by omega)).symm
    rw [e307]
    suffices hk : kP (0 + 1) (0 + n) p l e R s m args below meth c E A 4 (MQ below ((qN E r (cpL (zl t) (410 + o2) 1600 0 0 n)) A) args s mc ms A) (gW E (rup r a) (shH ++ exN n) (zl t) ++ []) 102 [(0, .ref (rup r a 1000)), (2, .ref (rup r a (307 + o2)))] [] by
      rw [List.append_nil] at hk
      exact hk
    refine k_aload_n X dX5_note_102 1 rfl ?_
    refine k_getR X (gF.ap (fH_X5_52_o (o := o2) ho2)) rfl dX5_note_103 ?_
    refine k_iconst X dX5_note_106 ?_
    refine k_aload_n X dX5_note_107 0 rfl ?_
    refine k_getR X (fX_X5_15 hN5) rfl dX5_note_108 ?_
    refine k_iconst X dX5_note_111 ?_
    refine k_aload_n X dX5_note_112 0 rfl ?_
    refine k_getI X (fX_X5_51 hN5) rfl dX5_note_113 ?_
    rw [List.append_nil]
    refine k_copyL X (gA.ap hU2 (aR (o := o2) ho2)) (aX_1600 hU2 hN5) wdM_RX5_53 hfr hlo dX5_note_116 (by show 0 ≤ (0 : Int) ∧ 0 ≤ (0 : Int) ∧ 0 ≤ t.1 1000 5 ∧ 0 + t.1 1000 5 ≤ ((1500 : Nat) : Int) ∧ 0 + t.1 1000 5 ≤ (n : Int); omega) ?_
    refine k_vret X ((a, n) : Nat × Nat) ⟨by omega, by show t.1 1000 5 ≤ (n : Int); omega⟩ ?_ dX5_note_119 (by omega) (by omega)
    show (gW E (rup r a) (shH ++ exN n) (cpL (zl t) (410 + o2) 1600 0 0 (t.1 1000 5).toNat)).Perm (gW E (rup r a) (shH ++ exN n) (cpL (zl t) (410 + o2) 1600 0 0 n))
    rw [hn]
  · cases h
end KN
abbrev rm_f_X5_note : Room := { frames := 2, cells := 1, slots := 1500, locals := 60 }
def f_X5_note_L2 (N : Nat) (o1 : Nat) (K3 : (St → Option (St))) : Nat → Int → St → Option (St)
  | 0, _, _ => none
  | n9 + 1, x1, t2 =>
    lt1 (t2.1 (305 + o1) 8) fun v4 =>
    cmpI x1 v4 (if x1 < v4 then (ixI x1 64 (lt1 (t2.1 (393 + 10 * o1) x1.toNat) fun v5 =>
    bdI (f_X3_codeAt N o1 x1 t2) fun v7 t6 =>
    ixI x1 64 (lt1 (pI t6 1300 x1.toNat (iorZ (v5 * 16384) v7)) fun t8 =>
    f_X5_note_L2 N o1 K3 n9 (x1 + 1) t8)))
    else (K3 t2))
def f_X5_note (N : Nat) (o1 : Nat) (o2 : Nat) (n6 : Nat) (t : St) : Option (St) :=
    f_X5_note_L2 N o1 (fun (t9 : St) => lt1 (t9.1 (307 + o2) 2) fun v10 =>
    boI v10 (lt1 (pI t9 1000 1 v10) fun t11 =>
    lt1 (t11.1 (307 + o2) 3) fun v12 =>
    lt1 (pI t11 1000 2 v12) fun t13 =>
    lt1 (t13.2 (307 + o2) 4) fun v14 =>
    lt1 (pL t13 1000 3 v14) fun t15 =>
    lt1 (t15.1 (307 + o2) 2) fun v16 =>
    jn1 (fun (j17 : Int) (t18 : St) => lt1 (pI t18 1000 5 j17) fun t20 =>
    lt1 (t20.1 1000 5) fun v21 =>
    jn1 (fun (t22 : St) => lt1 (t22.1 1000 5) fun v24 =>
    cpI 0 0 v24 1500 n6 (lt1 (cpL t22 (410 + o2) 1600 (0 : Int).toNat (0 : Int).toNat v24.toNat) fun t25 =>
    some t25)) fun J23 =>
    cmpI ((n6 : Nat) : Int) v21 (if ((n6 : Nat) : Int) < v21 then (f_X5_noteA o2 t20)
    else (J23 t20))) fun J19 =>
    cmpI v16 0 (if v16 = 0 then (J19 0 t15)
    else (lt1 (t15.1 (307 + o2) 6) fun v26 =>
    J19 v26 t15)))) N 0 t
set_option maxHeartbeats 4000000 in
set_option maxRecDepth 100000 in
theorem t_f_X5_note_L2 {p : Program} {l : Launch} {e : Env} {s : State} {m : MethodId} {args : Array Value} {below : List Frame} {meth : Method} {c : Code} {E : cE} {A : Nat → Prop} {r : Nat → Nat} {mc ms : Nat} {z : St} {ex : List gS} (hU : gU (shH ++ ex)) {n6 : Nat} (hE5 : EX5 n6 ex) {o1 : Nat} (ho1 : o1 < 2) {o2 : Nat} (ho2 : o2 < 2) {N : Nat} {K3 : (St → Option (St))} (X : gX p s m meth c cX5_note 4 none yX5_note args E A) (hK3 : ∀ (t9 : St), K3 t9 = some z → gP p l e rm_f_X5_note s m args below meth c E A 4 (MQ below ((qN E r z) A) args s mc ms A) (gW E r (shH ++ ex)) 37 [(0, .ref (r 1000)), (2, .ref (r (307 + o2)))] [] t9) : ∀ (n9 : Nat) (x1 : Int) (t2 : St), f_X5_note_L2 N o1 K3 n9 x1 t2 = some z → gP p l e rm_f_X5_note s m args below meth c E A 4 (MQ below ((qN E r z) A) args s mc ms A) (gW E r (shH ++ ex)) 2 [(0, .ref (r 1000)), (1, .ref (r (305 + o1))), (2, .ref (r (307 + o2))), (3, iv x1)] [] t2 := by
  intro n9
  induction n9 with
  | zero => intro x1 t2 h; cases h
  | succ n9 ih =>
    intro x1 t2 h
    unfold f_X5_note_L2 at h
    refine g_iload_n X dX5_note_2 3 rfl ?_
    refine g_aload_n X dX5_note_3 1 rfl ?_
    refine g_getI X (gF.ap (fH_X5_19_o (o := o1) ho1)) rfl dX5_note_4 h (fun v4 h => ?_)
    refine g_icmp_ge (tgt := 37) X dX5_note_7 (by decide) h (fun h => ?_) (fun h => ?_)
    · exact g_sub (lv' := [(0, .ref (r 1000)), (2, .ref (r (307 + o2)))]) [0, 2] rfl (hK3 t2 h)
    · refine g_aload_n X dX5_note_10 0 rfl ?_
      refine g_getR X (fX_X5_9 hE5) rfl dX5_note_11 ?_
      refine g_iload_n X dX5_note_14 3 rfl ?_
      refine g_aload_n X dX5_note_15 1 rfl ?_
      refine g_getR X (gF.ap (fH_X5_25_o (o := o1) ho1)) rfl dX5_note_16 ?_
      refine g_iload_n X dX5_note_19 3 rfl ?_
      refine g_iald X (gA.ap hU (aF_3 (o := o1) ho1)) dX5_note_20 h (fun v5 h => ?_)
      refine g_bipush X dX5_note_21 (by decide) ?_
      refine g_shl X 14 (by decide) (M := 16384) (by decide) (by decide) dX5_note_23 ?_
      refine g_aload_n X dX5_note_24 1 rfl ?_
      refine g_iload_n X dX5_note_25 3 rfl ?_
      refine g_callOI (rest := [iv (v5 * 16384), iv x1, .ref (r 1300)]) X (fun u9 h9 => cx_X3_codeAt l E r N ex hU o1 ho1 x1 t2 u9 h9) yy_X3_codeAt yi_X3_codeAt wdM_RX5_28 (gO.ap (oX3 (o := o1) ho1)) rfl rfl rfl (Nat.le_of_ble_eq_true rfl) dX5_note_26 ⟨by decide, by decide⟩ ⟨rfl, rfl⟩ h (fun v7 t6 h => ?_)
      refine g_ior X dX5_note_29 ?_
      refine g_iast X (aX_1300 hU hE5) dX5_note_30 h (fun t8 h => ?_)
      refine g_iinc (lv' := [(3, iv (x1 + 1)), (0, .ref (r 1000)), (1, .ref (r (305 + o1))), (2, .ref (r (307 + o2)))]) X dX5_note_31 (k := 3) rfl (by decide) rfl ?_
      refine g_goto (tgt := 2) X dX5_note_34 (by decide) ?_
      exact g_sub (lv' := [(0, .ref (r 1000)), (1, .ref (r (305 + o1))), (2, .ref (r (307 + o2))), (3, iv (x1 + 1))]) [1, 2, 3, 0] rfl (ih (x1 + 1) t8 h)
set_option maxHeartbeats 4000000 in
set_option maxRecDepth 100000 in
theorem b_f_X5_note {p : Program} {l : Launch} {e : Env} {s : State} {m : MethodId} {args : Array Value} {below : List Frame} {meth : Method} {c : Code} {E : cE} {A : Nat → Prop} {r : Nat → Nat} {mc ms : Nat} {z : St} {N : Nat} {ex : List gS} (hU : gU (shH ++ ex)) {n6 : Nat} (hE5 : EX5 n6 ex) {o1 : Nat} (ho1 : o1 < 2) {o2 : Nat} (ho2 : o2 < 2) {t : St} (X : gX p s m meth c cX5_note 4 none yX5_note args E A) (hA92 : ∀ t9 : St, f_X5_noteA o2 t9 = some z → gP p l e rm_f_X5_note s m args below meth c E A 4 (MQ below ((qN E r z) A) args s mc ms A) (gW E r (shH ++ ex)) 92 [(0, .ref (r 1000)), (2, .ref (r (307 + o2)))] [] t9) (h : f_X5_note N o1 o2 n6 t = some z) : gP p l e rm_f_X5_note s m args below meth c E A 4 (MQ below ((qN E r z) A) args s mc ms A) (gW E r (shH ++ ex)) 0 [(0, .ref (r 1000)), (1, .ref (r (305 + o1))), (2, .ref (r (307 + o2)))] [] t := by
  unfold f_X5_note at h
  refine g_iconst X dX5_note_0 ?_
  refine g_istore_n (lv' := [(3, iv 0), (0, .ref (r 1000)), (1, .ref (r (305 + o1))), (2, .ref (r (307 + o2)))]) X dX5_note_1 rfl (by decide) rfl ?_
  refine g_sub (lv' := [(0, .ref (r 1000)), (1, .ref (r (305 + o1))), (2, .ref (r (307 + o2))), (3, iv 0)]) [1, 2, 3, 0] rfl (t_f_X5_note_L2 hU hE5 ho1 ho2 X (fun t9 h => ?_) N 0 t h)
  · refine g_aload_n X dX5_note_37 0 rfl ?_
    refine g_aload_n X dX5_note_38 1 rfl ?_
    refine g_getI X (gF.ap (fH_X5_32_o (o := o2) ho2)) rfl dX5_note_39 h (fun v10 h => ?_)
    refine g_putZ X (fX_X5_38w hU hE5) rfl dX5_note_42 h (fun t11 h => ?_)
    refine g_aload_n X dX5_note_45 0 rfl ?_
    refine g_aload_n X dX5_note_46 1 rfl ?_
    refine g_getI X (gF.ap (fH_X5_39_o (o := o2) ho2)) rfl dX5_note_47 h (fun v12 h => ?_)
    refine g_putI X (fX_X5_42w hU hE5) rfl dX5_note_50 h (fun t13 h => ?_)
    refine g_aload_n X dX5_note_53 0 rfl ?_
    refine g_aload_n X dX5_note_54 1 rfl ?_
    refine g_getL X (gF.ap (fH_X5_43_o (o := o2) ho2)) rfl dX5_note_55 h (fun v14 h => ?_)
    refine g_putL X (fX_X5_47w hU hE5) rfl dX5_note_58 h (fun t15 h => ?_)
    refine g_aload_n X dX5_note_61 0 rfl ?_
    refine g_aload_n X dX5_note_62 1 rfl ?_
    refine g_getI X (gF.ap (fH_X5_32_o (o := o2) ho2)) rfl dX5_note_63 h (fun v16 h => ?_)
    refine g_join (J := fun jj => ∀ (j17 : Int) (t18 : St), jj j17 t18 = some z → gP p l e rm_f_X5_note s m args below meth c E A 4 (MQ below ((qN E r z) A) args s mc ms A) (gW E r (shH ++ ex)) 77 [(0, .ref (r 1000)), (2, .ref (r (307 + o2)))] [iv j17, .ref (r 1000)] t18) h (fun j17 t18 h => ?_) (fun J19 hJ19 h => ?_)
    · refine g_putI X (fX_X5_51w hU hE5) rfl dX5_note_77 h (fun t20 h => ?_)
      refine g_aload_n X dX5_note_80 0 rfl ?_
      refine g_getR X (fX_X5_15 hE5) rfl dX5_note_81 ?_
      refine g_alen2 X (aX_1600 hU hE5) dX5_note_84 ?_
      refine g_aload_n X dX5_note_85 0 rfl ?_
      refine g_getI X (fX_X5_51 hE5) rfl dX5_note_86 h (fun v21 h => ?_)
      refine g_join (J := fun jj => ∀ (t22 : St), jj  t22 = some z → gP p l e rm_f_X5_note s m args below meth c E A 4 (MQ below ((qN E r z) A) args s mc ms A) (gW E r (shH ++ ex)) 102 [(0, .ref (r 1000)), (2, .ref (r (307 + o2)))] [] t22) h (fun  t22 h => ?_) (fun J23 hJ23 h => ?_)
      · have hz9 := note_le h
        refine g_aload_n X dX5_note_102 1 rfl ?_
        refine g_getR X (gF.ap (fH_X5_52_o (o := o2) ho2)) rfl dX5_note_103 ?_
        refine g_iconst X dX5_note_106 ?_
        refine g_aload_n X dX5_note_107 0 rfl ?_
        refine g_getR X (fX_X5_15 hE5) rfl dX5_note_108 ?_
        refine g_iconst X dX5_note_111 ?_
        refine g_aload_n X dX5_note_112 0 rfl ?_
        refine g_getI X (fX_X5_51 hE5) rfl dX5_note_113 h (fun v24 h => ?_)
        refine g_copyL X (gA.ap hU (aR (o := o2) ho2)) (aX_1600 hU hE5) wdM_RX5_53 (by decide) (Nat.le_of_ble_eq_true rfl) dX5_note_116 h (fun t25 h => ?_)
        exact g_vretN X hE5 hz9 h dX5_note_119
      refine g_icmp_ge (tgt := 102) X dX5_note_89 (by decide) h (fun h => ?_) (fun h => ?_)
      · exact g_sub (lv' := [(0, .ref (r 1000)), (2, .ref (r (307 + o2)))]) [0, 1] rfl (hJ23 t20 h)
      · exact hA92 t20 h
    refine g_if_eq (tgt := 76) X dX5_note_66 (by decide) h (fun h => ?_) (fun h => ?_)
    · refine g_iconst X dX5_note_76 ?_
      exact g_sub (lv' := [(0, .ref (r 1000)), (2, .ref (r (307 + o2)))]) [0, 1] rfl (hJ19 0 t15 h)
    · refine g_aload_n X dX5_note_69 1 rfl ?_
      refine g_getI X (gF.ap (fH_X5_48_o (o := o2) ho2)) rfl dX5_note_70 h (fun v26 h => ?_)
      refine g_goto (tgt := 77) X dX5_note_73 (by decide) ?_
      exact g_sub (lv' := [(0, .ref (r 1000)), (2, .ref (r (307 + o2)))]) [0, 1] rfl (hJ19 v26 t15 h)
set_option maxHeartbeats 4000000 in
set_option maxRecDepth 100000 in
theorem cx_X5_note (l : Launch) (E : cE) (r : Nat → Nat) (N : Nat) (ex : List gS) (hU : gU (shH ++ ex)) (n6 : Nat) (hE5 : EX5 n6 ex) (o1 : Nat) (ho1 : o1 < 2) (o2 : Nat) (ho2 : o2 < 2) (t : St) (z : St) (hz : z.1 311 3 ≤ 1000) (h : f_X5_note N o1 o2 n6 t = some z) : cM l E yX5_note cX5_note 4 none rm_f_X5_note [.ref (r 1000), .ref (r (305 + o1)), .ref (r (307 + o2))] (gW E r (shH ++ ex) t) (qN E r z) := by
  refine g_of (w := gW E r (shH ++ ex)) (by decide) (Nat.le_of_ble_eq_true rfl) ?_
  intro p e s m below meth c A X
  exact g_sub (lv' := [(0, .ref (r 1000)), (1, .ref (r (305 + o1))), (2, .ref (r (307 + o2)))]) [0, 1, 2] rfl (b_f_X5_note hU hE5 ho1 ho2 X (fun t9 h9 => note_alloc X hU hE5 ho2 hz h9 (Nat.le_refl _) (Nat.le_refl _) (Nat.le_refl _) (Nat.le_refl _) (by decide) (by decide)) h)
theorem yy_X5_note : cY yX5_note cX5_note 4 none 2 := ⟨wdK_X5_note, wdZ_RX5, by decide +kernel⟩
theorem yi_X5_note : cYi yX5_note := ⟨wdN_X5_note, wdS_X5_note⟩
