/-! String constants over pure states -/
def kwZ (k : Nat) : Int := (kwC k).toInt
section DS
variable {p : Program} {l : Launch} {e : Env} {R : Room} {s : State} {m : MethodId} {args : Array Value} {below : List Frame} {meth : Method} {c : Code} {Q : State → Prop}
variable {E : cE} {A : Nat → Prop} {cc : ByteArray} {mL : Nat} {ret : Option FieldType} {y0 : MethodName}
variable {w : St → va_W} {pc : Nat} {lv : List (Nat × Value)} {rest : List Value} {t : St}
theorem gZs (X : gX p s m meth c cc mL ret y0 args E A) : cStrs E.2.2 A s s.heap := by
  obtain ⟨_, _, _, hZ⟩ := X
  obtain ⟨_, _, _, _, _, _, _, _, h⟩ := hZ
  exact h
theorem cw_ldcSw {H : Heap} {locs : List Loc} {cells slots : Nat} {ls : Array Slot} (hexec : p.tables.exec = Jvm.exec) (hb : c.code = cc) {own tx : String} {index q : Nat} (hown : s.vm.findClass own = some m.cls) (hZ : vk_R own index tx q s) (hdg : decode cc pc = .ok (.ldc_w index, 3))
    (k : W p l e R s m args below meth c H locs cells slots Q (F0 m (pc + 3) ls (.ref q :: rest))) : W p l e R s m args below meth c H locs cells slots Q (F0 m pc ls rest) := by
  intro T hT X
  obtain ⟨t, a1, b1⟩ := k T hT X
  refine ⟨t, ?_, b1⟩
  obtain ⟨k0, cf, i, a', hk, hcf, hcp, -, hr, hev'⟩ := Cond.stringRef_spec hown hZ.1
  cases hZ.2.symm.trans hev'
  obtain ⟨k', hk', he⟩ := X.warmed.alike.2.2 _ _ hk
  have hr' : k'.resolved[index]? = some (some (.string q)) := by
    rcases X.warmed.entry hk hk' index with h | ⟨h, -⟩
    · rw [h]; exact hr
    · rw [hr] at h; cases h
  jvm_step X.here [X.here.top, hexec, hb, hdg, ldc_w.wp_string (e := e) (s := T) (f := F0 m pc ls rest) X.here.top hk' (by rw [he]; exact hcf) hcp hr']
  exact a1
theorem g_ldcS (X : gX p s m meth c cc mL ret y0 args E A) {own tx : String} {index q : Nat} (ho : y0.cls = own) (hZ : vk_R own index tx q s) (hdg : decode cc pc = .ok (.ldc index, 2)) (kk : gP p l e R s m args below meth c E A mL Q w (pc + 2) lv (.ref q :: rest) t) : gP p l e R s m args below meth c E A mL Q w pc lv rest t := by
  intro H locs ls hP hD hS hl
  obtain ⟨hx, hb, hr, hml, hown, hts, hlk, hin⟩ := X.1
  subst ho
  exact va_ldcS hx hb hown hZ hdg (kk H locs ls hP hD hS hl)
theorem g_ldcSw (X : gX p s m meth c cc mL ret y0 args E A) {own tx : String} {index q : Nat} (ho : y0.cls = own) (hZ : vk_R own index tx q s) (hdg : decode cc pc = .ok (.ldc_w index, 3)) (kk : gP p l e R s m args below meth c E A mL Q w (pc + 3) lv (.ref q :: rest) t) : gP p l e R s m args below meth c E A mL Q w pc lv rest t := by
  intro H locs ls hP hD hS hl
  obtain ⟨hx, hb, hr, hml, hown, hts, hlk, hin⟩ := X.1
  subst ho
  exact cw_ldcSw hx hb hown hZ hdg (kk H locs ls hP hD hS hl)
theorem g_slen (X : gX p s m meth c cc mL ret y0 args E A) {idx : Nat} (hlink : Cond.methodLink y0.cls idx yJ0_length_8abf5 ∈ TB) (hR : rm_c_J0_length_8abf5.frames + 1 ≤ R.frames ∧ 8 + (1 + 11) + rm_c_J0_length_8abf5.locals ≤ R.locals) (hcat : (rest.map fun v => v.category).sum ≤ 8) (hdg : decode cc pc = .ok (.invokevirtual idx, 3)) (kk : gP p l e R s m args below meth c E A mL Q w (pc + 3) lv (iv 182 :: rest) t) : gP p l e R s m args below meth c E A mL Q w pc lv (.ref (E.2.2 2) :: rest) t := by
  intro H locs ls hP hD hS hl
  obtain ⟨hx, hb, hr, hml, hown, hts, hlk, hin⟩ := X.1
  refine cI_go (wc := []) (wr := w t) (cM_runVS (As := []) (rest := rest) X.1 (c_J0_length_8abf5 l E) yy_J0_length_8abf5 yi_J0_length_8abf5 hlink hP hD hS X.2.2.1 X.2.2.2 X.2.1 [] rfl rfl (gZs X).2.1.1 rfl hl.1 rfl hcat hdg hR ⟨Nat.zero_le _, Nat.zero_le _⟩) hP hD hS X.2.1 [] (List.range (w t).length) rfl (rng_all _) (va_nd_range _) (fun i h8 h9 => absurd h9 List.not_mem_nil) (fun r9 u9 H1 locs1 hw hP1 hD1 hS1 => ?_)
  rw [List.append_nil] at hP1 hD1
  rw [hw]
  exact kk H1 locs1 ls hP1 hD1 hS1 hl
theorem g_charAt (X : gX p s m meth c cc mL ret y0 args E A) {Z : Type} {z : Z} {i : Int} {K : Int → Option Z} {idx : Nat} (hlink : Cond.methodLink y0.cls idx yJ0_charAt_5068e ∈ TB) (hR : rm_c_J0_charAt_5068e.frames + 1 ≤ R.frames ∧ 8 + (2 + 11) + rm_c_J0_charAt_5068e.locals ≤ R.locals) (hcat : (rest.map fun v => v.category).sum ≤ 8) (hdg : decode cc pc = .ok (.invokevirtual idx, 3)) (h : ixI i 182 (lt1 (kwZ i.toNat) K) = some z) (kk : ∀ v : Int, K v = some z → gP p l e R s m args below meth c E A mL Q w (pc + 3) lv (iv v :: rest) t) : gP p l e R s m args below meth c E A mL Q w pc lv (iv i :: .ref (E.2.2 2) :: rest) t := by
  intro H locs ls hP hD hS hl
  obtain ⟨hx, hb, hr, hml, hown, hts, hlk, hin⟩ := X.1
  obtain ⟨h1, h2, h3⟩ := ixI_some h
  have e9 : Int32.ofInt i = nI i.toNat := by rw [show i = ((i.toNat : Nat) : Int) from by omega]; exact Int32.ofInt_eq_ofNat
  rw [show iv i = .int (nI i.toNat) from congrArg Value.int e9]
  refine cI_go (wc := []) (wr := w t) (cM_runVS (As := [.int (nI i.toNat)]) (rest := rest) X.1 (c_J0_charAt_5068e l E i.toNat (by omega)) yy_J0_charAt_5068e yi_J0_charAt_5068e hlink hP hD hS X.2.2.1 X.2.2.2 X.2.1 [] rfl rfl (gZs X).2.1.1 rfl hl.1 rfl hcat hdg hR ⟨Nat.zero_le _, Nat.zero_le _⟩) hP hD hS X.2.1 [] (List.range (w t).length) rfl (rng_all _) (va_nd_range _) (fun i h8 h9 => absurd h9 List.not_mem_nil) (fun r9 u9 H1 locs1 hw hP1 hD1 hS1 => ?_)
  rw [List.append_nil] at hP1 hD1
  rw [hw]
  have e8 : ((kwB i.toNat &&& nI 255).toUInt32 % 65536).toInt32 = Int32.ofInt (kwZ i.toNat) := (z_of _).symm
  rw [e8]
  exact kk _ h3 H1 locs1 ls hP1 hD1 hS1 hl
variable {r : Nat → Nat} {tab : List gS} {y : MethodName} {bytes : ByteArray} {maxL : Nat} {ret1 : Option FieldType} {rm : Room} {idx n : Nat} {As : List Value} {stk : List Value}
theorem g_callOV (X : gX p s m meth c cc mL ret y0 args E A) {Z : Type} {z : Z} {F : Option (St)} {K : St → Option Z} {id ci : Nat} (hM : ∀ u : St, F = some u → cM l E y bytes maxL ret1 rm (.ref (r id) :: As) (gW E r tab t) (gqV E (gW E r tab) u)) (hY : cY y bytes maxL ret1 n) (hI : cYi y) (hlink : Cond.methodLink y0.cls idx y ∈ TB) (hO : gO tab id ci) {T : u_T} {N : Nat} (hci : vwCl[ci]? = some (y.cls, T, N)) (hlen : As.length = n) (hst : stk = As.reverse ++ .ref (r id) :: rest) (hcat : (rest.map fun v => v.category).sum ≤ 8) (hdg : decode cc pc = .ok (.invokevirtual idx, 3)) (hR : rm.frames + 1 ≤ R.frames ∧ 8 + (maxL + 11) + rm.locals ≤ R.locals) (h0 : rm.cells = 0 ∧ rm.slots = 0) (h : bdV F K = some z) (kk : ∀ t1 : St, K t1 = some z → gP p l e R s m args below meth c E A mL Q (gW E r tab) (pc + 3) lv rest t1) : gP p l e R s m args below meth c E A mL Q (gW E r tab) pc lv stk t := by
  obtain ⟨rq, rfs, hrq⟩ := gO_rq (E := E) (r := r) (t := t) hO
  exact g_callV X hM hY hI hlink rq ci hrq hci hlen hst hcat hdg hR h0 h kk
theorem g_callOI (X : gX p s m meth c cc mL ret y0 args E A) {Z : Type} {z : Z} {F : Option (Int × St)} {K : Int → St → Option Z} {id ci : Nat} (hM : ∀ u : Int × St, F = some u → cM l E y bytes maxL ret1 rm (.ref (r id) :: As) (gW E r tab t) (gqI E (gW E r tab) u)) (hY : cY y bytes maxL ret1 n) (hI : cYi y) (hlink : Cond.methodLink y0.cls idx y ∈ TB) (hO : gO tab id ci) {T : u_T} {N : Nat} (hci : vwCl[ci]? = some (y.cls, T, N)) (hlen : As.length = n) (hst : stk = As.reverse ++ .ref (r id) :: rest) (hcat : (rest.map fun v => v.category).sum ≤ 8) (hdg : decode cc pc = .ok (.invokevirtual idx, 3)) (hR : rm.frames + 1 ≤ R.frames ∧ 8 + (maxL + 11) + rm.locals ≤ R.locals) (h0 : rm.cells = 0 ∧ rm.slots = 0) (h : bdI F K = some z) (kk : ∀ (v : Int) (t1 : St), K v t1 = some z → gP p l e R s m args below meth c E A mL Q (gW E r tab) (pc + 3) lv (iv v :: rest) t1) : gP p l e R s m args below meth c E A mL Q (gW E r tab) pc lv stk t := by
  obtain ⟨rq, rfs, hrq⟩ := gO_rq (E := E) (r := r) (t := t) hO
  exact g_callI X hM hY hI hlink rq ci hrq hci hlen hst hcat hdg hR h0 h kk
theorem g_callOL (X : gX p s m meth c cc mL ret y0 args E A) {Z : Type} {z : Z} {F : Option (Int64 × St)} {K : Int64 → St → Option Z} {id ci : Nat} (hM : ∀ u : Int64 × St, F = some u → cM l E y bytes maxL ret1 rm (.ref (r id) :: As) (gW E r tab t) (gqL E (gW E r tab) u)) (hY : cY y bytes maxL ret1 n) (hI : cYi y) (hlink : Cond.methodLink y0.cls idx y ∈ TB) (hO : gO tab id ci) {T : u_T} {N : Nat} (hci : vwCl[ci]? = some (y.cls, T, N)) (hlen : As.length = n) (hst : stk = As.reverse ++ .ref (r id) :: rest) (hcat : (rest.map fun v => v.category).sum ≤ 8) (hdg : decode cc pc = .ok (.invokevirtual idx, 3)) (hR : rm.frames + 1 ≤ R.frames ∧ 8 + (maxL + 11) + rm.locals ≤ R.locals) (h0 : rm.cells = 0 ∧ rm.slots = 0) (h : bdL F K = some z) (kk : ∀ (v : Int64) (t1 : St), K v t1 = some z → gP p l e R s m args below meth c E A mL Q (gW E r tab) (pc + 3) lv (.long v :: rest) t1) : gP p l e R s m args below meth c E A mL Q (gW E r tab) pc lv stk t := by
  obtain ⟨rq, rfs, hrq⟩ := gO_rq (E := E) (r := r) (t := t) hO
  exact g_callL X hM hY hI hlink rq ci hrq hci hlen hst hcat hdg hR h0 h kk
end DS
