/-! rows over pure states for what only the hall has: copies of longs, tables, who is known, a call to a nest mate -/
def iushrZ (a b : Int) : Int := (((Int32.ofInt a).toUInt32 >>> ((Int32.ofInt b).toUInt32 &&& Int32.toUInt32 31)).toInt32).toInt
def cpI {Z : Type} (sp dp n : Int) (n0 n1 : Nat) (K : Option Z) : Option Z := if 0 ≤ sp ∧ 0 ≤ dp ∧ 0 ≤ n ∧ sp + n ≤ n0 ∧ dp + n ≤ n1 then K else none
def cpL (t : St) (src dst sp dp n : Nat) : St := (t.1, fun a => bif Nat.beq a dst then va_cpy (t.2 src) (t.2 dst) sp dp n else t.2 a)
theorem cpL_ne {t : St} {src dst sp dp n a : Nat} (h : a ≠ dst) : (cpL t src dst sp dp n).2 a = t.2 a := by
  show (bif Nat.beq a dst then va_cpy (t.2 src) (t.2 dst) sp dp n else t.2 a) = _
  rw [show Nat.beq a dst = false from Bool.eq_false_iff.mpr (fun q => h (Nat.eq_of_beq_eq_true q))]; rfl
theorem cpL_at {t : St} {src dst sp dp n : Nat} : (cpL t src dst sp dp n).2 dst = va_cpy (t.2 src) (t.2 dst) sp dp n := by
  show (bif Nat.beq dst dst then va_cpy (t.2 src) (t.2 dst) sp dp n else t.2 dst) = _
  rw [Nat.beq_refl]; rfl
def sqXZ (k : Nat) : Int := (sqX k).toInt
def sqYZ (k : Nat) : Int := (sqY k).toInt
theorem wd_acn : Cond.native arraycopyName ∈ TB := TB_4 (List.mem_of_getElem? (i := 117) rfl) rfl
theorem wd_acs : Cond.static arraycopyName ∈ TB := TB_4 (List.mem_of_getElem? (i := 116) rfl) rfl
theorem wd_acz : Cond.initialized "java/lang/System" ∈ TB := TB_1 (List.mem_of_getElem? (i := 20) rfl) rfl
theorem gW_inj {E : cE} {r : Nat → Nat} {tab : List gS} {t : St} {A : Nat → Prop} (hD : va_D A (gW E r tab t)) {i j : Nat} {p q : gS} (hi : tab[i]? = some p) (hj : tab[j]? = some q) (h : r p.1 = r q.1) : i = j := hD.1 i j _ _ (gW_at hi) (gW_at hj) h
theorem gfs_setD {r : Nat → Nat} {t : St} {id f : Nat} {fs : List (Nat × Nat)} {tg : Nat} (h : fs[f]? = some (3, tg)) (k : Nat) : (gfs r t id fs).set f (.ref (r k)) = gfs r (pI t id f ((k : Int) + 1)) id fs := by
  apply List.ext_getElem?
  intro i
  by_cases e : f = i
  · subst e
    rw [List.getElem?_set_self (by rw [gfs_len]; exact (List.getElem?_eq_some_iff.mp h).1), gfs_at h]
    show _ = some (va_rf (if (pI t id f ((k : Int) + 1)).1 id f = 0 then none else some (r ((pI t id f ((k : Int) + 1)).1 id f - 1).toNat)))
    rw [pI_at, if_neg (by omega), show ((k : Int) + 1 - 1).toNat = k from by omega]; rfl
  · rw [List.getElem?_set_ne e]
    cases hi : fs[i]? with
    | none => rw [List.getElem?_eq_none (by rw [gfs_len]; exact List.getElem?_eq_none_iff.mp hi), List.getElem?_eq_none (by rw [gfs_len]; exact List.getElem?_eq_none_iff.mp hi)]
    | some q =>
      rw [gfs_at hi, gfs_at hi]
      unfold gv
      rw [pI_nf (fun h => e h.symm)]
      rfl
abbrev rfZ (r : Nat → Nat) (v : Int) : Value := va_rf (if v = 0 then none else some (r (v - 1).toNat))
section DH
variable {p : Program} {l : Launch} {e : Env} {R : Room} {s : State} {m : MethodId} {args : Array Value} {below : List Frame} {meth : Method} {c : Code} {Q : State → Prop}
variable {E : cE} {A : Nat → Prop} {cc : ByteArray} {mL : Nat} {ret : Option FieldType} {y0 : MethodName}
variable {w : St → va_W} {pc : Nat} {lv : List (Nat × Value)} {rest : List Value} {t : St} {r : Nat → Nat} {tab : List gS}
theorem g_iushrV (X : gX p s m meth c cc mL ret y0 args E A) {a b : Int} (hdg : decode cc pc = .ok (.iushr, 1)) (kk : gP p l e R s m args below meth c E A mL Q w (pc + 1) lv (iv (iushrZ a b) :: rest) t) : gP p l e R s m args below meth c E A mL Q w pc lv (iv b :: iv a :: rest) t := by
  intro H locs ls hP hD hS hl
  obtain ⟨hx, hb, hr, hml, hown, hts, hlk, hin⟩ := X.1
  exact lv_iushr hx hb hdg (z_of _).symm (kk H locs ls hP hD hS hl)
theorem g_copyL (X : gX p s m meth c cc mL ret y0 args E A) {Z : Type} {z : Z} {src dst n0 n1 : Nat} {sp dp n : Int} {K : St → Option Z} {idx : Nat} (h0 : gA tab src 2 n0) (h1 : gA tab dst 2 n1) (hlink : Cond.methodLink y0.cls idx arraycopyName ∈ TB) (hfr : 1 ≤ R.frames) (hlo : (rest.map fun v => v.category).sum + (nativeFrameWords "java/lang/System" "arraycopy" 5 + 11) ≤ R.locals) (hdg : decode cc pc = .ok (.invokestatic idx, 3)) (h : cpI sp dp n n0 n1 (lt1 (cpL t src dst sp.toNat dp.toNat n.toNat) K) = some z) (kk : ∀ t1 : St, K t1 = some z → gP p l e R s m args below meth c E A mL Q (gW E r tab) (pc + 3) lv rest t1) : gP p l e R s m args below meth c E A mL Q (gW E r tab) pc lv (iv n :: iv dp :: .ref (r dst) :: iv sp :: .ref (r src) :: rest) t := by
  intro H locs ls hP hD hS hl
  obtain ⟨hx, hb, hr, hml, hown, hts, hlk, hin⟩ := X.1
  unfold cpI at h
  split at h
  · next q =>
    obtain ⟨b1, b2, b3, b4, b5⟩ := q
    obtain ⟨j0, hj0, hU, hn0⟩ := h0
    obtain ⟨j1, hj1, _, hn1⟩ := h1
    have r1 : inR sp := ⟨by omega, by omega⟩
    have r2 : inR dp := ⟨by omega, by omega⟩
    have r3 : inR n := ⟨by omega, by omega⟩
    have r0 : inR 0 := ⟨by decide, by decide⟩
    have c1 := z_cl b1 r1.2
    have c2 := z_cl b2 r2.2
    have c3 := z_cl b3 r3.2
    refine va_copyl (n0 := n0) (n1 := n1) (f := t.2 src) (g := t.2 dst) (ty := .long) hx hb (hml.trans hl.1.symm) hown (hts _ hlink) (hts _ wd_acn) (hts _ wd_acs) (hts _ wd_acz) X.2.2.1 hP hD hS j0 j1 2 2 (gW_at hj0) (gW_at hj1) rfl rfl rfl (fun k => absurd ((z_lt r1 r0).mp k) (by omega)) (fun k => absurd ((z_lt r2 r0).mp k) (by omega)) (fun k => absurd ((z_lt r3 r0).mp k) (by omega)) (by rw [c1, c3]; omega) (by rw [c2, c3]; omega) (fun i _ => rfl) hfr hlo hdg (fun H1 locs1 hP1 hD1 hS1 => ?_)
    rw [c1, c2, c3] at hP1 hD1
    have e1 : (gW E r tab t).set j1 (r dst, aJ E n1 (va_cpy (t.2 src) (t.2 dst) sp.toNat dp.toNat n.toNat)) = gW E r tab (cpL t src dst sp.toNat dp.toNat n.toNat) := by
      rw [← cpL_at]
      exact gW_set (q := (dst, 2, n1, [])) (t1 := cpL t src dst sp.toNat dp.toNat n.toNat) hU hj1 (fun id2 h9 => ⟨rfl, cpL_ne h9⟩)
    have hP2 : va_P E.1 vwCl ((gW E r tab t).set j1 (r dst, aJ E n1 (va_cpy (t.2 src) (t.2 dst) sp.toNat dp.toNat n.toNat))) H1 := hP1
    have hD2 : va_D A ((gW E r tab t).set j1 (r dst, aJ E n1 (va_cpy (t.2 src) (t.2 dst) sp.toNat dp.toNat n.toNat))) := hD1
    rw [e1] at hP2 hD2
    exact kk _ h H1 locs1 ls hP2 hD2 hS1 hl
  · cases h
theorem g_getX (X : gX p s m meth c cc mL ret y0 args E A) {idx : Nat} (ho : y0.cls = "CallerHall$Floor") (hlink : Cond.fieldLink "CallerHall$Floor" idx "CallerHall$Floor" "SQUARE_X" "[I" ∈ TB) (hdg : decode cc pc = .ok (.getstatic idx, 3)) (kk : gP p l e R s m args below meth c E A mL Q w (pc + 3) lv (.ref (E.2.2 0) :: rest) t) : gP p l e R s m args below meth c E A mL Q w pc lv rest t := by
  intro H locs ls hP hD hS hl
  obtain ⟨hx, hb, hr, hml, hown, hts, hlk, hin⟩ := X.1
  obtain ⟨⟨a1, a2⟩, ⟨b1, b2⟩, _⟩ := X.2.2.2
  rw [ho] at hown
  exact va_gets (v := .ref (E.2.2 0)) hx hb a1 hS hown (hts _ hlink) (fun _ h9 => h9) hdg (kk H locs ls hP hD hS hl)
theorem g_aldX (X : gX p s m meth c cc mL ret y0 args E A) {Z : Type} {z : Z} {i : Int} {K : Int → Option Z} (hdg : decode cc pc = .ok (.iaload, 1)) (h : ixI i 8 (lt1 (sqXZ i.toNat) K) = some z) (kk : ∀ v : Int, K v = some z → gP p l e R s m args below meth c E A mL Q w (pc + 1) lv (iv v :: rest) t) : gP p l e R s m args below meth c E A mL Q w pc lv (iv i :: .ref (E.2.2 0) :: rest) t := by
  intro H locs ls hP hD hS hl
  obtain ⟨hx, hb, hr, hml, hown, hts, hlk, hin⟩ := X.1
  obtain ⟨⟨a1, a2⟩, ⟨b1, b2⟩, _⟩ := X.2.2.2
  obtain ⟨h1, h2, h3⟩ := ixI_some h
  refine va_ti (v := iv (sqXZ i.toNat)) hx hb a2 hS (vp_in_z h1 h2 (by decide)) ?_ hdg (kk _ h3 H locs ls hP hD hS hl)
  rw [z_cl h1 (by omega)]
  show Value.int (sqX i.toNat) = Value.int (Int32.ofInt (sqX i.toNat).toInt)
  rw [z_of]
theorem g_getY (X : gX p s m meth c cc mL ret y0 args E A) {idx : Nat} (ho : y0.cls = "CallerHall$Floor") (hlink : Cond.fieldLink "CallerHall$Floor" idx "CallerHall$Floor" "SQUARE_Y" "[I" ∈ TB) (hdg : decode cc pc = .ok (.getstatic idx, 3)) (kk : gP p l e R s m args below meth c E A mL Q w (pc + 3) lv (.ref (E.2.2 1) :: rest) t) : gP p l e R s m args below meth c E A mL Q w pc lv rest t := by
  intro H locs ls hP hD hS hl
  obtain ⟨hx, hb, hr, hml, hown, hts, hlk, hin⟩ := X.1
  obtain ⟨⟨a1, a2⟩, ⟨b1, b2⟩, _⟩ := X.2.2.2
  rw [ho] at hown
  exact va_gets (v := .ref (E.2.2 1)) hx hb b1 hS hown (hts _ hlink) (fun _ h9 => h9) hdg (kk H locs ls hP hD hS hl)
theorem g_aldY (X : gX p s m meth c cc mL ret y0 args E A) {Z : Type} {z : Z} {i : Int} {K : Int → Option Z} (hdg : decode cc pc = .ok (.iaload, 1)) (h : ixI i 8 (lt1 (sqYZ i.toNat) K) = some z) (kk : ∀ v : Int, K v = some z → gP p l e R s m args below meth c E A mL Q w (pc + 1) lv (iv v :: rest) t) : gP p l e R s m args below meth c E A mL Q w pc lv (iv i :: .ref (E.2.2 1) :: rest) t := by
  intro H locs ls hP hD hS hl
  obtain ⟨hx, hb, hr, hml, hown, hts, hlk, hin⟩ := X.1
  obtain ⟨⟨a1, a2⟩, ⟨b1, b2⟩, _⟩ := X.2.2.2
  obtain ⟨h1, h2, h3⟩ := ixI_some h
  refine va_ti (v := iv (sqYZ i.toNat)) hx hb b2 hS (vp_in_z h1 h2 (by decide)) ?_ hdg (kk _ h3 H locs ls hP hD hS hl)
  rw [z_cl h1 (by omega)]
  show Value.int (sqY i.toNat) = Value.int (Int32.ofInt (sqY i.toNat).toInt)
  rw [z_of]
theorem g_getD (X : gX p s m meth c cc mL ret y0 args E A) {Z : Type} {z : Z} {id f tg idx : Nat} {own : String} {K : Int → Option Z} (hF : gF tab id f 3 tg own idx) (ho : y0.cls = own) (hdg : decode cc pc = .ok (.getfield idx, 3)) (h : lt1 (t.1 id f) K = some z) (kk : ∀ v : Int, K v = some z → gP p l e R s m args below meth c E A mL Q (gW E r tab) (pc + 3) lv (rfZ r v :: rest) t) : gP p l e R s m args below meth c E A mL Q (gW E r tab) pc lv (.ref (r id) :: rest) t := by
  intro H locs ls hP hD hS hl
  obtain ⟨hx, hb, hr, hml, hown, hts, hlk, hin⟩ := X.1
  obtain ⟨j, ci, N, fs, C, ref, T, hj, hf, hci, hfn, hws, hlink, href⟩ := hF
  subst ho
  subst href
  exact va_get (D := E.1) (v := rfZ r (t.1 id f)) hx hb hts hws hown X.2.2.1 hP j (gW_at hj) hci f hfn (hts _ hlink) (fun _ h9 => h9) ((gfs_at hf).trans (congrArg some rfl)) hdg (kk _ h H locs ls hP hD hS hl)
theorem g_putD (X : gX p s m meth c cc mL ret y0 args E A) {Z : Type} {z : Z} {id f tg idx k : Nat} {own cl : String} {K : St → Option Z} (hF : gFw tab id f 3 tg own idx (.object cl)) (ho : y0.cls = own) (hdg : decode cc pc = .ok (.putfield idx, 3)) (h : lt1 (pI t id f ((k : Int) + 1)) K = some z) (kk : ∀ t1 : St, K t1 = some z → gP p l e R s m args below meth c E A mL Q (gW E r tab) (pc + 3) lv rest t1) : gP p l e R s m args below meth c E A mL Q (gW E r tab) pc lv (.ref (r k) :: .ref (r id) :: rest) t := by
  intro H locs ls hP hD hS hl
  obtain ⟨hx, hb, hr, hml, hown, hts, hlk, hin⟩ := X.1
  obtain ⟨j, ci, N, fs, C, ref, T, ty0, hj, hf, hci, hfn, hws, hlink, href, hty, hnm, hfin, hpf, hU⟩ := hF
  subst ho
  subst href
  refine va_put (D := E.1) (v := .ref (r k)) (ty := .object cl) hx hb hts hws ty0 hty hnm hown X.2.2.1 hP hD hS j (gW_at hj) hci f hfn (hts _ hlink) (fun _ h9 => h9) hfin hpf rfl rfl (by rw [gfs_len]; exact (List.getElem?_eq_some_iff.mp hf).1) hdg (fun H1 locs1 hP1 hD1 hS1 => ?_)
  have e1 : (gW E r tab t).set j (r id, ob ci ((gfs r t id fs).set f (.ref (r k)))) = gW E r tab (pI t id f ((k : Int) + 1)) := by
    rw [gfs_setD hf]
    exact gW_set (q := (id, 9, ci, fs)) (t1 := pI t id f ((k : Int) + 1)) hU hj (fun id2 h9 => ⟨pI_ne h9, rfl⟩)
  have hP2 : va_P E.1 vwCl ((gW E r tab t).set j (r id, ob ci ((gfs r t id fs).set f (.ref (r k))))) H1 := hP1
  have hD2 : va_D A ((gW E r tab t).set j (r id, ob ci ((gfs r t id fs).set f (.ref (r k))))) := hD1
  rw [e1] at hP2 hD2
  exact kk _ h H1 locs1 ls hP2 hD2 hS1 hl
theorem g_acmpD (X : gX p s m meth c cc mL ret y0 args E A) {Z : Type} {z : Z} {x y : Option Z} {o : Nat} {v : Int} {off : Int} {tgt j0 j1 : Nat} {f0 f1 : List (Nat × Nat)} (ho : o < 2) (ht0 : tab[j0]? = some (305, 9, 3, f0)) (ht1 : tab[j1]? = some (306, 9, 3, f1)) (hne : j0 ≠ j1) (hdg : decode cc pc = .ok (.if_acmp .ne off, 3)) (ht : (pc : Int) + off = (tgt : Int)) (h : (if v = 0 ∨ v = 306 ∨ v = 307 then (if v = ((305 + o : Nat) : Int) + 1 then y else x) else none) = some z) (kt : x = some z → gP p l e R s m args below meth c E A mL Q (gW E r tab) tgt lv rest t) (kf : y = some z → gP p l e R s m args below meth c E A mL Q (gW E r tab) (pc + 3) lv rest t) : gP p l e R s m args below meth c E A mL Q (gW E r tab) pc lv (rfZ r v :: .ref (r (305 + o)) :: rest) t := by
  intro H locs ls hP hD hS hl
  obtain ⟨hx, hb, hr, hml, hown, hts, hlk, hin⟩ := X.1
  have n1 : ∀ k : Nat, k < 2 → ∀ k2 : Nat, k2 < 2 → r (305 + k) = r (305 + k2) → k = k2 := by
    intro k hk k2 hk2 e9
    match k, hk, k2, hk2 with
    | 0, _, 0, _ => rfl
    | 1, _, 1, _ => rfl
    | 0, _, 1, _ => exact absurd (gW_inj hD ht0 ht1 e9) hne
    | 1, _, 0, _ => exact absurd (gW_inj hD ht1 ht0 e9) (fun q => hne q.symm)
  split at h
  · next hv =>
    refine lv_acmp_ne (rx := some (r (305 + o))) (ry := if v = 0 then none else some (r (v - 1).toNat)) hx hb hdg ht (fun q => ?_) (fun q => ?_)
    · by_cases e9 : v = ((305 + o : Nat) : Int) + 1
      · rw [if_neg (by omega), show (v - 1).toNat = 305 + o from by omega] at q
        exact absurd rfl q
      · rw [if_neg e9] at h
        exact kt h H locs ls hP hD hS hl
    · by_cases e9 : v = ((305 + o : Nat) : Int) + 1
      · rw [if_pos e9] at h
        exact kf h H locs ls hP hD hS hl
      · exfalso
        rcases hv with rfl | rfl | rfl
        · cases q
        · have := n1 o ho 0 (by decide) (Option.some.inj q); omega
        · have := n1 o ho 1 (by decide) (Option.some.inj q); omega
  · cases h
def sqSZ (k : Nat) : Int := (sgB k).toInt
theorem g_aldS (X : gX p s m meth c cc mL ret y0 args E A) {Z : Type} {z : Z} {i : Int} {K : Int → Option Z} (hdg : decode cc pc = .ok (.baload, 1)) (h : ixI i 8 (lt1 (sqSZ i.toNat) K) = some z) (kk : ∀ v : Int, K v = some z → gP p l e R s m args below meth c E A mL Q w (pc + 1) lv (iv v :: rest) t) : gP p l e R s m args below meth c E A mL Q w pc lv (iv i :: .ref (E.2.2 5) :: rest) t := by
  intro H locs ls hP hD hS hl
  obtain ⟨hx, hb, hr, hml, hown, hts, hlk, hin⟩ := X.1
  obtain ⟨h1, h2, h3⟩ := ixI_some h
  refine va_tb (v := iv (sqSZ i.toNat)) hx hb (gZs X).2.2.1.2.2.2 hS (vp_in_z h1 h2 (by decide)) ?_ hdg (kk _ h3 H locs ls hP hD hS hl)
  rw [z_cl h1 (by omega)]
  show Value.int (sgB i.toNat) = Value.int (Int32.ofInt (sgB i.toNat).toInt)
  rw [z_of]
theorem g_alenS (X : gX p s m meth c cc mL ret y0 args E A) (hdg : decode cc pc = .ok (.arraylength, 1)) (kk : gP p l e R s m args below meth c E A mL Q w (pc + 1) lv (iv 8 :: rest) t) : gP p l e R s m args below meth c E A mL Q w pc lv (.ref (E.2.2 5) :: rest) t := by
  intro H locs ls hP hD hS hl
  obtain ⟨hx, hb, hr, hml, hown, hts, hlk, hin⟩ := X.1
  exact va_tlen (N := 8) hx hb (gZs X).2.2.1.2.2.2 hS (v := Int32.ofInt 8) rfl hdg (kk H locs ls hP hD hS hl)
theorem g_getSV (X : gX p s m meth c cc mL ret y0 args E A) {idx : Nat} (ho : y0.cls = "java/lang/String") (hlink : Cond.fieldLink "java/lang/String" idx "java/lang/String" "value" "[B" ∈ TB) (hdg : decode cc pc = .ok (.getfield idx, 3)) (kk : gP p l e R s m args below meth c E A mL Q w (pc + 3) lv (.ref (E.2.2 5) :: rest) t) : gP p l e R s m args below meth c E A mL Q w pc lv (.ref (E.2.2 4) :: rest) t := by
  intro H locs ls hP hD hS hl
  obtain ⟨hx, hb, hr, hml, hown, hts, hlk, hin⟩ := X.1
  rw [ho] at hown
  exact vk_getf (v := .ref (E.2.2 5)) hx hb (gZs X).2.2.1.2.2.1 hS hown (hts _ hlink) (fun _ h => h) hdg (kk H locs ls hP hD hS hl)
theorem g_getSC (X : gX p s m meth c cc mL ret y0 args E A) {idx : Nat} (ho : y0.cls = "java/lang/String") (hlink : Cond.fieldLink "java/lang/String" idx "java/lang/String" "coder" "B" ∈ TB) (hdg : decode cc pc = .ok (.getfield idx, 3)) (kk : gP p l e R s m args below meth c E A mL Q w (pc + 3) lv (iv 0 :: rest) t) : gP p l e R s m args below meth c E A mL Q w pc lv (.ref (E.2.2 4) :: rest) t := by
  intro H locs ls hP hD hS hl
  obtain ⟨hx, hb, hr, hml, hown, hts, hlk, hin⟩ := X.1
  rw [ho] at hown
  exact vk_getf (v := .int 0) hx hb (gZs X).2.2.1.2.1 hS hown (hts _ hlink) (fun _ h => h) hdg (kk H locs ls hP hD hS hl)
theorem g_getCS (X : gX p s m meth c cc mL ret y0 args E A) {idx : Nat} (ho : y0.cls = "java/lang/String") (hlink : Cond.fieldLink "java/lang/String" idx "java/lang/String" "COMPACT_STRINGS" "Z" ∈ TB) (hdg : decode cc pc = .ok (.getstatic idx, 3)) (kk : gP p l e R s m args below meth c E A mL Q w (pc + 3) lv (iv 1 :: rest) t) : gP p l e R s m args below meth c E A mL Q w pc lv rest t := by
  intro H locs ls hP hD hS hl
  obtain ⟨hx, hb, hr, hml, hown, hts, hlk, hin⟩ := X.1
  rw [ho] at hown
  exact va_gets (v := .int 1) hx hb (gZs X).2.2.2.1 hS hown (hts _ hlink) (fun _ h => h) hdg (kk H locs ls hP hD hS hl)
abbrev gqN (E : cE) (r : Nat → Nat) (w : St → va_W) (z : Int × St) := qQ E (fun (r9 : Option Nat) (_ : Unit) => r9 = some (r (312 + z.1.toNat)) ∧ z.1.toNat < 3) (fun (_ : Unit) => w z.2)
theorem g_nret {C : String} (X : gX p s m meth c cc mL (some (.object C)) y0 args E A) {z : Int × St} {mc ms o : Nat} (ho : o < 3) (h : some ((o : Int), t) = some z) (hdg : decode cc pc = .ok (.areturn, 1)) : gP p l e R s m args below meth c E A mL (MQ below ((gqN E r w z) A) args s mc ms A) w pc lv [.ref (r (312 + o))] t := by
  intro H locs ls hP hD hS hl
  obtain ⟨hx, hb, hr, hml, hown, hts, hlk, hin⟩ := X.1
  cases h
  refine W.widen (k := mc) (n := ms) (Nat.zero_le _) (Nat.zero_le _) ?_
  exact W.aret hx hb hr (Or.inl ⟨_, rfl⟩) (Or.inr ⟨_, rfl⟩) (fun t9 ht hW => ⟨⟨some (r (312 + o)), (), rfl, ⟨by show some (r (312 + o)) = some (r (312 + ((o : Nat) : Int).toNat)); rw [Int.toNat_natCast], by show ((o : Nat) : Int).toNat < 3; rw [Int.toNat_natCast]; exact ho⟩, by rw [ht]; exact hP, va_K.moved hW.alike X.2.2.1, hD⟩, hS.F ht⟩) hS.2.2 hdg
variable {y : MethodName} {bytes : ByteArray} {maxL : Nat} {ret1 : Option FieldType} {rm : Room} {idx n : Nat} {As : List Value} {stk : List Value}
theorem g_callN (X : gX p s m meth c cc mL ret y0 args E A) {Z : Type} {z : Z} {F : Option (Int × St)} {K : Int → St → Option Z} {id ci : Nat} (hM : ∀ u : Int × St, F = some u → cM l E y bytes maxL ret1 rm (.ref (r id) :: As) (gW E r tab t) (gqN E r (gW E r tab) u)) (hY : cY y bytes maxL ret1 n) (hI : cYi y) (hlink : Cond.methodLink y0.cls idx y ∈ TB) (hO : gO tab id ci) {T : u_T} {N : Nat} (hci : vwCl[ci]? = some (y.cls, T, N)) (hlen : As.length = n) (hst : stk = As.reverse ++ .ref (r id) :: rest) (hcat : (rest.map fun v => v.category).sum ≤ 8) (hdg : decode cc pc = .ok (.invokevirtual idx, 3)) (hR : rm.frames + 1 ≤ R.frames ∧ 8 + (maxL + 11) + rm.locals ≤ R.locals) (h0 : rm.cells = 0 ∧ rm.slots = 0) (h : bdI F K = some z)
    (kk : ∀ (v : Int) (t1 : St), v.toNat < 3 → K v t1 = some z → gP p l e R s m args below meth c E A mL Q (gW E r tab) (pc + 3) lv (.ref (r (312 + v.toNat)) :: rest) t1) : gP p l e R s m args below meth c E A mL Q (gW E r tab) pc lv stk t := by
  obtain ⟨rq, rfs, hrq⟩ := gO_rq (E := E) (r := r) (t := t) hO
  intro H locs ls hP hD hS hl
  unfold bdI at h
  cases hF : F with
  | none => rw [hF] at h; cases h
  | some u =>
    rw [hF] at h
    refine cQ_go (wr := []) (cM_runV X.1 (hM u hF) hY hI hlink hP hD hS X.2.2.1 X.2.2.2 X.2.1 (List.range (gW E r tab t).length) (va_nd_range _) (rng_all _) rq ci hrq hci hlen hl.1 hst hcat hdg hR ⟨by rw [h0.1]; exact Nat.zero_le _, by rw [h0.2]; exact Nat.zero_le _⟩) hP hD hS X.2.1 (List.range (gW E r tab t).length) [] (rng_all _) rfl rfl (fun i h9 => absurd h9 List.not_mem_nil) (fun r9 u9 H1 locs1 hw hP1 hD1 hS1 => ?_)
    rw [h0.1, h0.2, hw.1]
    exact kk u.1 u.2 hw.2 h H1 locs1 ls hP1 hD1 hS1 hl
theorem g_callsNL (X : gX p s m meth c cc mL ret y0 args E A) {Z : Type} {z : Z} {F : Option (Int64 × St)} {K : Int64 → St → Option Z} {host : String} (hM : ∀ u : Int64 × St, F = some u → cM l E y bytes maxL ret1 rm As (w t) (gqL E w u)) (hY : cY y bytes maxL ret1 n) (hsta : Cond.static y ∈ TB) (hlink : va_Nw (.methodLinkNest y0.cls idx y host) s) (hlen : As.length = n) (hst : stk = As.reverse ++ rest) (hcat : (rest.map fun v => v.category).sum ≤ 8) (hdg : decode cc pc = .ok (.invokestatic idx, 3)) (hR : rm.frames + 1 ≤ R.frames ∧ 8 + (maxL + 11) + rm.locals ≤ R.locals) (h0 : rm.cells = 0 ∧ rm.slots = 0) (h : bdL F K = some z)
    (kk : ∀ (v : Int64) (t1 : St), K v t1 = some z → gP p l e R s m args below meth c E A mL Q w (pc + 3) lv (.long v :: rest) t1) : gP p l e R s m args below meth c E A mL Q w pc lv stk t := by
  intro H locs ls hP hD hS hl
  obtain ⟨hx, hb, hr, hml, hown, hts, hlk, hin⟩ := X.1
  unfold bdL at h
  cases hF : F with
  | none => rw [hF] at h; cases h
  | some u =>
    rw [hF] at h
    refine cL_go (wr := []) (va_runSN (n := n) ⟨hx, hb, hml, hown, hts⟩ (hM u hF H.size) ⟨va_cnB n hts (TB_goodC hY.1) rfl rfl rfl hlink (hts _ hY.2.1) hY.2.2 hR, hts _ hsta, trivial⟩ ⟨cM_blind, cM_pre hP hD hS X.2.2.1 X.2.2.2 X.2.1 (List.range (w t).length) (va_nd_range _) (rng_all _)⟩ rfl hlen hl.1 hst (lv_room hcat) hdg ⟨by rw [h0.1]; exact Nat.zero_le _, by rw [h0.2]; exact Nat.zero_le _⟩) hP hD hS X.2.1 (List.range (w t).length) [] (rng_all _) rfl rfl (fun i h9 => absurd h9 List.not_mem_nil) (fun r9 u9 H1 locs1 hw hP1 hD1 hS1 => ?_)
    rw [h0.1, h0.2, hw]
    exact kk u.1 u.2 h H1 locs1 ls hP1 hD1 hS1 hl
theorem g_callTI (X : gX p s m meth c cc mL ret y0 args E A) {Z : Type} {z : Z} {F : Option (Int × St)} {K : Int → St → Option Z} {b : Nat} (hM : ∀ u : Int × St, F = some u → cM l E y bytes maxL ret1 rm (.ref b :: As) (w t) (gqI E w u)) (hY : cY y bytes maxL ret1 n) (hI : cYi y) (hlink : Cond.methodLink y0.cls idx y ∈ TB) (hO : va_O y.cls b A s s.heap) (hlen : As.length = n) (hst : stk = As.reverse ++ .ref b :: rest) (hcat : (rest.map fun v => v.category).sum ≤ 8) (hdg : decode cc pc = .ok (.invokevirtual idx, 3)) (hR : rm.frames + 1 ≤ R.frames ∧ 8 + (maxL + 11) + rm.locals ≤ R.locals) (h0 : rm.cells = 0 ∧ rm.slots = 0) (h : bdI F K = some z)
    (kk : ∀ (v : Int) (t1 : St), K v t1 = some z → gP p l e R s m args below meth c E A mL Q w (pc + 3) lv (iv v :: rest) t1) : gP p l e R s m args below meth c E A mL Q w pc lv stk t := by
  intro H locs ls hP hD hS hl
  unfold bdI at h
  cases hF : F with
  | none => rw [hF] at h; cases h
  | some u =>
    rw [hF] at h
    refine cI_go (wr := []) (cM_runVS X.1 (hM u hF) hY hI hlink hP hD hS X.2.2.1 X.2.2.2 X.2.1 (List.range (w t).length) (va_nd_range _) (rng_all _) hO hlen hl.1 hst hcat hdg hR ⟨by rw [h0.1]; exact Nat.zero_le _, by rw [h0.2]; exact Nat.zero_le _⟩) hP hD hS X.2.1 (List.range (w t).length) [] (rng_all _) rfl rfl (fun i h9 => absurd h9 List.not_mem_nil) (fun r9 u9 H1 locs1 hw hP1 hD1 hS1 => ?_)
    rw [h0.1, h0.2, hw]
    exact kk u.1 u.2 h H1 locs1 ls hP1 hD1 hS1 hl
theorem g_bret (X : gX p s m meth c cc mL (some .byte) y0 args E A) {z : Int × St} {mc ms : Nat} {a : Int} (h : some (a, t) = some z) (hn : narrow .byte (iv a) = iv a) (hdg : decode cc pc = .ok (.ireturn, 1)) : gP p l e R s m args below meth c E A mL (MQ below ((gqI E w z) A) args s mc ms A) w pc lv [iv a] t := by
  intro H locs ls hP hD hS hl
  obtain ⟨hx, hb, hr, hml, hown, hts, hlk, hin⟩ := X.1
  cases h
  refine W.widen (k := mc) (n := ms) (Nat.zero_le _) (Nat.zero_le _) ?_
  exact W.zret hx hb hr hn (fun t9 ht hW => ⟨⟨_, (), rfl, rfl, by rw [ht]; exact hP, va_K.moved hW.alike X.2.2.1, hD⟩, hS.F ht⟩) hS.2.2 hdg
theorem gZn (X : gX p s m meth c cc mL ret y0 args E A) : va_Nw (.methodLinkNest "CallerHall$Tokens" 83 ⟨"CallerHall", "lettersOf", "([BII)J"⟩ "CallerHall") s := by
  obtain ⟨_, _, _, hZ⟩ := X
  obtain ⟨_, _, _, _, _, _, h, _, _⟩ := hZ
  exact h
end DH
