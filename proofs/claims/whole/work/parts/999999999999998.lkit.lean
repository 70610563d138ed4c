/-! the law: kit for its loop -/
section KL
variable {p : Program} {l : Launch} {e : Env} {R : Room} {s : State} {m : MethodId} {args : Array Value} {below : List Frame} {meth : Method} {c : Code} {Q : State → Prop}
variable {E : cE} {A : Nat → Prop} {cc : ByteArray} {mL : Nat} {ret : Option FieldType} {y0 : MethodName}
variable {ws : va_W} {ce sl pc : Nat} {lv : List (Nat × Value)} {rest : List Value} {t μ : St} {r : Nat → Nat} {W0 : va_W}
variable {y : MethodName} {bytes : ByteArray} {maxL : Nat} {ret1 : Option FieldType} {rm : Room} {idx n : Nat} {As st0 : List Value}
theorem k_tV (X : gX p s m meth c cc mL ret y0 args E A) {tab : List gS} {id ci : Nat} {u : St} (hM : cM l E y bytes maxL ret1 rm (.ref (r id) :: As) (gW E r tab t) (gqV E (gW E r tab) u)) (hY : cY y bytes maxL ret1 n) (hI : cYi y) (hlink : Cond.methodLink y0.cls idx y ∈ TB) (hO : gO tab id ci) {T : u_T} {N : Nat} (hci : vwCl[ci]? = some (y.cls, T, N)) (hlen : As.length = n) (hst : st0 = As.reverse ++ .ref (r id) :: rest) (hcat : (rest.map fun v => v.category).sum ≤ 8) (hdg : decode cc pc = .ok (.invokevirtual idx, 3)) (hR : rm.frames + 1 ≤ R.frames ∧ 8 + (maxL + 11) + rm.locals ≤ R.locals) (h0 : rm.cells = 0 ∧ rm.slots = 0) (hf : ce ≤ R.cells ∧ sl ≤ R.slots) (kk : kP ce sl p l e R s m args below meth c E A mL Q (gW E r tab u ++ W0) (pc + 3) lv rest) : kP ce sl p l e R s m args below meth c E A mL Q (gW E r tab t ++ W0) pc lv st0 := by
  obtain ⟨rq, fs, hrq⟩ := hO
  refine k_callV X hM hY hI hlink rq ci (gW_ap hrq) hci hlen hst hcat hdg hR (by rw [h0.1, h0.2]; exact hf) (fun _ _ => ?_)
  rw [h0.1, h0.2]
  exact kk
theorem k_tI (X : gX p s m meth c cc mL ret y0 args E A) {tab : List gS} {id ci : Nat} {v : Int} {u : St} (hM : cM l E y bytes maxL ret1 rm (.ref (r id) :: As) (gW E r tab t) (gqI E (gW E r tab) (v, u))) (hY : cY y bytes maxL ret1 n) (hI : cYi y) (hlink : Cond.methodLink y0.cls idx y ∈ TB) (hO : gO tab id ci) {T : u_T} {N : Nat} (hci : vwCl[ci]? = some (y.cls, T, N)) (hlen : As.length = n) (hst : st0 = As.reverse ++ .ref (r id) :: rest) (hcat : (rest.map fun v => v.category).sum ≤ 8) (hdg : decode cc pc = .ok (.invokevirtual idx, 3)) (hR : rm.frames + 1 ≤ R.frames ∧ 8 + (maxL + 11) + rm.locals ≤ R.locals) (h0 : rm.cells = 0 ∧ rm.slots = 0) (hf : ce ≤ R.cells ∧ sl ≤ R.slots) (kk : kP ce sl p l e R s m args below meth c E A mL Q (gW E r tab u ++ W0) (pc + 3) lv (iv v :: rest)) : kP ce sl p l e R s m args below meth c E A mL Q (gW E r tab t ++ W0) pc lv st0 := by
  obtain ⟨rq, fs, hrq⟩ := hO
  refine k_callI X hM hY hI hlink rq ci (gW_ap hrq) hci hlen hst hcat hdg hR (by rw [h0.1, h0.2]; exact hf) (fun r9 _ h9 => ?_)
  rw [h0.1, h0.2]
  have h9 : r9 = Int32.ofInt v := h9
  subst h9
  exact kk
theorem k_tL (X : gX p s m meth c cc mL ret y0 args E A) {tab : List gS} {id ci : Nat} {v : Int64} {u : St} (hM : cM l E y bytes maxL ret1 rm (.ref (r id) :: As) (gW E r tab t) (gqL E (gW E r tab) (v, u))) (hY : cY y bytes maxL ret1 n) (hI : cYi y) (hlink : Cond.methodLink y0.cls idx y ∈ TB) (hO : gO tab id ci) {T : u_T} {N : Nat} (hci : vwCl[ci]? = some (y.cls, T, N)) (hlen : As.length = n) (hst : st0 = As.reverse ++ .ref (r id) :: rest) (hcat : (rest.map fun v => v.category).sum ≤ 8) (hdg : decode cc pc = .ok (.invokevirtual idx, 3)) (hR : rm.frames + 1 ≤ R.frames ∧ 8 + (maxL + 11) + rm.locals ≤ R.locals) (h0 : rm.cells = 0 ∧ rm.slots = 0) (hf : ce ≤ R.cells ∧ sl ≤ R.slots) (kk : kP ce sl p l e R s m args below meth c E A mL Q (gW E r tab u ++ W0) (pc + 3) lv (.long v :: rest)) : kP ce sl p l e R s m args below meth c E A mL Q (gW E r tab t ++ W0) pc lv st0 := by
  obtain ⟨rq, fs, hrq⟩ := hO
  refine k_callL X hM hY hI hlink rq ci (gW_ap hrq) hci hlen hst hcat hdg hR (by rw [h0.1, h0.2]; exact hf) (fun r9 _ h9 => ?_)
  rw [h0.1, h0.2]
  have h9 : r9 = v := h9
  subst h9
  exact kk
theorem k_wide {k n : Nat} {stk : List Value} (h1 : ce ≤ k) (h2 : sl ≤ n) (kk : kP k n p l e R s m args below meth c E A mL Q ws pc lv stk) : kP ce sl p l e R s m args below meth c E A mL Q ws pc lv stk := fun H locs ls hP hD hS hl => W.widen h1 h2 (kk H locs ls hP hD hS hl)
/-- the law's locals at its loop -/
abbrev lwL (b xo mo i : Nat) : List (Nat × Value) := [(0, .ref b), (1, .ref xo), (2, .ref mo), (3, .int (nI i))]
/-- the i+j-th int of the script -/
theorem k_arg (X : gX p s m meth c cc 4 ret y0 args E A) {b L i j xo mo : Nat} {xs : Nat → Int32} {n : Int} (hX : va_X b L xs s s.heap) (hbl : b < s.heap.size) (hbA : ¬ A b) (hij : i + j < L) (hL : L ≤ 3072) (hj : Int32.ofInt n = nI j) (d1 : decode cc pc = .ok (.aload_n 0, 1)) (d2 : decode cc (pc + 1) = .ok (.iload_n 3, 1)) (d3 : decode cc (pc + 2) = .ok (.iconst n, 1)) (d4 : decode cc (pc + 3) = .ok (.iadd, 1)) (d5 : decode cc (pc + 4) = .ok (.iaload, 1)) (kk : kP ce sl p l e R s m args below meth c E A 4 Q ws (pc + 5) (lwL b xo mo i) (iv (xs (i + j)).toInt :: rest)) : kP ce sl p l e R s m args below meth c E A 4 Q ws pc (lwL b xo mo i) rest := by
  obtain ⟨hx, hb, hr, hml, hown, hts, hlocks, hin⟩ := id X.1
  intro H locs ls hP hD hS hl
  refine lv_aload_n hx hb d1 rfl (lv_at hl 0 rfl) ?_
  refine lv_iload_n hx hb d2 rfl (lv_at hl 3 rfl) ?_
  refine lv_iconst (v := nI j) hx hb d3 hj ?_
  refine lv_iadd hx hb d4 ?_
  rw [nI_add]
  refine va_sld hx hb hX hbl hbA hS (i := nI (i + j)) (vp_in_nI hij (by omega)) d5 ?_
  rw [nI_clamp (n := i + j) (by omega)]
  have k9 := kk H locs ls hP hD hS hl
  rw [show iv (xs (i + j)).toInt = Value.int (xs (i + j)) by rw [iv, Int32.ofInt_toInt]] at k9
  exact k9
theorem k_eqI (X : gX p s m meth c cc mL ret y0 args E A) {a : Int} {off : Int} {tgt : Nat} (hdg : decode cc pc = .ok (.if_icmp .eq off, 3)) (ht : (pc : Int) + off = (tgt : Int)) (kk : kP ce sl p l e R s m args below meth c E A mL Q ws tgt lv rest) : kP ce sl p l e R s m args below meth c E A mL Q ws pc lv (iv a :: iv a :: rest) := by
  obtain ⟨hx, hb, hr, hml, hown, hts, hlocks, hin⟩ := id X.1
  intro H locs ls hP hD hS hl
  exact lv_icmp_eq hx hb hdg ht (fun _ => kk H locs ls hP hD hS hl) (fun h => absurd rfl h)
theorem k_eqL (X : gX p s m meth c cc mL ret y0 args E A) {a : Int64} {off : Int} {tgt : Nat} (hd0 : decode cc pc = .ok (.lcmp, 1)) (hdg : decode cc (pc + 1) = .ok (.ifCond .eq off, 3)) (ht : ((pc + 1 : Nat) : Int) + off = (tgt : Int)) (kk : kP ce sl p l e R s m args below meth c E A mL Q ws tgt lv rest) : kP ce sl p l e R s m args below meth c E A mL Q ws pc lv (.long a :: .long a :: rest) := by
  obtain ⟨hx, hb, hr, hml, hown, hts, hlocks, hin⟩ := id X.1
  intro H locs ls hP hD hS hl
  refine W.lcmp hx hb hd0 ?_
  exact lv_if_eq hx hb hdg ht (fun _ => kk H locs ls hP hD hS hl) (fun h => absurd ((lg_cmp_eq _ _).mpr rfl) h)
end KL
/-- what holds at the head of the law's loop, c calls done -/
def LWw (c : Nat) (E : cE) (xo mo : Nat) (ws : va_W) : Prop := ∃ (n : Nat) (t m μ : St) (B : Nat) (len r q : Nat → Nat), ws = (gW E r shH t ++ exL E r B len μ) ++ gW E q shM m ∧ (r 300 = xo ∧ q 200 = mo) ∧ GR0 n c t m ∧ HISr n c t m μ B len ∧ (∀ j, inR (m.1 57 j)) ∧ inR (m.1 200 51)
theorem LWw.of {n c : Nat} {E : cE} {xo mo : Nat} {t m μ : St} {B : Nat} {len r q : Nat → Nat} (h0 : r 300 = xo ∧ q 200 = mo) (h1 : GR0 n c t m) (h2 : HISr n c t m μ B len) : LWw c E xo mo ((gW E r shH t ++ exL E r B len μ) ++ gW E q shM m) := by
  have k := gR0_nrm h1
  refine ⟨n, t, nrm m, μ, B, len, r, q, by rw [gW_nrm], h0, k.1, h2.mv k.2 (Nat.le_refl _), fun j => ?_, ?_⟩
  · rw [nrm_57]; exact inR_z
  · rw [nrm_51]; exact inR_z
theorem inR_t (x : Int32) : inR x.toInt := by
  have h := inR_z (a := x.toInt)
  rw [Int32.ofInt_toInt] at h
  exact h
/-- the model calls -/
def perm3 {α : Type} (a b c : List α) : ((a ++ b) ++ c).Perm (c ++ (a ++ b)) := List.perm_append_comm

