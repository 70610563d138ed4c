section MyRefs
variable {p : Program} {l : Launch} {e : Env} {R : Room} {s : State} {m : MethodId} {args : Array Value} {below : List Frame} {meth : Method} {c : Code} {H : Heap} {locs : List Loc} {cells slots : Nat} {Q : State → Prop}
variable {E : cE} {A : Nat → Prop} {ws : va_W} {cc : ByteArray} {mL : Nat} {ret : Option FieldType} {y0 : MethodName} {pc : Nat} {ls : Array Slot} {rest st0 : List Value} {rm : Room} {wc wr : va_W}
theorem cQ_go {S : Type} {post : Option Nat → S → Prop} {w' : S → va_W} {a : Array Value} (hr : va_Run p l e R s m args below meth c H locs cells slots rm.cells rm.slots (F0 m pc ls st0) rest (qQ E post w' (va_A wc H.size) a) (va_A wc H.size)) (hP : va_P E.1 vwCl ws H) (hD : va_D A ws) (hS : va_S A s.heap H locs) (hA : ∀ q : Nat, s.heap.size ≤ q → A q) (isC isR : List Nat) (hC : isC.map (fun i => ws[i]?) = wc.map some) (hRs : isR.map (fun i => ws[i]?) = wr.map some) (hnR : va_nd isR = true) (hdis : ∀ i ∈ isR, i ∉ isC)
    (kk : ∀ (r : Option Nat) (u : S) (H1 : Heap) (locs1 : List Loc), post r u → va_P E.1 vwCl (wr ++ w' u) H1 → va_D A (wr ++ w' u) → va_S A s.heap H1 locs1 → W p l e R s m args below meth c H1 locs1 (cells + rm.cells) (slots + rm.slots) Q (F0 m (pc + 3) ls (va_rf r :: rest))) : W p l e R s m args below meth c H locs cells slots Q (F0 m pc ls st0) := by
  have hF := va_free (wc := wc) hD hS hA isC hC
  refine va_callq hr hS (fun q _ h => hF q h) hF (fun r u t H1 locs1 ht hvm hw hB hz1 hk1 hS1 => ?_)
  obtain ⟨h1, h2⟩ := cM_back hP hD hS hA isC isR hC hRs hnR hdis ht hB hk1
  exact kk r u H1 locs1 hw h1 h2 hS1
theorem cQ_ret {S : Type} {post : Option Nat → S → Prop} {w' : S → va_W} {v : Option Nat} {C : String} (F : cX p s m meth c cc mL (some (.object C)) y0 args) (hP : va_P E.1 vwCl ws H) (hD : va_D A ws) (hS : va_S A s.heap H locs) (hK : va_K E.1 vwCl (cTY E.2.1) s) (u : S) (hu : post v u) (is : List Nat) (hn : va_nd is = true) (hw : is.map (fun i => ws[i]?) = (w' u).map some) (hdg : decode cc pc = .ok (.areturn, 1)) {mc ms : Nat} (h1 : cells ≤ mc) (h2 : slots ≤ ms) :
    W p l e R s m args below meth c H locs cells slots (MQ below (qQ E post w' A) args s mc ms A) (F0 m pc ls [va_rf v]) := by
  obtain ⟨hx, hb, hr, hml, hown, hts, hlk, hin⟩ := F
  refine W.widen h1 h2 ?_
  exact W.aret hx hb hr (Or.inl ⟨_, rfl⟩) (by cases v; exact Or.inl rfl; exact Or.inr ⟨_, rfl⟩) (fun t ht hW => ⟨⟨v, u, rfl, hu, by rw [ht]; exact hP.sub is (cw_fm hw), va_K.moved hW.alike hK, hD.sub is hn hw⟩, hS.F ht⟩) hS.2.2 hdg
end MyRefs
