theorem sw_cases (v : Int32) (n : Nat) (hn : n < 2 ^ 31) : (v.toInt < 0 ∨ (((n : Int) - 1) < v.toInt)) ∨ ∃ j, j < n ∧ v = nI j := by
  rcases pk_ix v hn with h | h | h
  · exact Or.inl (Or.inl (by have := Int32.lt_iff_toInt_lt.mp h; simpa using this))
  · refine Or.inl (Or.inr ?_)
    have h2 := Int32.le_iff_toInt_le.mp h
    rw [nI_toInt hn] at h2
    omega
  · exact Or.inr h
def dncF (v u : Int32) : Int32 := if v < 0 then -1 else if nI (2 * 4) ≤ v then -1 else if u = nI 0 then nI (4 * (stC 0 v.toNatClampNeg / 4 % 64)) else if u = nI 1 then nI (4 * (stC 0 v.toNatClampNeg / 256)) else if u = nI 2 then nI (stC 0 v.toNatClampNeg % 4) else if u = nI 3 then 0 else -1
def abF (v : Int32) : Int32 := if v.toInt < 0 ∨ 13 < v.toInt then -1 else ([8, 0, 0, 0, 1, 1, 0, 0, 0, 0, 0, 0, 0, 0] : List Int32).getD v.toNatClampNeg 0
def whoF (cd : Nat → Nat) (x y : Int32) : Nat → Nat → Int32
  | 0, _ => -1
  | n + 1, d => if nI (4 * (cd d / 4 % 64)) = x ∧ nI (4 * (cd d / 256)) = y then nI d else whoF cd x y n (d + 1)
theorem whoF_none {cd : Nat → Nat} {x y : Int32} : ∀ n d, (∀ e, d ≤ e → e < d + n → ¬ (nI (4 * (cd e / 4 % 64)) = x ∧ nI (4 * (cd e / 256)) = y)) → whoF cd x y n d = -1 := by
  intro n
  induction n with
  | zero => intro d _; rfl
  | succ n ih =>
    intro d h
    unfold whoF
    rw [if_neg (h d (Nat.le_refl _) (by omega))]
    exact ih (d + 1) (fun e h1 h2 => h e (by omega) (by omega))
theorem who_sq : ∀ d, d < 8 → (¬ nI (4 * (stC 0 d / 4 % 64)) < 0 ∧ ¬ nI (4 * (stC 0 d / 256)) < 0 ∧ ¬ nI 252 < nI (4 * (stC 0 d / 4 % 64)) ∧ ¬ nI 252 < nI (4 * (stC 0 d / 256)) ∧ (nI (4 * (stC 0 d / 4 % 64)) ||| nI (4 * (stC 0 d / 256))) &&& nI 3 = 0) := by decide +kernel
theorem who_seat : ∀ a, a < 64 → ∀ b, b < 64 → seatOf (stC 0) (2 * 4) (64 * b + a) - nI 1 = whoF (stC 0) (nI (4 * a)) (nI (4 * b)) 8 0 := by decide +kernel
theorem who_no {x y : Int32} (h : ∀ d, d < 8 → nI (4 * (stC 0 d / 4 % 64)) = x → nI (4 * (stC 0 d / 256)) = y → False) : whoF (stC 0) x y 8 0 = -1 := whoF_none 8 0 (fun e _ h2 q => h e (by omega) q.1 q.2)
theorem mul4_of {x : Int32} {n : Nat} (h : x = nI n) (hn : n < 2 ^ 31) (h3 : x &&& nI 3 = 0) : ∃ a, n = 4 * a := by
  rw [h, pk_andN (by omega) 2 (by decide)] at h3
  have : n % 4 = 0 := (nI_eq (by omega) (by decide)).mp h3
  exact ⟨n / 4, by omega⟩
theorem or_and3 {x y : Int32} (h : (x ||| y) &&& nI 3 = 0) : x &&& nI 3 = 0 ∧ y &&& nI 3 = 0 := by
  have e : ∀ a b c : BitVec 32, (a ||| b) &&& c = 0 → a &&& c = 0 ∧ b &&& c = 0 := by
    intro a b c hq
    have hi : ∀ i, ((a ||| b) &&& c).getLsbD i = false := fun i => by rw [hq]; simp
    constructor
    · apply BitVec.eq_of_getLsbD_eq
      intro i hii
      have := hi i
      simp at this ⊢
      intro ha
      exact this (Or.inl ha)
    · apply BitVec.eq_of_getLsbD_eq
      intro i hii
      have := hi i
      simp at this ⊢
      intro ha
      exact this (Or.inr ha)
  have h2 : (x.toBitVec ||| y.toBitVec) &&& (nI 3).toBitVec = 0 := congrArg Int32.toBitVec h
  obtain ⟨h3, h4⟩ := e _ _ _ h2
  exact ⟨Int32.toBitVec.inj h3, Int32.toBitVec.inj h4⟩
theorem dX11_fault_0 : decode cX11_fault 0 = .ok (.aload_n 0, 1) := by decide +kernel
theorem dX11_fault_1 : decode cX11_fault 1 = .ok (.getfield 121, 3) := by decide +kernel
theorem dX11_fault_4 : decode cX11_fault 4 = .ok (.ireturn, 1) := by decide +kernel
abbrev rm_p_X11_fault : Room := { frames := 0, cells := 0, slots := 0, locals := 0 }
set_option maxHeartbeats 4000000 in
set_option maxRecDepth 100000 in
theorem p_X11_fault (l : Launch) (E : cE) (h0 : Nat) (ad : Nat → Nat) (gx : Nat → Int32) (gy : Nat → Int32) (gf : Nat → Int32) (v2 : Int32) (gt : Nat → Int32) (gh : Nat → Int32) (gc : Nat → Int32) (hw1 : flo (stC 0) (2 * 4) gx gy gf) (hw3 : ∀ d, d < 2 * 4 → gt d = 0) (hw4 : ∀ d, d < 2 * 4 → gh d = nI (stC 0 d)) (hw5 : ∀ d, d < 2 * 4 → gc d = nI (stC 0 d)) : cM l E yX11_fault cX11_fault 1 (some .int) rm_p_X11_fault [.ref h0] [(h0, ob 11 [.ref (ad 0), .ref (ad 7), .ref (ad 28), .ref (ad 30), .ref (ad 76), .ref (ad 46), .ref (ad 55), .ref (ad 57), .ref (ad 59), .ref (ad 61), .ref (ad 80), .int 0, .int 0, .int 0, .int (-1), .int (-1), .int (-1)])] (qI E (fun (r : Int32) (_u : Unit) => r = 0) (fun _ => [])) := by
  refine cM_of (by decide) (Nat.le_of_ble_eq_true rfl) ?_
  intro p e s m below meth c ls A F hA hS hP hD hK hZ hl
  obtain ⟨hx, hb, hr, hml, hown, hts, hlk, hin⟩ := id F
  have hown : s.vm.findClass RX11 = some m.cls := hown
  have hl : lv_has ls 1 [(0, .ref h0)] := hl
  refine lv_aload_n hx hb dX11_fault_0 rfl (lv_at hl 0 rfl) ?_
  refine va_get (D := E.1) (ci := 11) (v := .int 0) (C := RX11) (T := TX11) (N := 17) hx hb hts iX11 hown hK hP 0 rfl rfl 13 (by decide) (hts _ wdF_RX11_121) (fun _ h9 => h9) rfl dX11_fault_1 ?_
  exact cI_ret F hP hD hS hK () rfl [] rfl rfl dX11_fault_4 (by decide) (by decide)
theorem yy_X11_fault : cY yX11_fault cX11_fault 1 (some .int) 0 := ⟨wdK_X11_fault, wdZ_RX11, by decide +kernel⟩
theorem yi_X11_fault : cYi yX11_fault := ⟨wdN_X11_fault, wdS_X11_fault⟩
theorem dX11_failed_0 : decode cX11_failed 0 = .ok (.iload_n 1, 1) := by decide +kernel
theorem dX11_failed_1 : decode cX11_failed 1 = .ok (.tableswitch 42 0 2 #[27, 32, 37], 27) := by decide +kernel
theorem dX11_failed_28 : decode cX11_failed 28 = .ok (.aload_n 0, 1) := by decide +kernel
theorem dX11_failed_29 : decode cX11_failed 29 = .ok (.getfield 83, 3) := by decide +kernel
theorem dX11_failed_32 : decode cX11_failed 32 = .ok (.ireturn, 1) := by decide +kernel
theorem dX11_failed_33 : decode cX11_failed 33 = .ok (.aload_n 0, 1) := by decide +kernel
theorem dX11_failed_34 : decode cX11_failed 34 = .ok (.getfield 87, 3) := by decide +kernel
theorem dX11_failed_37 : decode cX11_failed 37 = .ok (.ireturn, 1) := by decide +kernel
theorem dX11_failed_38 : decode cX11_failed 38 = .ok (.aload_n 0, 1) := by decide +kernel
theorem dX11_failed_39 : decode cX11_failed 39 = .ok (.getfield 90, 3) := by decide +kernel
theorem dX11_failed_42 : decode cX11_failed 42 = .ok (.ireturn, 1) := by decide +kernel
theorem dX11_failed_43 : decode cX11_failed 43 = .ok (.iconst (-1), 1) := by decide +kernel
theorem dX11_failed_44 : decode cX11_failed 44 = .ok (.ireturn, 1) := by decide +kernel
abbrev rm_p_X11_failed : Room := { frames := 0, cells := 0, slots := 0, locals := 0 }
set_option maxHeartbeats 4000000 in
set_option maxRecDepth 100000 in
theorem p_X11_failed (l : Launch) (E : cE) (h0 : Nat) (ad : Nat → Nat) (gx : Nat → Int32) (gy : Nat → Int32) (gf : Nat → Int32) (v2 : Int32) (gt : Nat → Int32) (gh : Nat → Int32) (gc : Nat → Int32) (v : Int32) (hw1 : flo (stC 0) (2 * 4) gx gy gf) (hw3 : ∀ d, d < 2 * 4 → gt d = 0) (hw4 : ∀ d, d < 2 * 4 → gh d = nI (stC 0 d)) (hw5 : ∀ d, d < 2 * 4 → gc d = nI (stC 0 d)) : cM l E yX11_failed cX11_failed 2 (some .int) rm_p_X11_failed [.ref h0, .int v] [(h0, ob 11 [.ref (ad 0), .ref (ad 7), .ref (ad 28), .ref (ad 30), .ref (ad 76), .ref (ad 46), .ref (ad 55), .ref (ad 57), .ref (ad 59), .ref (ad 61), .ref (ad 80), .int 0, .int 0, .int 0, .int (-1), .int (-1), .int (-1)])] (qI E (fun (r : Int32) (_u : Unit) => r = -1) (fun _ => [])) := by
  refine cM_of (by decide) (Nat.le_of_ble_eq_true rfl) ?_
  intro p e s m below meth c ls A F hA hS hP hD hK hZ hl
  obtain ⟨hx, hb, hr, hml, hown, hts, hlk, hin⟩ := id F
  have hown : s.vm.findClass RX11 = some m.cls := hown
  have hl : lv_has ls 2 [(0, .ref h0), (1, .int v)] := hl
  refine lv_iload_n hx hb dX11_failed_0 rfl (lv_at hl 1 rfl) ?_
  rcases sw_cases v 3 (by decide) with hsw | ⟨j9, hj9, hsw⟩
  · refine lv_tableOut (tgt := 43) hx hb dX11_failed_1 hsw (by decide) ?_
    refine lv_iconst (v := (-1)) hx hb dX11_failed_43 (by decide) ?_
    exact cI_ret F hP hD hS hK () rfl [] rfl rfl dX11_failed_44 (by decide) (by decide)
  · subst hsw
    rcases (show j9 = 0 ∨ j9 = 1 ∨ j9 = 2 by omega) with rfl | rfl | rfl
    · refine lv_tableIn (tgt := 28) hx hb dX11_failed_1 (by decide) (by decide) (off := 27) (by decide) (by decide) ?_
      refine lv_aload_n hx hb dX11_failed_28 rfl (lv_at hl 0 rfl) ?_
      refine va_get (D := E.1) (ci := 11) (v := .int (-1)) (C := RX11) (T := TX11) (N := 17) hx hb hts iX11 hown hK hP 0 rfl rfl 14 (by decide) (hts _ wdF_RX11_83) (fun _ h9 => h9) rfl dX11_failed_29 ?_
      exact cI_ret F hP hD hS hK () rfl [] rfl rfl dX11_failed_32 (by decide) (by decide)
    · refine lv_tableIn (tgt := 33) hx hb dX11_failed_1 (by decide) (by decide) (off := 32) (by decide) (by decide) ?_
      refine lv_aload_n hx hb dX11_failed_33 rfl (lv_at hl 0 rfl) ?_
      refine va_get (D := E.1) (ci := 11) (v := .int (-1)) (C := RX11) (T := TX11) (N := 17) hx hb hts iX11 hown hK hP 0 rfl rfl 15 (by decide) (hts _ wdF_RX11_87) (fun _ h9 => h9) rfl dX11_failed_34 ?_
      exact cI_ret F hP hD hS hK () rfl [] rfl rfl dX11_failed_37 (by decide) (by decide)
    · refine lv_tableIn (tgt := 38) hx hb dX11_failed_1 (by decide) (by decide) (off := 37) (by decide) (by decide) ?_
      refine lv_aload_n hx hb dX11_failed_38 rfl (lv_at hl 0 rfl) ?_
      refine va_get (D := E.1) (ci := 11) (v := .int (-1)) (C := RX11) (T := TX11) (N := 17) hx hb hts iX11 hown hK hP 0 rfl rfl 16 (by decide) (hts _ wdF_RX11_90) (fun _ h9 => h9) rfl dX11_failed_39 ?_
      exact cI_ret F hP hD hS hK () rfl [] rfl rfl dX11_failed_42 (by decide) (by decide)
theorem yy_X11_failed : cY yX11_failed cX11_failed 2 (some .int) 1 := ⟨wdK_X11_failed, wdZ_RX11, by decide +kernel⟩
theorem yi_X11_failed : cYi yX11_failed := ⟨wdN_X11_failed, wdS_X11_failed⟩
theorem dX11_feed_0 : decode cX11_feed 0 = .ok (.aload_n 0, 1) := by decide +kernel
theorem dX11_feed_1 : decode cX11_feed 1 = .ok (.getfield 10, 3) := by decide +kernel
theorem dX11_feed_4 : decode cX11_feed 4 = .ok (.bipush 20, 2) := by decide +kernel
theorem dX11_feed_6 : decode cX11_feed 6 = .ok (.invokevirtual 101, 3) := by decide +kernel
theorem dX11_feed_9 : decode cX11_feed 9 = .ok (.ifCond .ne 5, 3) := by decide +kernel
theorem dX11_feed_12 : decode cX11_feed 12 = .ok (.iconst 0, 1) := by decide +kernel
theorem dX11_feed_13 : decode cX11_feed 13 = .ok (.ireturn, 1) := by decide +kernel
theorem dX11_feed_14 : decode cX11_feed 14 = .ok (.aload_n 0, 1) := by decide +kernel
theorem dX11_feed_15 : decode cX11_feed 15 = .ok (.getfield 10, 3) := by decide +kernel
theorem dX11_feed_18 : decode cX11_feed 18 = .ok (.iload_n 1, 1) := by decide +kernel
theorem dX11_feed_19 : decode cX11_feed 19 = .ok (.invokevirtual 105, 3) := by decide +kernel
theorem dX11_feed_22 : decode cX11_feed 22 = .ok (.aload_n 0, 1) := by decide +kernel
theorem dX11_feed_23 : decode cX11_feed 23 = .ok (.getfield 10, 3) := by decide +kernel
theorem dX11_feed_26 : decode cX11_feed 26 = .ok (.iload_n 2, 1) := by decide +kernel
theorem dX11_feed_27 : decode cX11_feed 27 = .ok (.invokevirtual 105, 3) := by decide +kernel
theorem dX11_feed_30 : decode cX11_feed 30 = .ok (.aload_n 0, 1) := by decide +kernel
theorem dX11_feed_31 : decode cX11_feed 31 = .ok (.getfield 10, 3) := by decide +kernel
theorem dX11_feed_34 : decode cX11_feed 34 = .ok (.iload_n 3, 1) := by decide +kernel
theorem dX11_feed_35 : decode cX11_feed 35 = .ok (.invokevirtual 105, 3) := by decide +kernel
theorem dX11_feed_38 : decode cX11_feed 38 = .ok (.aload_n 0, 1) := by decide +kernel
theorem dX11_feed_39 : decode cX11_feed 39 = .ok (.getfield 10, 3) := by decide +kernel
theorem dX11_feed_42 : decode cX11_feed 42 = .ok (.iload 4, 2) := by decide +kernel
theorem dX11_feed_44 : decode cX11_feed 44 = .ok (.invokevirtual 105, 3) := by decide +kernel
theorem dX11_feed_47 : decode cX11_feed 47 = .ok (.aload_n 0, 1) := by decide +kernel
theorem dX11_feed_48 : decode cX11_feed 48 = .ok (.getfield 10, 3) := by decide +kernel
theorem dX11_feed_51 : decode cX11_feed 51 = .ok (.iload 5, 2) := by decide +kernel
theorem dX11_feed_53 : decode cX11_feed 53 = .ok (.invokevirtual 105, 3) := by decide +kernel
theorem dX11_feed_56 : decode cX11_feed 56 = .ok (.iconst 1, 1) := by decide +kernel
theorem dX11_feed_57 : decode cX11_feed 57 = .ok (.ireturn, 1) := by decide +kernel
abbrev rm_p_X11_feed : Room := { frames := 1, cells := 0, slots := 0, locals := 22 }
set_option maxHeartbeats 4000000 in
set_option maxRecDepth 100000 in
theorem p_X11_feed (l : Launch) (E : cE) (h0 : Nat) (ad : Nat → Nat) (gx : Nat → Int32) (gy : Nat → Int32) (gf : Nat → Int32) (v2 : Int32) (gt : Nat → Int32) (gh : Nat → Int32) (gc : Nat → Int32) (a : Int32) (b : Int32) (c9 : Int32) (d : Int32) (e9 : Int32) (hw1 : flo (stC 0) (2 * 4) gx gy gf) (hw3 : ∀ d, d < 2 * 4 → gt d = 0) (hw4 : ∀ d, d < 2 * 4 → gh d = nI (stC 0 d)) (hw5 : ∀ d, d < 2 * 4 → gc d = nI (stC 0 d)) : cM l E yX11_feed cX11_feed 6 (some .boolean) rm_p_X11_feed [.ref h0, .int a, .int b, .int c9, .int d, .int e9] [(h0, ob 11 [.ref (ad 0), .ref (ad 7), .ref (ad 28), .ref (ad 30), .ref (ad 76), .ref (ad 46), .ref (ad 55), .ref (ad 57), .ref (ad 59), .ref (ad 61), .ref (ad 80), .int 0, .int 0, .int 0, .int (-1), .int (-1), .int (-1)]), ((ad 0), ob 10 [.ref (ad 1), .int 0, .ref (ad 2), .ref (ad 3), .ref (ad 4), .ref (ad 5), .ref (ad 6), .int 0]), ((ad 1), aB E 4096 (fun _ => 0))] (qI E (fun (r : Int32) (_u : Unit) => r = 1) (fun _ => [])) := by
  refine cM_of (by decide) (Nat.le_of_ble_eq_true rfl) ?_
  intro p e s m below meth c ls A F hA hS hP hD hK hZ hl
  obtain ⟨hx, hb, hr, hml, hown, hts, hlk, hin⟩ := id F
  have hown : s.vm.findClass RX11 = some m.cls := hown
  have hl : lv_has ls 6 [(0, .ref h0), (1, .int a), (2, .int b), (3, .int c9), (4, .int d), (5, .int e9)] := hl
  refine lv_aload_n hx hb dX11_feed_0 rfl (lv_at hl 0 rfl) ?_
  refine va_get (D := E.1) (ci := 11) (v := .ref (ad 0)) (C := RX11) (T := TX11) (N := 17) hx hb hts iX11 hown hK hP 0 rfl rfl 0 (by decide) (hts _ wdF_RX11_10) (fun _ h9 => h9) rfl dX11_feed_1 ?_
  refine lv_bipush (v := nI 20) hx hb dX11_feed_4 (by decide) ?_
  refine cI_go (wr := [(h0, ob 11 [.ref (ad 0), .ref (ad 7), .ref (ad 28), .ref (ad 30), .ref (ad 76), .ref (ad 46), .ref (ad 55), .ref (ad 57), .ref (ad 59), .ref (ad 61), .ref (ad 80), .int 0, .int 0, .int 0, .int (-1), .int (-1), .int (-1)]), ((ad 1), aB E 4096 (fun _ => 0))]) (cM_runV (As := [.int (nI 20)]) (rest := []) F (c_X10_hasRoom l E (ad 0) (ad 1) (ad 2) (ad 3) (ad 4) (ad 5) (ad 6) 0 0 20 (by decide) (by decide)) yy_X10_hasRoom yi_X10_hasRoom wdM_RX11_101 hP hD hS hK hZ hA [1] rfl rfl 1 10 rfl rfl rfl hl.1 rfl (Nat.le_of_ble_eq_true rfl) dX11_feed_6 ⟨by decide, by decide⟩ ⟨by decide, by decide⟩) hP hD hS hA [1] [0, 2] rfl rfl rfl (by decide) (fun r_284 u_283 H locs hw_282 hP hD hS => ?_)
  try dsimp only at hw_282
  have hP : va_P E.1 vwCl [(h0, ob 11 [.ref (ad 0), .ref (ad 7), .ref (ad 28), .ref (ad 30), .ref (ad 76), .ref (ad 46), .ref (ad 55), .ref (ad 57), .ref (ad 59), .ref (ad 61), .ref (ad 80), .int 0, .int 0, .int 0, .int (-1), .int (-1), .int (-1)]), ((ad 1), aB E 4096 (fun _ => 0)), ((ad 0), ob 10 [.ref (ad 1), .int (nI 0), .ref (ad 2), .ref (ad 3), .ref (ad 4), .ref (ad 5), .ref (ad 6), .int 0])] H := hP
  have hD : va_D A [(h0, ob 11 [.ref (ad 0), .ref (ad 7), .ref (ad 28), .ref (ad 30), .ref (ad 76), .ref (ad 46), .ref (ad 55), .ref (ad 57), .ref (ad 59), .ref (ad 61), .ref (ad 80), .int 0, .int 0, .int 0, .int (-1), .int (-1), .int (-1)]), ((ad 1), aB E 4096 (fun _ => 0)), ((ad 0), ob 10 [.ref (ad 1), .int (nI 0), .ref (ad 2), .ref (ad 3), .ref (ad 4), .ref (ad 5), .ref (ad 6), .int 0])] := hD
  rw [if_neg (by decide)] at hw_282
  subst hw_282
  refine lv_if_ne (tgt := 14) hx hb dX11_feed_9 (by decide) (fun c_285 => ?_) (fun c_285 => absurd c_285 (by decide))
  refine lv_aload_n hx hb dX11_feed_14 rfl (lv_at hl 0 rfl) ?_
  refine va_get (D := E.1) (ci := 11) (v := .ref (ad 0)) (C := RX11) (T := TX11) (N := 17) hx hb hts iX11 hown hK hP 0 rfl rfl 0 (by decide) (hts _ wdF_RX11_10) (fun _ h9 => h9) rfl dX11_feed_15 ?_
  refine lv_iload_n hx hb dX11_feed_18 rfl (lv_at hl 1 rfl) ?_
  refine cV_go (wr := [(h0, ob 11 [.ref (ad 0), .ref (ad 7), .ref (ad 28), .ref (ad 30), .ref (ad 76), .ref (ad 46), .ref (ad 55), .ref (ad 57), .ref (ad 59), .ref (ad 61), .ref (ad 80), .int 0, .int 0, .int 0, .int (-1), .int (-1), .int (-1)])]) (cM_runV (As := [.int a]) (rest := []) F (c_X10_append l E (ad 0) (ad 1) (ad 2) (ad 3) (ad 4) (ad 5) (ad 6) 0 0 a (fun _ => 0) (by decide)) yy_X10_append yi_X10_append wdM_RX11_105 hP hD hS hK hZ hA [2, 1] rfl rfl 2 10 rfl rfl rfl hl.1 rfl (Nat.le_of_ble_eq_true rfl) dX11_feed_19 ⟨by decide, by decide⟩ ⟨by decide, by decide⟩) hP hD hS hA [2, 1] [0] rfl rfl rfl (by decide) (fun u_287 H locs hw_286 hP hD hS => ?_)
  try dsimp only at hw_286
  have hP : va_P E.1 vwCl [(h0, ob 11 [.ref (ad 0), .ref (ad 7), .ref (ad 28), .ref (ad 30), .ref (ad 76), .ref (ad 46), .ref (ad 55), .ref (ad 57), .ref (ad 59), .ref (ad 61), .ref (ad 80), .int 0, .int 0, .int 0, .int (-1), .int (-1), .int (-1)]), ((ad 0), ob 10 [.ref (ad 1), .int (nI (0 + 1 + 1 + 1 + 1)), .ref (ad 2), .ref (ad 3), .ref (ad 4), .ref (ad 5), .ref (ad 6), .int 0]), ((ad 1), aB E 4096 (ap4 (fun _ => 0) 0 a))] H := hP
  have hD : va_D A [(h0, ob 11 [.ref (ad 0), .ref (ad 7), .ref (ad 28), .ref (ad 30), .ref (ad 76), .ref (ad 46), .ref (ad 55), .ref (ad 57), .ref (ad 59), .ref (ad 61), .ref (ad 80), .int 0, .int 0, .int 0, .int (-1), .int (-1), .int (-1)]), ((ad 0), ob 10 [.ref (ad 1), .int (nI (0 + 1 + 1 + 1 + 1)), .ref (ad 2), .ref (ad 3), .ref (ad 4), .ref (ad 5), .ref (ad 6), .int 0]), ((ad 1), aB E 4096 (ap4 (fun _ => 0) 0 a))] := hD
  refine lv_aload_n hx hb dX11_feed_22 rfl (lv_at hl 0 rfl) ?_
  refine va_get (D := E.1) (ci := 11) (v := .ref (ad 0)) (C := RX11) (T := TX11) (N := 17) hx hb hts iX11 hown hK hP 0 rfl rfl 0 (by decide) (hts _ wdF_RX11_10) (fun _ h9 => h9) rfl dX11_feed_23 ?_
  refine lv_iload_n hx hb dX11_feed_26 rfl (lv_at hl 2 rfl) ?_
  refine cV_go (wr := [(h0, ob 11 [.ref (ad 0), .ref (ad 7), .ref (ad 28), .ref (ad 30), .ref (ad 76), .ref (ad 46), .ref (ad 55), .ref (ad 57), .ref (ad 59), .ref (ad 61), .ref (ad 80), .int 0, .int 0, .int 0, .int (-1), .int (-1), .int (-1)])]) (cM_runV (As := [.int b]) (rest := []) F (c_X10_append l E (ad 0) (ad 1) (ad 2) (ad 3) (ad 4) (ad 5) (ad 6) (0 + 1 + 1 + 1 + 1) 0 b (ap4 (fun _ => 0) 0 a) (by decide)) yy_X10_append yi_X10_append wdM_RX11_105 hP hD hS hK hZ hA [1, 2] rfl rfl 1 10 rfl rfl rfl hl.1 rfl (Nat.le_of_ble_eq_true rfl) dX11_feed_27 ⟨by decide, by decide⟩ ⟨by decide, by decide⟩) hP hD hS hA [1, 2] [0] rfl rfl rfl (by decide) (fun u_290 H locs hw_289 hP hD hS => ?_)
  try dsimp only at hw_289
  have hP : va_P E.1 vwCl [(h0, ob 11 [.ref (ad 0), .ref (ad 7), .ref (ad 28), .ref (ad 30), .ref (ad 76), .ref (ad 46), .ref (ad 55), .ref (ad 57), .ref (ad 59), .ref (ad 61), .ref (ad 80), .int 0, .int 0, .int 0, .int (-1), .int (-1), .int (-1)]), ((ad 0), ob 10 [.ref (ad 1), .int (nI ((0 + 1 + 1 + 1 + 1) + 1 + 1 + 1 + 1)), .ref (ad 2), .ref (ad 3), .ref (ad 4), .ref (ad 5), .ref (ad 6), .int 0]), ((ad 1), aB E 4096 (ap4 (ap4 (fun _ => 0) 0 a) (0 + 1 + 1 + 1 + 1) b))] H := hP
  have hD : va_D A [(h0, ob 11 [.ref (ad 0), .ref (ad 7), .ref (ad 28), .ref (ad 30), .ref (ad 76), .ref (ad 46), .ref (ad 55), .ref (ad 57), .ref (ad 59), .ref (ad 61), .ref (ad 80), .int 0, .int 0, .int 0, .int (-1), .int (-1), .int (-1)]), ((ad 0), ob 10 [.ref (ad 1), .int (nI ((0 + 1 + 1 + 1 + 1) + 1 + 1 + 1 + 1)), .ref (ad 2), .ref (ad 3), .ref (ad 4), .ref (ad 5), .ref (ad 6), .int 0]), ((ad 1), aB E 4096 (ap4 (ap4 (fun _ => 0) 0 a) (0 + 1 + 1 + 1 + 1) b))] := hD
  refine lv_aload_n hx hb dX11_feed_30 rfl (lv_at hl 0 rfl) ?_
  refine va_get (D := E.1) (ci := 11) (v := .ref (ad 0)) (C := RX11) (T := TX11) (N := 17) hx hb hts iX11 hown hK hP 0 rfl rfl 0 (by decide) (hts _ wdF_RX11_10) (fun _ h9 => h9) rfl dX11_feed_31 ?_
  refine lv_iload_n hx hb dX11_feed_34 rfl (lv_at hl 3 rfl) ?_
  refine cV_go (wr := [(h0, ob 11 [.ref (ad 0), .ref (ad 7), .ref (ad 28), .ref (ad 30), .ref (ad 76), .ref (ad 46), .ref (ad 55), .ref (ad 57), .ref (ad 59), .ref (ad 61), .ref (ad 80), .int 0, .int 0, .int 0, .int (-1), .int (-1), .int (-1)])]) (cM_runV (As := [.int c9]) (rest := []) F (c_X10_append l E (ad 0) (ad 1) (ad 2) (ad 3) (ad 4) (ad 5) (ad 6) ((0 + 1 + 1 + 1 + 1) + 1 + 1 + 1 + 1) 0 c9 (ap4 (ap4 (fun _ => 0) 0 a) (0 + 1 + 1 + 1 + 1) b) (by decide)) yy_X10_append yi_X10_append wdM_RX11_105 hP hD hS hK hZ hA [1, 2] rfl rfl 1 10 rfl rfl rfl hl.1 rfl (Nat.le_of_ble_eq_true rfl) dX11_feed_35 ⟨by decide, by decide⟩ ⟨by decide, by decide⟩) hP hD hS hA [1, 2] [0] rfl rfl rfl (by decide) (fun u_293 H locs hw_292 hP hD hS => ?_)
  try dsimp only at hw_292
  have hP : va_P E.1 vwCl [(h0, ob 11 [.ref (ad 0), .ref (ad 7), .ref (ad 28), .ref (ad 30), .ref (ad 76), .ref (ad 46), .ref (ad 55), .ref (ad 57), .ref (ad 59), .ref (ad 61), .ref (ad 80), .int 0, .int 0, .int 0, .int (-1), .int (-1), .int (-1)]), ((ad 0), ob 10 [.ref (ad 1), .int (nI (((0 + 1 + 1 + 1 + 1) + 1 + 1 + 1 + 1) + 1 + 1 + 1 + 1)), .ref (ad 2), .ref (ad 3), .ref (ad 4), .ref (ad 5), .ref (ad 6), .int 0]), ((ad 1), aB E 4096 (ap4 (ap4 (ap4 (fun _ => 0) 0 a) (0 + 1 + 1 + 1 + 1) b) ((0 + 1 + 1 + 1 + 1) + 1 + 1 + 1 + 1) c9))] H := hP
  have hD : va_D A [(h0, ob 11 [.ref (ad 0), .ref (ad 7), .ref (ad 28), .ref (ad 30), .ref (ad 76), .ref (ad 46), .ref (ad 55), .ref (ad 57), .ref (ad 59), .ref (ad 61), .ref (ad 80), .int 0, .int 0, .int 0, .int (-1), .int (-1), .int (-1)]), ((ad 0), ob 10 [.ref (ad 1), .int (nI (((0 + 1 + 1 + 1 + 1) + 1 + 1 + 1 + 1) + 1 + 1 + 1 + 1)), .ref (ad 2), .ref (ad 3), .ref (ad 4), .ref (ad 5), .ref (ad 6), .int 0]), ((ad 1), aB E 4096 (ap4 (ap4 (ap4 (fun _ => 0) 0 a) (0 + 1 + 1 + 1 + 1) b) ((0 + 1 + 1 + 1 + 1) + 1 + 1 + 1 + 1) c9))] := hD
  refine lv_aload_n hx hb dX11_feed_38 rfl (lv_at hl 0 rfl) ?_
  refine va_get (D := E.1) (ci := 11) (v := .ref (ad 0)) (C := RX11) (T := TX11) (N := 17) hx hb hts iX11 hown hK hP 0 rfl rfl 0 (by decide) (hts _ wdF_RX11_10) (fun _ h9 => h9) rfl dX11_feed_39 ?_
  refine lv_iload hx hb dX11_feed_42 (lv_at hl 4 rfl) ?_
  refine cV_go (wr := [(h0, ob 11 [.ref (ad 0), .ref (ad 7), .ref (ad 28), .ref (ad 30), .ref (ad 76), .ref (ad 46), .ref (ad 55), .ref (ad 57), .ref (ad 59), .ref (ad 61), .ref (ad 80), .int 0, .int 0, .int 0, .int (-1), .int (-1), .int (-1)])]) (cM_runV (As := [.int d]) (rest := []) F (c_X10_append l E (ad 0) (ad 1) (ad 2) (ad 3) (ad 4) (ad 5) (ad 6) (((0 + 1 + 1 + 1 + 1) + 1 + 1 + 1 + 1) + 1 + 1 + 1 + 1) 0 d (ap4 (ap4 (ap4 (fun _ => 0) 0 a) (0 + 1 + 1 + 1 + 1) b) ((0 + 1 + 1 + 1 + 1) + 1 + 1 + 1 + 1) c9) (by decide)) yy_X10_append yi_X10_append wdM_RX11_105 hP hD hS hK hZ hA [1, 2] rfl rfl 1 10 rfl rfl rfl hl.1 rfl (Nat.le_of_ble_eq_true rfl) dX11_feed_44 ⟨by decide, by decide⟩ ⟨by decide, by decide⟩) hP hD hS hA [1, 2] [0] rfl rfl rfl (by decide) (fun u_296 H locs hw_295 hP hD hS => ?_)
  try dsimp only at hw_295
  have hP : va_P E.1 vwCl [(h0, ob 11 [.ref (ad 0), .ref (ad 7), .ref (ad 28), .ref (ad 30), .ref (ad 76), .ref (ad 46), .ref (ad 55), .ref (ad 57), .ref (ad 59), .ref (ad 61), .ref (ad 80), .int 0, .int 0, .int 0, .int (-1), .int (-1), .int (-1)]), ((ad 0), ob 10 [.ref (ad 1), .int (nI ((((0 + 1 + 1 + 1 + 1) + 1 + 1 + 1 + 1) + 1 + 1 + 1 + 1) + 1 + 1 + 1 + 1)), .ref (ad 2), .ref (ad 3), .ref (ad 4), .ref (ad 5), .ref (ad 6), .int 0]), ((ad 1), aB E 4096 (ap4 (ap4 (ap4 (ap4 (fun _ => 0) 0 a) (0 + 1 + 1 + 1 + 1) b) ((0 + 1 + 1 + 1 + 1) + 1 + 1 + 1 + 1) c9) (((0 + 1 + 1 + 1 + 1) + 1 + 1 + 1 + 1) + 1 + 1 + 1 + 1) d))] H := hP
  have hD : va_D A [(h0, ob 11 [.ref (ad 0), .ref (ad 7), .ref (ad 28), .ref (ad 30), .ref (ad 76), .ref (ad 46), .ref (ad 55), .ref (ad 57), .ref (ad 59), .ref (ad 61), .ref (ad 80), .int 0, .int 0, .int 0, .int (-1), .int (-1), .int (-1)]), ((ad 0), ob 10 [.ref (ad 1), .int (nI ((((0 + 1 + 1 + 1 + 1) + 1 + 1 + 1 + 1) + 1 + 1 + 1 + 1) + 1 + 1 + 1 + 1)), .ref (ad 2), .ref (ad 3), .ref (ad 4), .ref (ad 5), .ref (ad 6), .int 0]), ((ad 1), aB E 4096 (ap4 (ap4 (ap4 (ap4 (fun _ => 0) 0 a) (0 + 1 + 1 + 1 + 1) b) ((0 + 1 + 1 + 1 + 1) + 1 + 1 + 1 + 1) c9) (((0 + 1 + 1 + 1 + 1) + 1 + 1 + 1 + 1) + 1 + 1 + 1 + 1) d))] := hD
  refine lv_aload_n hx hb dX11_feed_47 rfl (lv_at hl 0 rfl) ?_
  refine va_get (D := E.1) (ci := 11) (v := .ref (ad 0)) (C := RX11) (T := TX11) (N := 17) hx hb hts iX11 hown hK hP 0 rfl rfl 0 (by decide) (hts _ wdF_RX11_10) (fun _ h9 => h9) rfl dX11_feed_48 ?_
  refine lv_iload hx hb dX11_feed_51 (lv_at hl 5 rfl) ?_
  refine cV_go (wr := [(h0, ob 11 [.ref (ad 0), .ref (ad 7), .ref (ad 28), .ref (ad 30), .ref (ad 76), .ref (ad 46), .ref (ad 55), .ref (ad 57), .ref (ad 59), .ref (ad 61), .ref (ad 80), .int 0, .int 0, .int 0, .int (-1), .int (-1), .int (-1)])]) (cM_runV (As := [.int e9]) (rest := []) F (c_X10_append l E (ad 0) (ad 1) (ad 2) (ad 3) (ad 4) (ad 5) (ad 6) ((((0 + 1 + 1 + 1 + 1) + 1 + 1 + 1 + 1) + 1 + 1 + 1 + 1) + 1 + 1 + 1 + 1) 0 e9 (ap4 (ap4 (ap4 (ap4 (fun _ => 0) 0 a) (0 + 1 + 1 + 1 + 1) b) ((0 + 1 + 1 + 1 + 1) + 1 + 1 + 1 + 1) c9) (((0 + 1 + 1 + 1 + 1) + 1 + 1 + 1 + 1) + 1 + 1 + 1 + 1) d) (by decide)) yy_X10_append yi_X10_append wdM_RX11_105 hP hD hS hK hZ hA [1, 2] rfl rfl 1 10 rfl rfl rfl hl.1 rfl (Nat.le_of_ble_eq_true rfl) dX11_feed_53 ⟨by decide, by decide⟩ ⟨by decide, by decide⟩) hP hD hS hA [1, 2] [0] rfl rfl rfl (by decide) (fun u_299 H locs hw_298 hP hD hS => ?_)
  try dsimp only at hw_298
  have hP : va_P E.1 vwCl [(h0, ob 11 [.ref (ad 0), .ref (ad 7), .ref (ad 28), .ref (ad 30), .ref (ad 76), .ref (ad 46), .ref (ad 55), .ref (ad 57), .ref (ad 59), .ref (ad 61), .ref (ad 80), .int 0, .int 0, .int 0, .int (-1), .int (-1), .int (-1)]), ((ad 0), ob 10 [.ref (ad 1), .int (nI (((((0 + 1 + 1 + 1 + 1) + 1 + 1 + 1 + 1) + 1 + 1 + 1 + 1) + 1 + 1 + 1 + 1) + 1 + 1 + 1 + 1)), .ref (ad 2), .ref (ad 3), .ref (ad 4), .ref (ad 5), .ref (ad 6), .int 0]), ((ad 1), aB E 4096 (ap4 (ap4 (ap4 (ap4 (ap4 (fun _ => 0) 0 a) (0 + 1 + 1 + 1 + 1) b) ((0 + 1 + 1 + 1 + 1) + 1 + 1 + 1 + 1) c9) (((0 + 1 + 1 + 1 + 1) + 1 + 1 + 1 + 1) + 1 + 1 + 1 + 1) d) ((((0 + 1 + 1 + 1 + 1) + 1 + 1 + 1 + 1) + 1 + 1 + 1 + 1) + 1 + 1 + 1 + 1) e9))] H := hP
  have hD : va_D A [(h0, ob 11 [.ref (ad 0), .ref (ad 7), .ref (ad 28), .ref (ad 30), .ref (ad 76), .ref (ad 46), .ref (ad 55), .ref (ad 57), .ref (ad 59), .ref (ad 61), .ref (ad 80), .int 0, .int 0, .int 0, .int (-1), .int (-1), .int (-1)]), ((ad 0), ob 10 [.ref (ad 1), .int (nI (((((0 + 1 + 1 + 1 + 1) + 1 + 1 + 1 + 1) + 1 + 1 + 1 + 1) + 1 + 1 + 1 + 1) + 1 + 1 + 1 + 1)), .ref (ad 2), .ref (ad 3), .ref (ad 4), .ref (ad 5), .ref (ad 6), .int 0]), ((ad 1), aB E 4096 (ap4 (ap4 (ap4 (ap4 (ap4 (fun _ => 0) 0 a) (0 + 1 + 1 + 1 + 1) b) ((0 + 1 + 1 + 1 + 1) + 1 + 1 + 1 + 1) c9) (((0 + 1 + 1 + 1 + 1) + 1 + 1 + 1 + 1) + 1 + 1 + 1 + 1) d) ((((0 + 1 + 1 + 1 + 1) + 1 + 1 + 1 + 1) + 1 + 1 + 1 + 1) + 1 + 1 + 1 + 1) e9))] := hD
  refine lv_iconst (v := nI 1) hx hb dX11_feed_56 (by decide) ?_
  exact cB_ret F hP hD hS hK (by decide) () rfl [] rfl rfl dX11_feed_57 (by decide) (by decide)
theorem yy_X11_feed : cY yX11_feed cX11_feed 6 (some .boolean) 5 := ⟨wdK_X11_feed, wdZ_RX11, by decide +kernel⟩
theorem yi_X11_feed : cYi yX11_feed := ⟨wdN_X11_feed, wdS_X11_feed⟩
theorem dX11_end_0 : decode cX11_end 0 = .ok (.aload_n 0, 1) := by decide +kernel
theorem dX11_end_1 : decode cX11_end 1 = .ok (.getfield 10, 3) := by decide +kernel
theorem dX11_end_4 : decode cX11_end 4 = .ok (.iload_n 1, 1) := by decide +kernel
theorem dX11_end_5 : decode cX11_end 5 = .ok (.invokevirtual 109, 3) := by decide +kernel
theorem dX11_end_8 : decode cX11_end 8 = .ok (.ireturn, 1) := by decide +kernel
abbrev rm_p_X11_end : Room := { frames := 1, cells := 0, slots := 0, locals := 21 }
set_option maxHeartbeats 4000000 in
set_option maxRecDepth 100000 in
theorem p_X11_end (l : Launch) (E : cE) (h0 : Nat) (ad : Nat → Nat) (gx : Nat → Int32) (gy : Nat → Int32) (gf : Nat → Int32) (v2 : Int32) (gt : Nat → Int32) (gh : Nat → Int32) (gc : Nat → Int32) (v : Int32) (hw1 : flo (stC 0) (2 * 4) gx gy gf) (hw3 : ∀ d, d < 2 * 4 → gt d = 0) (hw4 : ∀ d, d < 2 * 4 → gh d = nI (stC 0 d)) (hw5 : ∀ d, d < 2 * 4 → gc d = nI (stC 0 d)) : cM l E yX11_end cX11_end 2 (some .boolean) rm_p_X11_end [.ref h0, .int v] [(h0, ob 11 [.ref (ad 0), .ref (ad 7), .ref (ad 28), .ref (ad 30), .ref (ad 76), .ref (ad 46), .ref (ad 55), .ref (ad 57), .ref (ad 59), .ref (ad 61), .ref (ad 80), .int 0, .int 0, .int 0, .int (-1), .int (-1), .int (-1)]), ((ad 0), ob 10 [.ref (ad 1), .int 0, .ref (ad 2), .ref (ad 3), .ref (ad 4), .ref (ad 5), .ref (ad 6), .int 0])] (qI E (fun (r : Int32) (_u : Unit) => r = if v = 0 then 1 else 0) (fun _ => [])) := by
  refine cM_of (by decide) (Nat.le_of_ble_eq_true rfl) ?_
  intro p e s m below meth c ls A F hA hS hP hD hK hZ hl
  obtain ⟨hx, hb, hr, hml, hown, hts, hlk, hin⟩ := id F
  have hown : s.vm.findClass RX11 = some m.cls := hown
  have hl : lv_has ls 2 [(0, .ref h0), (1, .int v)] := hl
  refine lv_aload_n hx hb dX11_end_0 rfl (lv_at hl 0 rfl) ?_
  refine va_get (D := E.1) (ci := 11) (v := .ref (ad 0)) (C := RX11) (T := TX11) (N := 17) hx hb hts iX11 hown hK hP 0 rfl rfl 0 (by decide) (hts _ wdF_RX11_10) (fun _ h9 => h9) rfl dX11_end_1 ?_
  refine lv_iload_n hx hb dX11_end_4 rfl (lv_at hl 1 rfl) ?_
  refine cI_go (wr := [(h0, ob 11 [.ref (ad 0), .ref (ad 7), .ref (ad 28), .ref (ad 30), .ref (ad 76), .ref (ad 46), .ref (ad 55), .ref (ad 57), .ref (ad 59), .ref (ad 61), .ref (ad 80), .int 0, .int 0, .int 0, .int (-1), .int (-1), .int (-1)])]) (cM_runV (As := [.int v]) (rest := []) F (c_X10_cut l E (ad 0) (ad 1) (ad 2) (ad 3) (ad 4) (ad 5) (ad 6) 0 0 v) yy_X10_cut yi_X10_cut wdM_RX11_109 hP hD hS hK hZ hA [1] rfl rfl 1 10 rfl rfl rfl hl.1 rfl (Nat.le_of_ble_eq_true rfl) dX11_end_5 ⟨by decide, by decide⟩ ⟨by decide, by decide⟩) hP hD hS hA [1] [0] rfl rfl rfl (by decide) (fun r_303 u_302 H locs hw_301 hP hD hS => ?_)
  obtain ⟨b2_304, rfl⟩ : ∃ z, z = u_302 := ⟨_, rfl⟩
  try dsimp only at hw_301
  have hP : va_P E.1 vwCl [(h0, ob 11 [.ref (ad 0), .ref (ad 7), .ref (ad 28), .ref (ad 30), .ref (ad 76), .ref (ad 46), .ref (ad 55), .ref (ad 57), .ref (ad 59), .ref (ad 61), .ref (ad 80), .int 0, .int 0, .int 0, .int (-1), .int (-1), .int (-1)]), ((ad 0), ob 10 [.ref (ad 1), .int b2_304, .ref (ad 2), .ref (ad 3), .ref (ad 4), .ref (ad 5), .ref (ad 6), .int 0])] H := hP
  have hD : va_D A [(h0, ob 11 [.ref (ad 0), .ref (ad 7), .ref (ad 28), .ref (ad 30), .ref (ad 76), .ref (ad 46), .ref (ad 55), .ref (ad 57), .ref (ad 59), .ref (ad 61), .ref (ad 80), .int 0, .int 0, .int 0, .int (-1), .int (-1), .int (-1)]), ((ad 0), ob 10 [.ref (ad 1), .int b2_304, .ref (ad 2), .ref (ad 3), .ref (ad 4), .ref (ad 5), .ref (ad 6), .int 0])] := hD
  have hq : (v < 0 ∨ nI 0 < v) ↔ ¬ v = 0 := ⟨fun h e => by subst e; rcases h with h | h <;> exact absurd h (by decide), fun h => (pk_ix v (show 1 < 2 ^ 31 by decide)).elim Or.inl (fun q => q.elim (fun q => Or.inr (Int32.lt_of_lt_of_le (by decide) q)) (fun ⟨j, h1, h2⟩ => absurd (by rw [h2, show j = 0 by omega]; rfl) h))⟩
  rcases hw_301 with ⟨hq1, hq2, _⟩ | ⟨hq1, hq2, _⟩
  · subst hq2
    exact cB_ret F hP hD hS hK (by decide) () (if_neg (hq.mp hq1)).symm [] rfl rfl dX11_end_8 (by decide) (by decide)
  · subst hq2
    exact cB_ret F hP hD hS hK (by decide) () (if_pos (Decidable.byContradiction (fun h => hq1 (hq.mpr h)))).symm [] rfl rfl dX11_end_8 (by decide) (by decide)
theorem yy_X11_end : cY yX11_end cX11_end 2 (some .boolean) 1 := ⟨wdK_X11_end, wdZ_RX11, by decide +kernel⟩
theorem yi_X11_end : cYi yX11_end := ⟨wdN_X11_end, wdS_X11_end⟩
theorem dX11_begin_0 : decode cX11_begin 0 = .ok (.iload_n 1, 1) := by decide +kernel
theorem dX11_begin_1 : decode cX11_begin 1 = .ok (.ifCond .lt 17, 3) := by decide +kernel
theorem dX11_begin_4 : decode cX11_begin 4 = .ok (.iload_n 1, 1) := by decide +kernel
theorem dX11_begin_5 : decode cX11_begin 5 = .ok (.aload_n 0, 1) := by decide +kernel
theorem dX11_begin_6 : decode cX11_begin 6 = .ok (.getfield 19, 3) := by decide +kernel
theorem dX11_begin_9 : decode cX11_begin 9 = .ok (.getfield 164, 3) := by decide +kernel
theorem dX11_begin_12 : decode cX11_begin 12 = .ok (.getfield 168, 3) := by decide +kernel
theorem dX11_begin_15 : decode cX11_begin 15 = .ok (.if_icmp .lt 5, 3) := by decide +kernel
theorem dX11_begin_18 : decode cX11_begin 18 = .ok (.iconst 0, 1) := by decide +kernel
theorem dX11_begin_19 : decode cX11_begin 19 = .ok (.ireturn, 1) := by decide +kernel
theorem dX11_begin_20 : decode cX11_begin 20 = .ok (.aload_n 0, 1) := by decide +kernel
theorem dX11_begin_21 : decode cX11_begin 21 = .ok (.getfield 56, 3) := by decide +kernel
theorem dX11_begin_24 : decode cX11_begin 24 = .ok (.iload_n 1, 1) := by decide +kernel
theorem dX11_begin_25 : decode cX11_begin 25 = .ok (.aload_n 0, 1) := by decide +kernel
theorem dX11_begin_26 : decode cX11_begin 26 = .ok (.getfield 44, 3) := by decide +kernel
theorem dX11_begin_29 : decode cX11_begin 29 = .ok (.invokevirtual 173, 3) := by decide +kernel
theorem dX11_begin_32 : decode cX11_begin 32 = .ok (.invokevirtual 177, 3) := by decide +kernel
theorem dX11_begin_35 : decode cX11_begin 35 = .ok (.iconst 1, 1) := by decide +kernel
theorem dX11_begin_36 : decode cX11_begin 36 = .ok (.ireturn, 1) := by decide +kernel
abbrev rm_p_X11_begin : Room := { frames := 0, cells := 0, slots := 0, locals := 0 }
set_option maxHeartbeats 4000000 in
set_option maxRecDepth 100000 in
theorem p_X11_begin (l : Launch) (E : cE) (h0 : Nat) (ad : Nat → Nat) (gx : Nat → Int32) (gy : Nat → Int32) (gf : Nat → Int32) (v2 : Int32) (gt : Nat → Int32) (gh : Nat → Int32) (gc : Nat → Int32) (v : Int32) (hw1 : flo (stC 0) (2 * 4) gx gy gf) (hw3 : ∀ d, d < 2 * 4 → gt d = 0) (hw4 : ∀ d, d < 2 * 4 → gh d = nI (stC 0 d)) (hw5 : ∀ d, d < 2 * 4 → gc d = nI (stC 0 d)) : cM l E yX11_begin cX11_begin 2 (some .boolean) rm_p_X11_begin [.ref h0, .int v] [(h0, ob 11 [.ref (ad 0), .ref (ad 7), .ref (ad 28), .ref (ad 30), .ref (ad 76), .ref (ad 46), .ref (ad 55), .ref (ad 57), .ref (ad 59), .ref (ad 61), .ref (ad 80), .int 0, .int 0, .int 0, .int (-1), .int (-1), .int (-1)]), ((ad 7), ob 0 [.ref (ad 8), .ref (ad 10), .ref (ad 12), .ref (ad 14), .ref (ad 15), .ref (ad 16), .ref (ad 17), .ref (ad 18), .ref (ad 19), .ref (ad 20), .ref (ad 21), .ref (ad 22), .ref (ad 23), .ref (ad 24), .ref (ad 25), .ref (ad 26), .int 0, .ref (ad 27), .int 0, .int 0]), ((ad 12), ob 6 [.ref (ad 13), .int (nI 60), .int 0])] (qI E (fun (r : Int32) (_u : Unit) => r = 0) (fun _ => [])) := by
  refine cM_of (by decide) (Nat.le_of_ble_eq_true rfl) ?_
  intro p e s m below meth c ls A F hA hS hP hD hK hZ hl
  obtain ⟨hx, hb, hr, hml, hown, hts, hlk, hin⟩ := id F
  have hown : s.vm.findClass RX11 = some m.cls := hown
  have hl : lv_has ls 2 [(0, .ref h0), (1, .int v)] := hl
  refine lv_iload_n hx hb dX11_begin_0 rfl (lv_at hl 1 rfl) ?_
  refine lv_if_lt (tgt := 18) hx hb dX11_begin_1 (by decide) (fun c1 => ?_) (fun c1 => ?_)
  · refine lv_iconst (v := nI 0) hx hb dX11_begin_18 (by decide) ?_
    exact cB_ret F hP hD hS hK (by decide) () rfl [] rfl rfl dX11_begin_19 (by decide) (by decide)
  · refine lv_iload_n hx hb dX11_begin_4 rfl (lv_at hl 1 rfl) ?_
    refine lv_aload_n hx hb dX11_begin_5 rfl (lv_at hl 0 rfl) ?_
    refine va_get (D := E.1) (ci := 11) (v := .ref (ad 7)) (C := RX11) (T := TX11) (N := 17) hx hb hts iX11 hown hK hP 0 rfl rfl 1 (by decide) (hts _ wdF_RX11_19) (fun _ h9 => h9) rfl dX11_begin_6 ?_
    refine va_get (D := E.1) (ci := 0) (v := .ref (ad 12)) (C := RX0) (T := TX0) (N := 20) hx hb hts iX0 hown hK hP 1 rfl rfl 2 (by decide) (hts _ wdF_RX11_164) (fun _ h9 => h9) rfl dX11_begin_9 ?_
    refine va_get (D := E.1) (ci := 6) (v := .int 0) (C := RX6) (T := TX6) (N := 3) hx hb hts iX6 hown hK hP 2 rfl rfl 2 (by decide) (hts _ wdF_RX11_168) (fun _ h9 => h9) rfl dX11_begin_12 ?_
    refine lv_icmp_lt (tgt := 20) hx hb dX11_begin_15 (by decide) (fun c_305 => absurd c_305 c1) (fun c_305 => ?_)
    refine lv_iconst (v := nI 0) hx hb dX11_begin_18 (by decide) ?_
    exact cB_ret F hP hD hS hK (by decide) () rfl [] rfl rfl dX11_begin_19 (by decide) (by decide)
theorem yy_X11_begin : cY yX11_begin cX11_begin 2 (some .boolean) 1 := ⟨wdK_X11_begin, wdZ_RX11, by decide +kernel⟩
theorem yi_X11_begin : cYi yX11_begin := ⟨wdN_X11_begin, wdS_X11_begin⟩
theorem dX11_step_0 : decode cX11_step 0 = .ok (.aload_n 0, 1) := by decide +kernel
theorem dX11_step_1 : decode cX11_step 1 = .ok (.getfield 56, 3) := by decide +kernel
theorem dX11_step_4 : decode cX11_step 4 = .ok (.getfield 151, 3) := by decide +kernel
theorem dX11_step_7 : decode cX11_step 7 = .ok (.ifCond .ne 5, 3) := by decide +kernel
theorem dX11_step_10 : decode cX11_step 10 = .ok (.iconst (-1), 1) := by decide +kernel
theorem dX11_step_11 : decode cX11_step 11 = .ok (.ireturn, 1) := by decide +kernel
theorem dX11_step_12 : decode cX11_step 12 = .ok (.aload_n 0, 1) := by decide +kernel
theorem dX11_step_13 : decode cX11_step 13 = .ok (.getfield 66, 3) := by decide +kernel
theorem dX11_step_16 : decode cX11_step 16 = .ok (.aload_n 0, 1) := by decide +kernel
theorem dX11_step_17 : decode cX11_step 17 = .ok (.getfield 44, 3) := by decide +kernel
theorem dX11_step_20 : decode cX11_step 20 = .ok (.aload_n 0, 1) := by decide +kernel
theorem dX11_step_21 : decode cX11_step 21 = .ok (.getfield 56, 3) := by decide +kernel
theorem dX11_step_24 : decode cX11_step 24 = .ok (.aload_n 0, 1) := by decide +kernel
theorem dX11_step_25 : decode cX11_step 25 = .ok (.getfield 158, 3) := by decide +kernel
theorem dX11_step_28 : decode cX11_step 28 = .ok (.aload_n 0, 1) := by decide +kernel
theorem dX11_step_29 : decode cX11_step 29 = .ok (.getfield 161, 3) := by decide +kernel
theorem dX11_step_32 : decode cX11_step 32 = .ok (.invokevirtual 181, 3) := by decide +kernel
theorem dX11_step_35 : decode cX11_step 35 = .ok (.aload_n 0, 1) := by decide +kernel
theorem dX11_step_36 : decode cX11_step 36 = .ok (.getfield 56, 3) := by decide +kernel
theorem dX11_step_39 : decode cX11_step 39 = .ok (.aload_n 0, 1) := by decide +kernel
theorem dX11_step_40 : decode cX11_step 40 = .ok (.getfield 44, 3) := by decide +kernel
theorem dX11_step_43 : decode cX11_step 43 = .ok (.invokevirtual 185, 3) := by decide +kernel
theorem dX11_step_46 : decode cX11_step 46 = .ok (.istore_n 1, 1) := by decide +kernel
theorem dX11_step_47 : decode cX11_step 47 = .ok (.iload_n 1, 1) := by decide +kernel
theorem dX11_step_48 : decode cX11_step 48 = .ok (.iconst 1, 1) := by decide +kernel
theorem dX11_step_49 : decode cX11_step 49 = .ok (.if_icmp .ne 9, 3) := by decide +kernel
theorem dX11_step_52 : decode cX11_step 52 = .ok (.aload_n 0, 1) := by decide +kernel
theorem dX11_step_53 : decode cX11_step 53 = .ok (.invokevirtual 189, 3) := by decide +kernel
theorem dX11_step_56 : decode cX11_step 56 = .ok (.iload_n 1, 1) := by decide +kernel
theorem dX11_step_57 : decode cX11_step 57 = .ok (.ireturn, 1) := by decide +kernel
theorem dX11_step_58 : decode cX11_step 58 = .ok (.aload_n 0, 1) := by decide +kernel
theorem dX11_step_59 : decode cX11_step 59 = .ok (.getfield 56, 3) := by decide +kernel
theorem dX11_step_62 : decode cX11_step 62 = .ok (.iconst 0, 1) := by decide +kernel
theorem dX11_step_63 : decode cX11_step 63 = .ok (.putfield 151, 3) := by decide +kernel
theorem dX11_step_66 : decode cX11_step 66 = .ok (.iload_n 1, 1) := by decide +kernel
theorem dX11_step_67 : decode cX11_step 67 = .ok (.iconst 2, 1) := by decide +kernel
theorem dX11_step_68 : decode cX11_step 68 = .ok (.if_icmp .ne 7, 3) := by decide +kernel
theorem dX11_step_71 : decode cX11_step 71 = .ok (.aload_n 0, 1) := by decide +kernel
theorem dX11_step_72 : decode cX11_step 72 = .ok (.invokevirtual 192, 3) := by decide +kernel
theorem dX11_step_75 : decode cX11_step 75 = .ok (.iload_n 1, 1) := by decide +kernel
theorem dX11_step_76 : decode cX11_step 76 = .ok (.ireturn, 1) := by decide +kernel
abbrev rm_p_X11_step : Room := { frames := 0, cells := 0, slots := 0, locals := 0 }
set_option maxHeartbeats 4000000 in
set_option maxRecDepth 100000 in
theorem p_X11_step (l : Launch) (E : cE) (h0 : Nat) (ad : Nat → Nat) (gx : Nat → Int32) (gy : Nat → Int32) (gf : Nat → Int32) (v2 : Int32) (gt : Nat → Int32) (gh : Nat → Int32) (gc : Nat → Int32) (hw1 : flo (stC 0) (2 * 4) gx gy gf) (hw3 : ∀ d, d < 2 * 4 → gt d = 0) (hw4 : ∀ d, d < 2 * 4 → gh d = nI (stC 0 d)) (hw5 : ∀ d, d < 2 * 4 → gc d = nI (stC 0 d)) : cM l E yX11_step cX11_step 2 (some .int) rm_p_X11_step [.ref h0] [(h0, ob 11 [.ref (ad 0), .ref (ad 7), .ref (ad 28), .ref (ad 30), .ref (ad 76), .ref (ad 46), .ref (ad 55), .ref (ad 57), .ref (ad 59), .ref (ad 61), .ref (ad 80), .int 0, .int 0, .int 0, .int (-1), .int (-1), .int (-1)]), ((ad 55), ob 8 [.ref (ad 7), .ref (ad 30), .int 0, .int 0, .long 0, .ref (ad 56), .int 0, .int 0, .int 0, .int 0, .int 0])] (qI E (fun (r : Int32) (_u : Unit) => r = -1) (fun _ => [])) := by
  refine cM_of (by decide) (Nat.le_of_ble_eq_true rfl) ?_
  intro p e s m below meth c ls A F hA hS hP hD hK hZ hl
  obtain ⟨hx, hb, hr, hml, hown, hts, hlk, hin⟩ := id F
  have hown : s.vm.findClass RX11 = some m.cls := hown
  have hl : lv_has ls 2 [(0, .ref h0)] := hl
  refine lv_aload_n hx hb dX11_step_0 rfl (lv_at hl 0 rfl) ?_
  refine va_get (D := E.1) (ci := 11) (v := .ref (ad 55)) (C := RX11) (T := TX11) (N := 17) hx hb hts iX11 hown hK hP 0 rfl rfl 6 (by decide) (hts _ wdF_RX11_56) (fun _ h9 => h9) rfl dX11_step_1 ?_
  refine va_get (D := E.1) (ci := 8) (v := .int 0) (C := RX8) (T := TX8) (N := 11) hx hb hts iX8 hown hK hP 1 rfl rfl 2 (by decide) (hts _ wdF_RX11_151) (fun _ h9 => h9) rfl dX11_step_4 ?_
  refine lv_if_ne (tgt := 12) hx hb dX11_step_7 (by decide) (fun c_306 => absurd (by decide) c_306) (fun c_306 => ?_)
  refine lv_iconst (v := (-1)) hx hb dX11_step_10 (by decide) ?_
  exact cI_ret F hP hD hS hK () rfl [] rfl rfl dX11_step_11 (by decide) (by decide)
theorem yy_X11_step : cY yX11_step cX11_step 2 (some .int) 0 := ⟨wdK_X11_step, wdZ_RX11, by decide +kernel⟩
theorem yi_X11_step : cYi yX11_step := ⟨wdN_X11_step, wdS_X11_step⟩
theorem dX11_may_0 : decode cX11_may 0 = .ok (.iload_n 1, 1) := by decide +kernel
theorem dX11_may_1 : decode cX11_may 1 = .ok (.ifCond .lt 14, 3) := by decide +kernel
theorem dX11_may_4 : decode cX11_may 4 = .ok (.iload_n 1, 1) := by decide +kernel
theorem dX11_may_5 : decode cX11_may 5 = .ok (.aload_n 0, 1) := by decide +kernel
theorem dX11_may_6 : decode cX11_may 6 = .ok (.getfield 19, 3) := by decide +kernel
theorem dX11_may_9 : decode cX11_may 9 = .ok (.getfield 211, 3) := by decide +kernel
theorem dX11_may_12 : decode cX11_may 12 = .ok (.if_icmp .lt 5, 3) := by decide +kernel
theorem dX11_may_15 : decode cX11_may 15 = .ok (.iconst (-1), 1) := by decide +kernel
theorem dX11_may_16 : decode cX11_may 16 = .ok (.ireturn, 1) := by decide +kernel
theorem dX11_may_17 : decode cX11_may 17 = .ok (.aload_n 0, 1) := by decide +kernel
theorem dX11_may_18 : decode cX11_may 18 = .ok (.getfield 37, 3) := by decide +kernel
theorem dX11_may_21 : decode cX11_may 21 = .ok (.aload_n 0, 1) := by decide +kernel
theorem dX11_may_22 : decode cX11_may 22 = .ok (.getfield 19, 3) := by decide +kernel
theorem dX11_may_25 : decode cX11_may 25 = .ok (.getfield 214, 3) := by decide +kernel
theorem dX11_may_28 : decode cX11_may 28 = .ok (.iload_n 1, 1) := by decide +kernel
theorem dX11_may_29 : decode cX11_may 29 = .ok (.iaload, 1) := by decide +kernel
theorem dX11_may_30 : decode cX11_may 30 = .ok (.aload_n 0, 1) := by decide +kernel
theorem dX11_may_31 : decode cX11_may 31 = .ok (.getfield 44, 3) := by decide +kernel
theorem dX11_may_34 : decode cX11_may 34 = .ok (.aload_n 0, 1) := by decide +kernel
theorem dX11_may_35 : decode cX11_may 35 = .ok (.getfield 44, 3) := by decide +kernel
theorem dX11_may_38 : decode cX11_may 38 = .ok (.invokevirtual 173, 3) := by decide +kernel
theorem dX11_may_41 : decode cX11_may 41 = .ok (.invokevirtual 217, 3) := by decide +kernel
theorem dX11_may_44 : decode cX11_may 44 = .ok (.istore_n 2, 1) := by decide +kernel
theorem dX11_may_45 : decode cX11_may 45 = .ok (.iload_n 2, 1) := by decide +kernel
theorem dX11_may_46 : decode cX11_may 46 = .ok (.ifCond .eq 7, 3) := by decide +kernel
theorem dX11_may_49 : decode cX11_may 49 = .ok (.aload_n 0, 1) := by decide +kernel
theorem dX11_may_50 : decode cX11_may 50 = .ok (.invokevirtual 192, 3) := by decide +kernel
theorem dX11_may_53 : decode cX11_may 53 = .ok (.iload_n 2, 1) := by decide +kernel
theorem dX11_may_54 : decode cX11_may 54 = .ok (.ireturn, 1) := by decide +kernel
abbrev rm_p_X11_may : Room := { frames := 0, cells := 0, slots := 0, locals := 0 }
set_option maxHeartbeats 4000000 in
set_option maxRecDepth 100000 in
theorem p_X11_may (l : Launch) (E : cE) (h0 : Nat) (ad : Nat → Nat) (gx : Nat → Int32) (gy : Nat → Int32) (gf : Nat → Int32) (v2 : Int32) (gt : Nat → Int32) (gh : Nat → Int32) (gc : Nat → Int32) (v : Int32) (hw1 : flo (stC 0) (2 * 4) gx gy gf) (hw3 : ∀ d, d < 2 * 4 → gt d = 0) (hw4 : ∀ d, d < 2 * 4 → gh d = nI (stC 0 d)) (hw5 : ∀ d, d < 2 * 4 → gc d = nI (stC 0 d)) : cM l E yX11_may cX11_may 3 (some .int) rm_p_X11_may [.ref h0, .int v] [(h0, ob 11 [.ref (ad 0), .ref (ad 7), .ref (ad 28), .ref (ad 30), .ref (ad 76), .ref (ad 46), .ref (ad 55), .ref (ad 57), .ref (ad 59), .ref (ad 61), .ref (ad 80), .int 0, .int 0, .int 0, .int (-1), .int (-1), .int (-1)]), ((ad 7), ob 0 [.ref (ad 8), .ref (ad 10), .ref (ad 12), .ref (ad 14), .ref (ad 15), .ref (ad 16), .ref (ad 17), .ref (ad 18), .ref (ad 19), .ref (ad 20), .ref (ad 21), .ref (ad 22), .ref (ad 23), .ref (ad 24), .ref (ad 25), .ref (ad 26), .int 0, .ref (ad 27), .int 0, .int 0])] (qI E (fun (r : Int32) (_u : Unit) => r = -1) (fun _ => [])) := by
  refine cM_of (by decide) (Nat.le_of_ble_eq_true rfl) ?_
  intro p e s m below meth c ls A F hA hS hP hD hK hZ hl
  obtain ⟨hx, hb, hr, hml, hown, hts, hlk, hin⟩ := id F
  have hown : s.vm.findClass RX11 = some m.cls := hown
  have hl : lv_has ls 3 [(0, .ref h0), (1, .int v)] := hl
  refine lv_iload_n hx hb dX11_may_0 rfl (lv_at hl 1 rfl) ?_
  refine lv_if_lt (tgt := 15) hx hb dX11_may_1 (by decide) (fun c1 => ?_) (fun c1 => ?_)
  · refine lv_iconst (v := (-1)) hx hb dX11_may_15 (by decide) ?_
    exact cI_ret F hP hD hS hK () rfl [] rfl rfl dX11_may_16 (by decide) (by decide)
  · refine lv_iload_n hx hb dX11_may_4 rfl (lv_at hl 1 rfl) ?_
    refine lv_aload_n hx hb dX11_may_5 rfl (lv_at hl 0 rfl) ?_
    refine va_get (D := E.1) (ci := 11) (v := .ref (ad 7)) (C := RX11) (T := TX11) (N := 17) hx hb hts iX11 hown hK hP 0 rfl rfl 1 (by decide) (hts _ wdF_RX11_19) (fun _ h9 => h9) rfl dX11_may_6 ?_
    refine va_get (D := E.1) (ci := 0) (v := .int 0) (C := RX0) (T := TX0) (N := 20) hx hb hts iX0 hown hK hP 1 rfl rfl 16 (by decide) (hts _ wdF_RX11_211) (fun _ h9 => h9) rfl dX11_may_9 ?_
    refine lv_icmp_lt (tgt := 17) hx hb dX11_may_12 (by decide) (fun c_307 => absurd c_307 c1) (fun c_307 => ?_)
    refine lv_iconst (v := (-1)) hx hb dX11_may_15 (by decide) ?_
    exact cI_ret F hP hD hS hK () rfl [] rfl rfl dX11_may_16 (by decide) (by decide)
theorem yy_X11_may : cY yX11_may cX11_may 3 (some .int) 1 := ⟨wdK_X11_may, wdZ_RX11, by decide +kernel⟩
theorem yi_X11_may : cYi yX11_may := ⟨wdN_X11_may, wdS_X11_may⟩
theorem dX9_countRows_0 : decode cX9_countRows 0 = .ok (.aload_n 0, 1) := by decide +kernel
theorem dX9_countRows_1 : decode cX9_countRows 1 = .ok (.getfield 39, 3) := by decide +kernel
theorem dX9_countRows_4 : decode cX9_countRows 4 = .ok (.ifCond .ge 7, 3) := by decide +kernel
theorem dX9_countRows_7 : decode cX9_countRows 7 = .ok (.lconst 0, 1) := by decide +kernel
theorem dX9_countRows_8 : decode cX9_countRows 8 = .ok (.goto 9, 3) := by decide +kernel
theorem dX9_countRows_11 : decode cX9_countRows 11 = .ok (.aload_n 0, 1) := by decide +kernel
theorem dX9_countRows_12 : decode cX9_countRows 12 = .ok (.getfield 27, 3) := by decide +kernel
theorem dX9_countRows_15 : decode cX9_countRows 15 = .ok (.iconst 0, 1) := by decide +kernel
theorem dX9_countRows_16 : decode cX9_countRows 16 = .ok (.laload, 1) := by decide +kernel
theorem dX9_countRows_17 : decode cX9_countRows 17 = .ok (.lreturn, 1) := by decide +kernel
abbrev rm_p_X9_countRows : Room := { frames := 0, cells := 0, slots := 0, locals := 0 }
set_option maxHeartbeats 4000000 in
set_option maxRecDepth 100000 in
theorem p_X9_countRows (l : Launch) (E : cE) (h0 : Nat) (ad : Nat → Nat) (gx : Nat → Int32) (gy : Nat → Int32) (gf : Nat → Int32) (v2 : Int32) (gt : Nat → Int32) (gh : Nat → Int32) (gc : Nat → Int32) : cM l E yX9_countRows cX9_countRows 1 (some .long) rm_p_X9_countRows [.ref (ad 61)] [((ad 61), ob 9 [.ref (ad 7), .ref (ad 30), .ref (ad 46), .ref (ad 62), .ref (ad 63), .ref (ad 64), .ref (ad 65), .ref (ad 66), .ref (ad 67), .ref (ad 68), .ref (ad 69), .int 0, .int 0, .int 0, .int (-1), .ref (ad 70), .int 0, .int 0])] (qL E (fun (r : Int64) (_u : Unit) => r = 0) (fun _ => [((ad 61), ob 9 [.ref (ad 7), .ref (ad 30), .ref (ad 46), .ref (ad 62), .ref (ad 63), .ref (ad 64), .ref (ad 65), .ref (ad 66), .ref (ad 67), .ref (ad 68), .ref (ad 69), .int 0, .int 0, .int 0, .int (-1), .ref (ad 70), .int 0, .int 0])])) := by
  refine cM_of (by decide) (Nat.le_of_ble_eq_true rfl) ?_
  intro p e s m below meth c ls A F hA hS hP hD hK hZ hl
  obtain ⟨hx, hb, hr, hml, hown, hts, hlk, hin⟩ := id F
  have hown : s.vm.findClass RX9 = some m.cls := hown
  have hl : lv_has ls 1 [(0, .ref (ad 61))] := hl
  refine lv_aload_n hx hb dX9_countRows_0 rfl (lv_at hl 0 rfl) ?_
  refine va_get (D := E.1) (ci := 9) (v := .int (-1)) (C := RX9) (T := TX9) (N := 18) hx hb hts iX9 hown hK hP 0 rfl rfl 14 (by decide) (hts _ wdF_RX9_39) (fun _ h9 => h9) rfl dX9_countRows_1 ?_
  refine lv_if_ge (tgt := 11) hx hb dX9_countRows_4 (by decide) (fun c_308 => absurd c_308 (by decide)) (fun c_308 => ?_)
  refine lv_lconst (v := 0) hx hb dX9_countRows_7 (by decide) ?_
  refine lv_goto (tgt := 17) hx hb dX9_countRows_8 (by decide) ?_
  exact cL_ret F hP hD hS hK () rfl [0] rfl rfl dX9_countRows_17 (by decide) (by decide)
theorem yy_X9_countRows : cY yX9_countRows cX9_countRows 1 (some .long) 0 := ⟨wdK_X9_countRows, wdZ_RX9, by decide +kernel⟩
theorem yi_X9_countRows : cYi yX9_countRows := ⟨wdN_X9_countRows, wdS_X9_countRows⟩
theorem dX11_rows_0 : decode cX11_rows 0 = .ok (.aload_n 0, 1) := by decide +kernel
theorem dX11_rows_1 : decode cX11_rows 1 = .ok (.getfield 75, 3) := by decide +kernel
theorem dX11_rows_4 : decode cX11_rows 4 = .ok (.invokevirtual 226, 3) := by decide +kernel
theorem dX11_rows_7 : decode cX11_rows 7 = .ok (.lreturn, 1) := by decide +kernel
abbrev rm_p_X11_rows : Room := { frames := 1, cells := 0, slots := 0, locals := 20 }
set_option maxHeartbeats 4000000 in
set_option maxRecDepth 100000 in
theorem p_X11_rows (l : Launch) (E : cE) (h0 : Nat) (ad : Nat → Nat) (gx : Nat → Int32) (gy : Nat → Int32) (gf : Nat → Int32) (v2 : Int32) (gt : Nat → Int32) (gh : Nat → Int32) (gc : Nat → Int32) (hw1 : flo (stC 0) (2 * 4) gx gy gf) (hw3 : ∀ d, d < 2 * 4 → gt d = 0) (hw4 : ∀ d, d < 2 * 4 → gh d = nI (stC 0 d)) (hw5 : ∀ d, d < 2 * 4 → gc d = nI (stC 0 d)) : cM l E yX11_rows cX11_rows 1 (some .long) rm_p_X11_rows [.ref h0] [(h0, ob 11 [.ref (ad 0), .ref (ad 7), .ref (ad 28), .ref (ad 30), .ref (ad 76), .ref (ad 46), .ref (ad 55), .ref (ad 57), .ref (ad 59), .ref (ad 61), .ref (ad 80), .int 0, .int 0, .int 0, .int (-1), .int (-1), .int (-1)]), ((ad 61), ob 9 [.ref (ad 7), .ref (ad 30), .ref (ad 46), .ref (ad 62), .ref (ad 63), .ref (ad 64), .ref (ad 65), .ref (ad 66), .ref (ad 67), .ref (ad 68), .ref (ad 69), .int 0, .int 0, .int 0, .int (-1), .ref (ad 70), .int 0, .int 0])] (qL E (fun (r : Int64) (_u : Unit) => r = 0) (fun _ => [])) := by
  refine cM_of (by decide) (Nat.le_of_ble_eq_true rfl) ?_
  intro p e s m below meth c ls A F hA hS hP hD hK hZ hl
  obtain ⟨hx, hb, hr, hml, hown, hts, hlk, hin⟩ := id F
  have hown : s.vm.findClass RX11 = some m.cls := hown
  have hl : lv_has ls 1 [(0, .ref h0)] := hl
  refine lv_aload_n hx hb dX11_rows_0 rfl (lv_at hl 0 rfl) ?_
  refine va_get (D := E.1) (ci := 11) (v := .ref (ad 61)) (C := RX11) (T := TX11) (N := 17) hx hb hts iX11 hown hK hP 0 rfl rfl 9 (by decide) (hts _ wdF_RX11_75) (fun _ h9 => h9) rfl dX11_rows_1 ?_
  refine cL_go (wr := [(h0, ob 11 [.ref (ad 0), .ref (ad 7), .ref (ad 28), .ref (ad 30), .ref (ad 76), .ref (ad 46), .ref (ad 55), .ref (ad 57), .ref (ad 59), .ref (ad 61), .ref (ad 80), .int 0, .int 0, .int 0, .int (-1), .int (-1), .int (-1)])]) (cM_runV (As := []) (rest := []) F (p_X9_countRows l E h0 ad gx gy gf v2 gt gh gc) yy_X9_countRows yi_X9_countRows wdM_RX11_226 hP hD hS hK hZ hA [1] rfl rfl 1 9 rfl rfl rfl hl.1 rfl (Nat.le_of_ble_eq_true rfl) dX11_rows_4 ⟨by decide, by decide⟩ ⟨by decide, by decide⟩) hP hD hS hA [1] [0] rfl rfl rfl (by decide) (fun r_311 u_310 H locs hw_309 hP hD hS => ?_)
  try dsimp only at hw_309
  have hP : va_P E.1 vwCl [(h0, ob 11 [.ref (ad 0), .ref (ad 7), .ref (ad 28), .ref (ad 30), .ref (ad 76), .ref (ad 46), .ref (ad 55), .ref (ad 57), .ref (ad 59), .ref (ad 61), .ref (ad 80), .int 0, .int 0, .int 0, .int (-1), .int (-1), .int (-1)]), ((ad 61), ob 9 [.ref (ad 7), .ref (ad 30), .ref (ad 46), .ref (ad 62), .ref (ad 63), .ref (ad 64), .ref (ad 65), .ref (ad 66), .ref (ad 67), .ref (ad 68), .ref (ad 69), .int 0, .int 0, .int 0, .int (-1), .ref (ad 70), .int 0, .int 0])] H := hP
  have hD : va_D A [(h0, ob 11 [.ref (ad 0), .ref (ad 7), .ref (ad 28), .ref (ad 30), .ref (ad 76), .ref (ad 46), .ref (ad 55), .ref (ad 57), .ref (ad 59), .ref (ad 61), .ref (ad 80), .int 0, .int 0, .int 0, .int (-1), .int (-1), .int (-1)]), ((ad 61), ob 9 [.ref (ad 7), .ref (ad 30), .ref (ad 46), .ref (ad 62), .ref (ad 63), .ref (ad 64), .ref (ad 65), .ref (ad 66), .ref (ad 67), .ref (ad 68), .ref (ad 69), .int 0, .int 0, .int 0, .int (-1), .ref (ad 70), .int 0, .int 0])] := hD
  exact cL_ret F hP hD hS hK () hw_309 [] rfl rfl dX11_rows_7 (by decide) (by decide)
theorem yy_X11_rows : cY yX11_rows cX11_rows 1 (some .long) 0 := ⟨wdK_X11_rows, wdZ_RX11, by decide +kernel⟩
theorem yi_X11_rows : cYi yX11_rows := ⟨wdN_X11_rows, wdS_X11_rows⟩
theorem dX9_choose_0 : decode cX9_choose 0 = .ok (.lload_n 1, 1) := by decide +kernel
theorem dX9_choose_1 : decode cX9_choose 1 = .ok (.lconst 0, 1) := by decide +kernel
theorem dX9_choose_2 : decode cX9_choose 2 = .ok (.lcmp, 1) := by decide +kernel
theorem dX9_choose_3 : decode cX9_choose 3 = .ok (.ifCond .lt 12, 3) := by decide +kernel
theorem dX9_choose_6 : decode cX9_choose 6 = .ok (.lload_n 1, 1) := by decide +kernel
theorem dX9_choose_7 : decode cX9_choose 7 = .ok (.aload_n 0, 1) := by decide +kernel
theorem dX9_choose_8 : decode cX9_choose 8 = .ok (.invokevirtual 163, 3) := by decide +kernel
theorem dX9_choose_11 : decode cX9_choose 11 = .ok (.lcmp, 1) := by decide +kernel
theorem dX9_choose_12 : decode cX9_choose 12 = .ok (.ifCond .lt 5, 3) := by decide +kernel
theorem dX9_choose_15 : decode cX9_choose 15 = .ok (.iconst 0, 1) := by decide +kernel
theorem dX9_choose_16 : decode cX9_choose 16 = .ok (.ireturn, 1) := by decide +kernel
theorem dX9_choose_17 : decode cX9_choose 17 = .ok (.lload_n 1, 1) := by decide +kernel
theorem dX9_choose_18 : decode cX9_choose 18 = .ok (.lstore_n 3, 1) := by decide +kernel
theorem dX9_choose_19 : decode cX9_choose 19 = .ok (.iconst 0, 1) := by decide +kernel
theorem dX9_choose_20 : decode cX9_choose 20 = .ok (.istore 5, 2) := by decide +kernel
theorem dX9_choose_22 : decode cX9_choose 22 = .ok (.iconst 0, 1) := by decide +kernel
theorem dX9_choose_23 : decode cX9_choose 23 = .ok (.istore 6, 2) := by decide +kernel
theorem dX9_choose_25 : decode cX9_choose 25 = .ok (.iload 6, 2) := by decide +kernel
theorem dX9_choose_27 : decode cX9_choose 27 = .ok (.aload_n 0, 1) := by decide +kernel
theorem dX9_choose_28 : decode cX9_choose 28 = .ok (.getfield 39, 3) := by decide +kernel
theorem dX9_choose_31 : decode cX9_choose 31 = .ok (.if_icmp .ge 91, 3) := by decide +kernel
theorem dX9_choose_34 : decode cX9_choose 34 = .ok (.iconst 0, 1) := by decide +kernel
theorem dX9_choose_35 : decode cX9_choose 35 = .ok (.istore 7, 2) := by decide +kernel
theorem dX9_choose_37 : decode cX9_choose 37 = .ok (.iload 7, 2) := by decide +kernel
theorem dX9_choose_39 : decode cX9_choose 39 = .ok (.aload_n 0, 1) := by decide +kernel
theorem dX9_choose_40 : decode cX9_choose 40 = .ok (.getfield 82, 3) := by decide +kernel
theorem dX9_choose_43 : decode cX9_choose 43 = .ok (.if_icmp .ge 73, 3) := by decide +kernel
theorem dX9_choose_46 : decode cX9_choose 46 = .ok (.aload_n 0, 1) := by decide +kernel
theorem dX9_choose_47 : decode cX9_choose 47 = .ok (.iload 5, 2) := by decide +kernel
theorem dX9_choose_49 : decode cX9_choose 49 = .ok (.iload 7, 2) := by decide +kernel
theorem dX9_choose_51 : decode cX9_choose 51 = .ok (.iload 6, 2) := by decide +kernel
theorem dX9_choose_53 : decode cX9_choose 53 = .ok (.invokevirtual 150, 3) := by decide +kernel
theorem dX9_choose_56 : decode cX9_choose 56 = .ok (.istore 8, 2) := by decide +kernel
theorem dX9_choose_58 : decode cX9_choose 58 = .ok (.iload 8, 2) := by decide +kernel
theorem dX9_choose_60 : decode cX9_choose 60 = .ok (.ifCond .lt 31, 3) := by decide +kernel
theorem dX9_choose_63 : decode cX9_choose 63 = .ok (.lload_n 3, 1) := by decide +kernel
theorem dX9_choose_64 : decode cX9_choose 64 = .ok (.aload_n 0, 1) := by decide +kernel
theorem dX9_choose_65 : decode cX9_choose 65 = .ok (.getfield 27, 3) := by decide +kernel
theorem dX9_choose_68 : decode cX9_choose 68 = .ok (.iload 8, 2) := by decide +kernel
theorem dX9_choose_70 : decode cX9_choose 70 = .ok (.laload, 1) := by decide +kernel
theorem dX9_choose_71 : decode cX9_choose 71 = .ok (.lcmp, 1) := by decide +kernel
theorem dX9_choose_72 : decode cX9_choose 72 = .ok (.ifCond .ge 19, 3) := by decide +kernel
theorem dX9_choose_75 : decode cX9_choose 75 = .ok (.aload_n 0, 1) := by decide +kernel
theorem dX9_choose_76 : decode cX9_choose 76 = .ok (.getfield 43, 3) := by decide +kernel
theorem dX9_choose_79 : decode cX9_choose 79 = .ok (.iload 6, 2) := by decide +kernel
theorem dX9_choose_81 : decode cX9_choose 81 = .ok (.iload 7, 2) := by decide +kernel
theorem dX9_choose_83 : decode cX9_choose 83 = .ok (.iastore, 1) := by decide +kernel
theorem dX9_choose_84 : decode cX9_choose 84 = .ok (.iload 8, 2) := by decide +kernel
theorem dX9_choose_86 : decode cX9_choose 86 = .ok (.istore 5, 2) := by decide +kernel
theorem dX9_choose_88 : decode cX9_choose 88 = .ok (.goto 28, 3) := by decide +kernel
theorem dX9_choose_91 : decode cX9_choose 91 = .ok (.lload_n 3, 1) := by decide +kernel
theorem dX9_choose_92 : decode cX9_choose 92 = .ok (.iload 8, 2) := by decide +kernel
theorem dX9_choose_94 : decode cX9_choose 94 = .ok (.ifCond .lt 13, 3) := by decide +kernel
theorem dX9_choose_97 : decode cX9_choose 97 = .ok (.aload_n 0, 1) := by decide +kernel
theorem dX9_choose_98 : decode cX9_choose 98 = .ok (.getfield 27, 3) := by decide +kernel
theorem dX9_choose_101 : decode cX9_choose 101 = .ok (.iload 8, 2) := by decide +kernel
theorem dX9_choose_103 : decode cX9_choose 103 = .ok (.laload, 1) := by decide +kernel
theorem dX9_choose_104 : decode cX9_choose 104 = .ok (.goto 4, 3) := by decide +kernel
theorem dX9_choose_107 : decode cX9_choose 107 = .ok (.lconst 0, 1) := by decide +kernel
theorem dX9_choose_108 : decode cX9_choose 108 = .ok (.lsub, 1) := by decide +kernel
theorem dX9_choose_109 : decode cX9_choose 109 = .ok (.lstore_n 3, 1) := by decide +kernel
theorem dX9_choose_110 : decode cX9_choose 110 = .ok (.iinc 7 1, 3) := by decide +kernel
theorem dX9_choose_113 : decode cX9_choose 113 = .ok (.goto (-76), 3) := by decide +kernel
theorem dX9_choose_116 : decode cX9_choose 116 = .ok (.iinc 6 1, 3) := by decide +kernel
theorem dX9_choose_119 : decode cX9_choose 119 = .ok (.goto (-94), 3) := by decide +kernel
theorem dX9_choose_122 : decode cX9_choose 122 = .ok (.aload_n 0, 1) := by decide +kernel
theorem dX9_choose_123 : decode cX9_choose 123 = .ok (.iconst 1, 1) := by decide +kernel
theorem dX9_choose_124 : decode cX9_choose 124 = .ok (.putfield 58, 3) := by decide +kernel
theorem dX9_choose_127 : decode cX9_choose 127 = .ok (.aload_n 0, 1) := by decide +kernel
theorem dX9_choose_128 : decode cX9_choose 128 = .ok (.iconst 0, 1) := by decide +kernel
theorem dX9_choose_129 : decode cX9_choose 129 = .ok (.putfield 62, 3) := by decide +kernel
theorem dX9_choose_132 : decode cX9_choose 132 = .ok (.iconst 1, 1) := by decide +kernel
theorem dX9_choose_133 : decode cX9_choose 133 = .ok (.ireturn, 1) := by decide +kernel
abbrev rm_p_X9_choose : Room := { frames := 1, cells := 0, slots := 0, locals := 20 }
set_option maxHeartbeats 4000000 in
set_option maxRecDepth 100000 in
theorem p_X9_choose (l : Launch) (E : cE) (h0 : Nat) (ad : Nat → Nat) (gx : Nat → Int32) (gy : Nat → Int32) (gf : Nat → Int32) (v2 : Int32) (gt : Nat → Int32) (gh : Nat → Int32) (gc : Nat → Int32) (v : Int64) : cM l E yX9_choose cX9_choose 9 (some .boolean) rm_p_X9_choose [.ref (ad 61), .long v] [((ad 61), ob 9 [.ref (ad 7), .ref (ad 30), .ref (ad 46), .ref (ad 62), .ref (ad 63), .ref (ad 64), .ref (ad 65), .ref (ad 66), .ref (ad 67), .ref (ad 68), .ref (ad 69), .int 0, .int 0, .int 0, .int (-1), .ref (ad 70), .int 0, .int 0])] (qI E (fun (r : Int32) (_u : Unit) => r = 0) (fun _ => [((ad 61), ob 9 [.ref (ad 7), .ref (ad 30), .ref (ad 46), .ref (ad 62), .ref (ad 63), .ref (ad 64), .ref (ad 65), .ref (ad 66), .ref (ad 67), .ref (ad 68), .ref (ad 69), .int 0, .int 0, .int 0, .int (-1), .ref (ad 70), .int 0, .int 0])])) := by
  refine cM_of (by decide) (Nat.le_of_ble_eq_true rfl) ?_
  intro p e s m below meth c ls A F hA hS hP hD hK hZ hl
  obtain ⟨hx, hb, hr, hml, hown, hts, hlk, hin⟩ := id F
  have hown : s.vm.findClass RX9 = some m.cls := hown
  have hl : lv_has ls 9 [(0, .ref (ad 61)), (1, .long v)] := hl
  refine lv_lload_n hx hb dX9_choose_0 rfl (lv_at hl 1 rfl) ?_
  refine lv_lconst (v := 0) hx hb dX9_choose_1 (by decide) ?_
  refine W.lcmp hx hb dX9_choose_2 ?_
  refine lv_if_lt (tgt := 15) hx hb dX9_choose_3 (by decide) (fun c1 => ?_) (fun c1 => ?_)
  · refine lv_iconst (v := nI 0) hx hb dX9_choose_15 (by decide) ?_
    exact cB_ret F hP hD hS hK (by decide) () rfl [0] rfl rfl dX9_choose_16 (by decide) (by decide)
  · refine lv_lload_n hx hb dX9_choose_6 rfl (lv_at hl 1 rfl) ?_
    refine lv_aload_n hx hb dX9_choose_7 rfl (lv_at hl 0 rfl) ?_
    refine cL_go (wr := []) (cM_runV (As := []) (rest := [.long v]) F (p_X9_countRows l E h0 ad gx gy gf v2 gt gh gc) yy_X9_countRows yi_X9_countRows wdM_RX9_163 hP hD hS hK hZ hA [0] rfl rfl 0 9 rfl rfl rfl hl.1 rfl (Nat.le_of_ble_eq_true rfl) dX9_choose_8 ⟨by decide, by decide⟩ ⟨by decide, by decide⟩) hP hD hS hA [0] [] rfl rfl rfl (by decide) (fun r_314 u_313 H locs hw_312 hP hD hS => ?_)
    try dsimp only at hw_312
    have hP : va_P E.1 vwCl [((ad 61), ob 9 [.ref (ad 7), .ref (ad 30), .ref (ad 46), .ref (ad 62), .ref (ad 63), .ref (ad 64), .ref (ad 65), .ref (ad 66), .ref (ad 67), .ref (ad 68), .ref (ad 69), .int 0, .int 0, .int 0, .int (-1), .ref (ad 70), .int 0, .int 0])] H := hP
    have hD : va_D A [((ad 61), ob 9 [.ref (ad 7), .ref (ad 30), .ref (ad 46), .ref (ad 62), .ref (ad 63), .ref (ad 64), .ref (ad 65), .ref (ad 66), .ref (ad 67), .ref (ad 68), .ref (ad 69), .int 0, .int 0, .int 0, .int (-1), .ref (ad 70), .int 0, .int 0])] := hD
    subst hw_312
    refine W.lcmp hx hb dX9_choose_11 ?_
    refine lv_if_lt (tgt := 17) hx hb dX9_choose_12 (by decide) (fun c_315 => absurd c_315 c1) (fun c_315 => ?_)
    refine lv_iconst (v := nI 0) hx hb dX9_choose_15 (by decide) ?_
    exact cB_ret F hP hD hS hK (by decide) () rfl [0] rfl rfl dX9_choose_16 (by decide) (by decide)
theorem yy_X9_choose : cY yX9_choose cX9_choose 9 (some .boolean) 1 := ⟨wdK_X9_choose, wdZ_RX9, by decide +kernel⟩
theorem yi_X9_choose : cYi yX9_choose := ⟨wdN_X9_choose, wdS_X9_choose⟩
theorem dX11_row_0 : decode cX11_row 0 = .ok (.aload_n 0, 1) := by decide +kernel
theorem dX11_row_1 : decode cX11_row 1 = .ok (.getfield 75, 3) := by decide +kernel
theorem dX11_row_4 : decode cX11_row 4 = .ok (.iload_n 1, 1) := by decide +kernel
theorem dX11_row_5 : decode cX11_row 5 = .ok (.i2l, 1) := by decide +kernel
theorem dX11_row_6 : decode cX11_row 6 = .ok (.invokevirtual 229, 3) := by decide +kernel
theorem dX11_row_9 : decode cX11_row 9 = .ok (.ireturn, 1) := by decide +kernel
abbrev rm_p_X11_row : Room := { frames := 2, cells := 0, slots := 0, locals := 48 }
set_option maxHeartbeats 4000000 in
set_option maxRecDepth 100000 in
theorem p_X11_row (l : Launch) (E : cE) (h0 : Nat) (ad : Nat → Nat) (gx : Nat → Int32) (gy : Nat → Int32) (gf : Nat → Int32) (v2 : Int32) (gt : Nat → Int32) (gh : Nat → Int32) (gc : Nat → Int32) (v : Int32) (hw1 : flo (stC 0) (2 * 4) gx gy gf) (hw3 : ∀ d, d < 2 * 4 → gt d = 0) (hw4 : ∀ d, d < 2 * 4 → gh d = nI (stC 0 d)) (hw5 : ∀ d, d < 2 * 4 → gc d = nI (stC 0 d)) : cM l E yX11_row cX11_row 2 (some .boolean) rm_p_X11_row [.ref h0, .int v] [(h0, ob 11 [.ref (ad 0), .ref (ad 7), .ref (ad 28), .ref (ad 30), .ref (ad 76), .ref (ad 46), .ref (ad 55), .ref (ad 57), .ref (ad 59), .ref (ad 61), .ref (ad 80), .int 0, .int 0, .int 0, .int (-1), .int (-1), .int (-1)]), ((ad 61), ob 9 [.ref (ad 7), .ref (ad 30), .ref (ad 46), .ref (ad 62), .ref (ad 63), .ref (ad 64), .ref (ad 65), .ref (ad 66), .ref (ad 67), .ref (ad 68), .ref (ad 69), .int 0, .int 0, .int 0, .int (-1), .ref (ad 70), .int 0, .int 0])] (qI E (fun (r : Int32) (_u : Unit) => r = 0) (fun _ => [])) := by
  refine cM_of (by decide) (Nat.le_of_ble_eq_true rfl) ?_
  intro p e s m below meth c ls A F hA hS hP hD hK hZ hl
  obtain ⟨hx, hb, hr, hml, hown, hts, hlk, hin⟩ := id F
  have hown : s.vm.findClass RX11 = some m.cls := hown
  have hl : lv_has ls 2 [(0, .ref h0), (1, .int v)] := hl
  refine lv_aload_n hx hb dX11_row_0 rfl (lv_at hl 0 rfl) ?_
  refine va_get (D := E.1) (ci := 11) (v := .ref (ad 61)) (C := RX11) (T := TX11) (N := 17) hx hb hts iX11 hown hK hP 0 rfl rfl 9 (by decide) (hts _ wdF_RX11_75) (fun _ h9 => h9) rfl dX11_row_1 ?_
  refine lv_iload_n hx hb dX11_row_4 rfl (lv_at hl 1 rfl) ?_
  refine lv_i2l hx hb dX11_row_5 rfl ?_
  refine cI_go (wr := [(h0, ob 11 [.ref (ad 0), .ref (ad 7), .ref (ad 28), .ref (ad 30), .ref (ad 76), .ref (ad 46), .ref (ad 55), .ref (ad 57), .ref (ad 59), .ref (ad 61), .ref (ad 80), .int 0, .int 0, .int 0, .int (-1), .int (-1), .int (-1)])]) (cM_runV (As := [.long v.toInt64]) (rest := []) F (p_X9_choose l E h0 ad gx gy gf v2 gt gh gc v.toInt64) yy_X9_choose yi_X9_choose wdM_RX11_229 hP hD hS hK hZ hA [1] rfl rfl 1 9 rfl rfl rfl hl.1 rfl (Nat.le_of_ble_eq_true rfl) dX11_row_6 ⟨by decide, by decide⟩ ⟨by decide, by decide⟩) hP hD hS hA [1] [0] rfl rfl rfl (by decide) (fun r_318 u_317 H locs hw_316 hP hD hS => ?_)
  try dsimp only at hw_316
  have hP : va_P E.1 vwCl [(h0, ob 11 [.ref (ad 0), .ref (ad 7), .ref (ad 28), .ref (ad 30), .ref (ad 76), .ref (ad 46), .ref (ad 55), .ref (ad 57), .ref (ad 59), .ref (ad 61), .ref (ad 80), .int 0, .int 0, .int 0, .int (-1), .int (-1), .int (-1)]), ((ad 61), ob 9 [.ref (ad 7), .ref (ad 30), .ref (ad 46), .ref (ad 62), .ref (ad 63), .ref (ad 64), .ref (ad 65), .ref (ad 66), .ref (ad 67), .ref (ad 68), .ref (ad 69), .int 0, .int 0, .int 0, .int (-1), .ref (ad 70), .int 0, .int 0])] H := hP
  have hD : va_D A [(h0, ob 11 [.ref (ad 0), .ref (ad 7), .ref (ad 28), .ref (ad 30), .ref (ad 76), .ref (ad 46), .ref (ad 55), .ref (ad 57), .ref (ad 59), .ref (ad 61), .ref (ad 80), .int 0, .int 0, .int 0, .int (-1), .int (-1), .int (-1)]), ((ad 61), ob 9 [.ref (ad 7), .ref (ad 30), .ref (ad 46), .ref (ad 62), .ref (ad 63), .ref (ad 64), .ref (ad 65), .ref (ad 66), .ref (ad 67), .ref (ad 68), .ref (ad 69), .int 0, .int 0, .int 0, .int (-1), .ref (ad 70), .int 0, .int 0])] := hD
  subst hw_316
  exact cB_ret F hP hD hS hK (by decide) () rfl [] rfl rfl dX11_row_9 (by decide) (by decide)
theorem yy_X11_row : cY yX11_row cX11_row 2 (some .boolean) 1 := ⟨wdK_X11_row, wdZ_RX11, by decide +kernel⟩
theorem yi_X11_row : cYi yX11_row := ⟨wdN_X11_row, wdS_X11_row⟩
theorem dX11_highProduct_0 : decode cX11_highProduct 0 = .ok (.lload 4, 2) := by decide +kernel
theorem dX11_highProduct_2 : decode cX11_highProduct 2 = .ok (.bipush 32, 2) := by decide +kernel
theorem dX11_highProduct_4 : decode cX11_highProduct 4 = .ok (.lushr, 1) := by decide +kernel
theorem dX11_highProduct_5 : decode cX11_highProduct 5 = .ok (.lstore 6, 2) := by decide +kernel
theorem dX11_highProduct_7 : decode cX11_highProduct 7 = .ok (.lload 4, 2) := by decide +kernel
theorem dX11_highProduct_9 : decode cX11_highProduct 9 = .ok (.ldc2_w 233, 3) := by decide +kernel
theorem dX11_highProduct_12 : decode cX11_highProduct 12 = .ok (.land, 1) := by decide +kernel
theorem dX11_highProduct_13 : decode cX11_highProduct 13 = .ok (.lstore 8, 2) := by decide +kernel
theorem dX11_highProduct_15 : decode cX11_highProduct 15 = .ok (.lload_n 0, 1) := by decide +kernel
theorem dX11_highProduct_16 : decode cX11_highProduct 16 = .ok (.lload 8, 2) := by decide +kernel
theorem dX11_highProduct_18 : decode cX11_highProduct 18 = .ok (.lmul, 1) := by decide +kernel
theorem dX11_highProduct_19 : decode cX11_highProduct 19 = .ok (.lload_n 2, 1) := by decide +kernel
theorem dX11_highProduct_20 : decode cX11_highProduct 20 = .ok (.lload 8, 2) := by decide +kernel
theorem dX11_highProduct_22 : decode cX11_highProduct 22 = .ok (.lmul, 1) := by decide +kernel
theorem dX11_highProduct_23 : decode cX11_highProduct 23 = .ok (.bipush 32, 2) := by decide +kernel
theorem dX11_highProduct_25 : decode cX11_highProduct 25 = .ok (.lushr, 1) := by decide +kernel
theorem dX11_highProduct_26 : decode cX11_highProduct 26 = .ok (.ladd, 1) := by decide +kernel
theorem dX11_highProduct_27 : decode cX11_highProduct 27 = .ok (.lstore 10, 2) := by decide +kernel
theorem dX11_highProduct_29 : decode cX11_highProduct 29 = .ok (.lload_n 2, 1) := by decide +kernel
theorem dX11_highProduct_30 : decode cX11_highProduct 30 = .ok (.lload 6, 2) := by decide +kernel
theorem dX11_highProduct_32 : decode cX11_highProduct 32 = .ok (.lmul, 1) := by decide +kernel
theorem dX11_highProduct_33 : decode cX11_highProduct 33 = .ok (.lload 10, 2) := by decide +kernel
theorem dX11_highProduct_35 : decode cX11_highProduct 35 = .ok (.ldc2_w 233, 3) := by decide +kernel
theorem dX11_highProduct_38 : decode cX11_highProduct 38 = .ok (.land, 1) := by decide +kernel
theorem dX11_highProduct_39 : decode cX11_highProduct 39 = .ok (.ladd, 1) := by decide +kernel
theorem dX11_highProduct_40 : decode cX11_highProduct 40 = .ok (.lstore 12, 2) := by decide +kernel
theorem dX11_highProduct_42 : decode cX11_highProduct 42 = .ok (.lload_n 0, 1) := by decide +kernel
theorem dX11_highProduct_43 : decode cX11_highProduct 43 = .ok (.lload 6, 2) := by decide +kernel
theorem dX11_highProduct_45 : decode cX11_highProduct 45 = .ok (.lmul, 1) := by decide +kernel
theorem dX11_highProduct_46 : decode cX11_highProduct 46 = .ok (.lload 10, 2) := by decide +kernel
theorem dX11_highProduct_48 : decode cX11_highProduct 48 = .ok (.bipush 32, 2) := by decide +kernel
theorem dX11_highProduct_50 : decode cX11_highProduct 50 = .ok (.lushr, 1) := by decide +kernel
theorem dX11_highProduct_51 : decode cX11_highProduct 51 = .ok (.ladd, 1) := by decide +kernel
theorem dX11_highProduct_52 : decode cX11_highProduct 52 = .ok (.lload 12, 2) := by decide +kernel
theorem dX11_highProduct_54 : decode cX11_highProduct 54 = .ok (.bipush 32, 2) := by decide +kernel
theorem dX11_highProduct_56 : decode cX11_highProduct 56 = .ok (.lushr, 1) := by decide +kernel
theorem dX11_highProduct_57 : decode cX11_highProduct 57 = .ok (.ladd, 1) := by decide +kernel
theorem dX11_highProduct_58 : decode cX11_highProduct 58 = .ok (.lreturn, 1) := by decide +kernel
abbrev rm_p_X11_highProduct : Room := { frames := 0, cells := 0, slots := 0, locals := 0 }
set_option maxHeartbeats 4000000 in
set_option maxRecDepth 100000 in
theorem p_X11_highProduct (l : Launch) (E : cE) (a : Int64) (b : Int64) (c9 : Int64) : cM l E yX11_highProduct cX11_highProduct 14 (some .long) rm_p_X11_highProduct [.long a, .long b, .long c9] [] (qL E (fun (r : Int64) (_u : Unit) => True) (fun _ => [])) := by
  refine cM_of (by decide) (Nat.le_of_ble_eq_true rfl) ?_
  intro p e s m below meth c ls A F hA hS hP hD hK hZ hl
  obtain ⟨hx, hb, hr, hml, hown, hts, hlk, hin⟩ := id F
  have hown : s.vm.findClass RX11 = some m.cls := hown
  have hl : lv_has ls 14 [(0, .long a), (2, .long b), (4, .long c9)] := hl
  refine lv_lload hx hb dX11_highProduct_0 (lv_at hl 2 rfl) ?_
  refine lv_bipush (v := nI 32) hx hb dX11_highProduct_2 (by decide) ?_
  refine lv_lushr hx hb dX11_highProduct_4 rfl ?_
  refine lv_topl (fun x_319 ex_319 => ?_)
  refine lv_lstore (lv' := [(6, .long x_319), (0, .long a), (2, .long b), (4, .long c9)]) hx hb dX11_highProduct_5 hl (by decide) rfl (fun ls hl => ?_)
  refine lv_lload hx hb dX11_highProduct_7 (lv_at hl 3 rfl) ?_
  refine lv_ldc2 hx hb hown (hts _ wdL_RX11_233) dX11_highProduct_9 ?_
  refine lv_land hx hb dX11_highProduct_12 ?_
  refine lv_topl (fun x_320 ex_320 => ?_)
  refine lv_lstore (lv' := [(8, .long x_320), (6, .long x_319), (0, .long a), (2, .long b), (4, .long c9)]) hx hb dX11_highProduct_13 hl (by decide) rfl (fun ls hl => ?_)
  refine lv_lload_n hx hb dX11_highProduct_15 rfl (lv_at hl 2 rfl) ?_
  refine lv_lload hx hb dX11_highProduct_16 (lv_at hl 0 rfl) ?_
  refine lv_lmul hx hb dX11_highProduct_18 ?_
  refine lv_lload_n hx hb dX11_highProduct_19 rfl (lv_at hl 3 rfl) ?_
  refine lv_lload hx hb dX11_highProduct_20 (lv_at hl 0 rfl) ?_
  refine lv_lmul hx hb dX11_highProduct_22 ?_
  refine lv_bipush (v := nI 32) hx hb dX11_highProduct_23 (by decide) ?_
  refine lv_lushr hx hb dX11_highProduct_25 rfl ?_
  refine lv_ladd hx hb dX11_highProduct_26 ?_
  refine lv_topl (fun x_321 ex_321 => ?_)
  refine lv_lstore (lv' := [(10, .long x_321), (8, .long x_320), (6, .long x_319), (0, .long a), (2, .long b), (4, .long c9)]) hx hb dX11_highProduct_27 hl (by decide) rfl (fun ls hl => ?_)
  refine lv_lload_n hx hb dX11_highProduct_29 rfl (lv_at hl 4 rfl) ?_
  refine lv_lload hx hb dX11_highProduct_30 (lv_at hl 2 rfl) ?_
  refine lv_lmul hx hb dX11_highProduct_32 ?_
  refine lv_lload hx hb dX11_highProduct_33 (lv_at hl 0 rfl) ?_
  refine lv_ldc2 hx hb hown (hts _ wdL_RX11_233) dX11_highProduct_35 ?_
  refine lv_land hx hb dX11_highProduct_38 ?_
  refine lv_ladd hx hb dX11_highProduct_39 ?_
  refine lv_topl (fun x_322 ex_322 => ?_)
  refine lv_lstore (lv' := [(12, .long x_322), (10, .long x_321), (8, .long x_320), (6, .long x_319), (0, .long a), (2, .long b), (4, .long c9)]) hx hb dX11_highProduct_40 hl (by decide) rfl (fun ls hl => ?_)
  refine lv_lload_n hx hb dX11_highProduct_42 rfl (lv_at hl 4 rfl) ?_
  refine lv_lload hx hb dX11_highProduct_43 (lv_at hl 3 rfl) ?_
  refine lv_lmul hx hb dX11_highProduct_45 ?_
  refine lv_lload hx hb dX11_highProduct_46 (lv_at hl 1 rfl) ?_
  refine lv_bipush (v := nI 32) hx hb dX11_highProduct_48 (by decide) ?_
  refine lv_lushr hx hb dX11_highProduct_50 rfl ?_
  refine lv_ladd hx hb dX11_highProduct_51 ?_
  refine lv_lload hx hb dX11_highProduct_52 (lv_at hl 0 rfl) ?_
  refine lv_bipush (v := nI 32) hx hb dX11_highProduct_54 (by decide) ?_
  refine lv_lushr hx hb dX11_highProduct_56 rfl ?_
  refine lv_ladd hx hb dX11_highProduct_57 ?_
  exact cL_ret F hP hD hS hK () trivial [] rfl rfl dX11_highProduct_58 (by decide) (by decide)
theorem yy_X11_highProduct : cY yX11_highProduct cX11_highProduct 14 (some .long) 3 := ⟨wdK_X11_highProduct, wdZ_RX11, by decide +kernel⟩
theorem dX11_draw_0 : decode cX11_draw 0 = .ok (.aload_n 0, 1) := by decide +kernel
theorem dX11_draw_1 : decode cX11_draw 1 = .ok (.getfield 75, 3) := by decide +kernel
theorem dX11_draw_4 : decode cX11_draw 4 = .ok (.iload_n 1, 1) := by decide +kernel
theorem dX11_draw_5 : decode cX11_draw 5 = .ok (.i2l, 1) := by decide +kernel
theorem dX11_draw_6 : decode cX11_draw 6 = .ok (.ldc2_w 233, 3) := by decide +kernel
theorem dX11_draw_9 : decode cX11_draw 9 = .ok (.land, 1) := by decide +kernel
theorem dX11_draw_10 : decode cX11_draw 10 = .ok (.iload_n 2, 1) := by decide +kernel
theorem dX11_draw_11 : decode cX11_draw 11 = .ok (.i2l, 1) := by decide +kernel
theorem dX11_draw_12 : decode cX11_draw 12 = .ok (.ldc2_w 233, 3) := by decide +kernel
theorem dX11_draw_15 : decode cX11_draw 15 = .ok (.land, 1) := by decide +kernel
theorem dX11_draw_16 : decode cX11_draw 16 = .ok (.aload_n 0, 1) := by decide +kernel
theorem dX11_draw_17 : decode cX11_draw 17 = .ok (.getfield 75, 3) := by decide +kernel
theorem dX11_draw_20 : decode cX11_draw 20 = .ok (.invokevirtual 226, 3) := by decide +kernel
theorem dX11_draw_23 : decode cX11_draw 23 = .ok (.invokestatic 235, 3) := by decide +kernel
theorem dX11_draw_26 : decode cX11_draw 26 = .ok (.invokevirtual 229, 3) := by decide +kernel
theorem dX11_draw_29 : decode cX11_draw 29 = .ok (.ireturn, 1) := by decide +kernel
abbrev rm_p_X11_draw : Room := { frames := 2, cells := 0, slots := 0, locals := 48 }
set_option maxHeartbeats 4000000 in
set_option maxRecDepth 100000 in
theorem p_X11_draw (l : Launch) (E : cE) (h0 : Nat) (ad : Nat → Nat) (gx : Nat → Int32) (gy : Nat → Int32) (gf : Nat → Int32) (v2 : Int32) (gt : Nat → Int32) (gh : Nat → Int32) (gc : Nat → Int32) (a : Int32) (b : Int32) (hw1 : flo (stC 0) (2 * 4) gx gy gf) (hw3 : ∀ d, d < 2 * 4 → gt d = 0) (hw4 : ∀ d, d < 2 * 4 → gh d = nI (stC 0 d)) (hw5 : ∀ d, d < 2 * 4 → gc d = nI (stC 0 d)) : cM l E yX11_draw cX11_draw 3 (some .boolean) rm_p_X11_draw [.ref h0, .int a, .int b] [(h0, ob 11 [.ref (ad 0), .ref (ad 7), .ref (ad 28), .ref (ad 30), .ref (ad 76), .ref (ad 46), .ref (ad 55), .ref (ad 57), .ref (ad 59), .ref (ad 61), .ref (ad 80), .int 0, .int 0, .int 0, .int (-1), .int (-1), .int (-1)]), ((ad 61), ob 9 [.ref (ad 7), .ref (ad 30), .ref (ad 46), .ref (ad 62), .ref (ad 63), .ref (ad 64), .ref (ad 65), .ref (ad 66), .ref (ad 67), .ref (ad 68), .ref (ad 69), .int 0, .int 0, .int 0, .int (-1), .ref (ad 70), .int 0, .int 0])] (qI E (fun (r : Int32) (_u : Unit) => r = 0) (fun _ => [])) := by
  refine cM_of (by decide) (Nat.le_of_ble_eq_true rfl) ?_
  intro p e s m below meth c ls A F hA hS hP hD hK hZ hl
  obtain ⟨hx, hb, hr, hml, hown, hts, hlk, hin⟩ := id F
  have hown : s.vm.findClass RX11 = some m.cls := hown
  have hl : lv_has ls 3 [(0, .ref h0), (1, .int a), (2, .int b)] := hl
  refine lv_aload_n hx hb dX11_draw_0 rfl (lv_at hl 0 rfl) ?_
  refine va_get (D := E.1) (ci := 11) (v := .ref (ad 61)) (C := RX11) (T := TX11) (N := 17) hx hb hts iX11 hown hK hP 0 rfl rfl 9 (by decide) (hts _ wdF_RX11_75) (fun _ h9 => h9) rfl dX11_draw_1 ?_
  refine lv_iload_n hx hb dX11_draw_4 rfl (lv_at hl 1 rfl) ?_
  refine lv_i2l hx hb dX11_draw_5 rfl ?_
  refine lv_ldc2 hx hb hown (hts _ wdL_RX11_233) dX11_draw_6 ?_
  refine lv_land hx hb dX11_draw_9 ?_
  refine lv_iload_n hx hb dX11_draw_10 rfl (lv_at hl 2 rfl) ?_
  refine lv_i2l hx hb dX11_draw_11 rfl ?_
  refine lv_ldc2 hx hb hown (hts _ wdL_RX11_233) dX11_draw_12 ?_
  refine lv_land hx hb dX11_draw_15 ?_
  refine lv_aload_n hx hb dX11_draw_16 rfl (lv_at hl 0 rfl) ?_
  refine va_get (D := E.1) (ci := 11) (v := .ref (ad 61)) (C := RX11) (T := TX11) (N := 17) hx hb hts iX11 hown hK hP 0 rfl rfl 9 (by decide) (hts _ wdF_RX11_75) (fun _ h9 => h9) rfl dX11_draw_17 ?_
  refine cL_go (wr := [(h0, ob 11 [.ref (ad 0), .ref (ad 7), .ref (ad 28), .ref (ad 30), .ref (ad 76), .ref (ad 46), .ref (ad 55), .ref (ad 57), .ref (ad 59), .ref (ad 61), .ref (ad 80), .int 0, .int 0, .int 0, .int (-1), .int (-1), .int (-1)])]) (cM_runV (As := []) (rest := [.long (b.toInt64 &&& 4294967295), .long (a.toInt64 &&& 4294967295), .ref (ad 61)]) F (p_X9_countRows l E h0 ad gx gy gf v2 gt gh gc) yy_X9_countRows yi_X9_countRows wdM_RX11_226 hP hD hS hK hZ hA [1] rfl rfl 1 9 rfl rfl rfl hl.1 rfl (Nat.le_of_ble_eq_true rfl) dX11_draw_20 ⟨by decide, by decide⟩ ⟨by decide, by decide⟩) hP hD hS hA [1] [0] rfl rfl rfl (by decide) (fun r_325 u_324 H locs hw_323 hP hD hS => ?_)
  try dsimp only at hw_323
  have hP : va_P E.1 vwCl [(h0, ob 11 [.ref (ad 0), .ref (ad 7), .ref (ad 28), .ref (ad 30), .ref (ad 76), .ref (ad 46), .ref (ad 55), .ref (ad 57), .ref (ad 59), .ref (ad 61), .ref (ad 80), .int 0, .int 0, .int 0, .int (-1), .int (-1), .int (-1)]), ((ad 61), ob 9 [.ref (ad 7), .ref (ad 30), .ref (ad 46), .ref (ad 62), .ref (ad 63), .ref (ad 64), .ref (ad 65), .ref (ad 66), .ref (ad 67), .ref (ad 68), .ref (ad 69), .int 0, .int 0, .int 0, .int (-1), .ref (ad 70), .int 0, .int 0])] H := hP
  have hD : va_D A [(h0, ob 11 [.ref (ad 0), .ref (ad 7), .ref (ad 28), .ref (ad 30), .ref (ad 76), .ref (ad 46), .ref (ad 55), .ref (ad 57), .ref (ad 59), .ref (ad 61), .ref (ad 80), .int 0, .int 0, .int 0, .int (-1), .int (-1), .int (-1)]), ((ad 61), ob 9 [.ref (ad 7), .ref (ad 30), .ref (ad 46), .ref (ad 62), .ref (ad 63), .ref (ad 64), .ref (ad 65), .ref (ad 66), .ref (ad 67), .ref (ad 68), .ref (ad 69), .int 0, .int 0, .int 0, .int (-1), .ref (ad 70), .int 0, .int 0])] := hD
  refine cL_go (wr := [(h0, ob 11 [.ref (ad 0), .ref (ad 7), .ref (ad 28), .ref (ad 30), .ref (ad 76), .ref (ad 46), .ref (ad 55), .ref (ad 57), .ref (ad 59), .ref (ad 61), .ref (ad 80), .int 0, .int 0, .int 0, .int (-1), .int (-1), .int (-1)]), ((ad 61), ob 9 [.ref (ad 7), .ref (ad 30), .ref (ad 46), .ref (ad 62), .ref (ad 63), .ref (ad 64), .ref (ad 65), .ref (ad 66), .ref (ad 67), .ref (ad 68), .ref (ad 69), .int 0, .int 0, .int 0, .int (-1), .ref (ad 70), .int 0, .int 0])]) (cM_runS (As := [.long (a.toInt64 &&& 4294967295), .long (b.toInt64 &&& 4294967295), .long r_325]) (rest := [.ref (ad 61)]) F (p_X11_highProduct l E (a.toInt64 &&& 4294967295) (b.toInt64 &&& 4294967295) r_325) yy_X11_highProduct wdT_X11_highProduct wdM_RX11_235 hP hD hS hK hZ hA [] rfl rfl rfl hl.1 rfl (Nat.le_of_ble_eq_true rfl) dX11_draw_23 ⟨by decide, by decide⟩ ⟨by decide, by decide⟩) hP hD hS hA [] [0, 1] rfl rfl rfl (by decide) (fun r_328 u_327 H locs hw_326 hP hD hS => ?_)
  try dsimp only at hw_326
  have hP : va_P E.1 vwCl [(h0, ob 11 [.ref (ad 0), .ref (ad 7), .ref (ad 28), .ref (ad 30), .ref (ad 76), .ref (ad 46), .ref (ad 55), .ref (ad 57), .ref (ad 59), .ref (ad 61), .ref (ad 80), .int 0, .int 0, .int 0, .int (-1), .int (-1), .int (-1)]), ((ad 61), ob 9 [.ref (ad 7), .ref (ad 30), .ref (ad 46), .ref (ad 62), .ref (ad 63), .ref (ad 64), .ref (ad 65), .ref (ad 66), .ref (ad 67), .ref (ad 68), .ref (ad 69), .int 0, .int 0, .int 0, .int (-1), .ref (ad 70), .int 0, .int 0])] H := hP
  have hD : va_D A [(h0, ob 11 [.ref (ad 0), .ref (ad 7), .ref (ad 28), .ref (ad 30), .ref (ad 76), .ref (ad 46), .ref (ad 55), .ref (ad 57), .ref (ad 59), .ref (ad 61), .ref (ad 80), .int 0, .int 0, .int 0, .int (-1), .int (-1), .int (-1)]), ((ad 61), ob 9 [.ref (ad 7), .ref (ad 30), .ref (ad 46), .ref (ad 62), .ref (ad 63), .ref (ad 64), .ref (ad 65), .ref (ad 66), .ref (ad 67), .ref (ad 68), .ref (ad 69), .int 0, .int 0, .int 0, .int (-1), .ref (ad 70), .int 0, .int 0])] := hD
  refine cI_go (wr := [(h0, ob 11 [.ref (ad 0), .ref (ad 7), .ref (ad 28), .ref (ad 30), .ref (ad 76), .ref (ad 46), .ref (ad 55), .ref (ad 57), .ref (ad 59), .ref (ad 61), .ref (ad 80), .int 0, .int 0, .int 0, .int (-1), .int (-1), .int (-1)])]) (cM_runV (As := [.long r_328]) (rest := []) F (p_X9_choose l E h0 ad gx gy gf v2 gt gh gc r_328) yy_X9_choose yi_X9_choose wdM_RX11_229 hP hD hS hK hZ hA [1] rfl rfl 1 9 rfl rfl rfl hl.1 rfl (Nat.le_of_ble_eq_true rfl) dX11_draw_26 ⟨by decide, by decide⟩ ⟨by decide, by decide⟩) hP hD hS hA [1] [0] rfl rfl rfl (by decide) (fun r_331 u_330 H locs hw_329 hP hD hS => ?_)
  try dsimp only at hw_329
  have hP : va_P E.1 vwCl [(h0, ob 11 [.ref (ad 0), .ref (ad 7), .ref (ad 28), .ref (ad 30), .ref (ad 76), .ref (ad 46), .ref (ad 55), .ref (ad 57), .ref (ad 59), .ref (ad 61), .ref (ad 80), .int 0, .int 0, .int 0, .int (-1), .int (-1), .int (-1)]), ((ad 61), ob 9 [.ref (ad 7), .ref (ad 30), .ref (ad 46), .ref (ad 62), .ref (ad 63), .ref (ad 64), .ref (ad 65), .ref (ad 66), .ref (ad 67), .ref (ad 68), .ref (ad 69), .int 0, .int 0, .int 0, .int (-1), .ref (ad 70), .int 0, .int 0])] H := hP
  have hD : va_D A [(h0, ob 11 [.ref (ad 0), .ref (ad 7), .ref (ad 28), .ref (ad 30), .ref (ad 76), .ref (ad 46), .ref (ad 55), .ref (ad 57), .ref (ad 59), .ref (ad 61), .ref (ad 80), .int 0, .int 0, .int 0, .int (-1), .int (-1), .int (-1)]), ((ad 61), ob 9 [.ref (ad 7), .ref (ad 30), .ref (ad 46), .ref (ad 62), .ref (ad 63), .ref (ad 64), .ref (ad 65), .ref (ad 66), .ref (ad 67), .ref (ad 68), .ref (ad 69), .int 0, .int 0, .int 0, .int (-1), .ref (ad 70), .int 0, .int 0])] := hD
  subst hw_329
  exact cB_ret F hP hD hS hK (by decide) () rfl [] rfl rfl dX11_draw_29 (by decide) (by decide)
theorem yy_X11_draw : cY yX11_draw cX11_draw 3 (some .boolean) 2 := ⟨wdK_X11_draw, wdZ_RX11, by decide +kernel⟩
theorem yi_X11_draw : cYi yX11_draw := ⟨wdN_X11_draw, wdS_X11_draw⟩
theorem dX9_chooseCheapest_0 : decode cX9_chooseCheapest 0 = .ok (.aload_n 0, 1) := by decide +kernel
theorem dX9_chooseCheapest_1 : decode cX9_chooseCheapest 1 = .ok (.getfield 39, 3) := by decide +kernel
theorem dX9_chooseCheapest_4 : decode cX9_chooseCheapest 4 = .ok (.ifCond .ge 5, 3) := by decide +kernel
theorem dX9_chooseCheapest_7 : decode cX9_chooseCheapest 7 = .ok (.iconst (-1), 1) := by decide +kernel
theorem dX9_chooseCheapest_8 : decode cX9_chooseCheapest 8 = .ok (.ireturn, 1) := by decide +kernel
theorem dX9_chooseCheapest_9 : decode cX9_chooseCheapest 9 = .ok (.iconst 0, 1) := by decide +kernel
theorem dX9_chooseCheapest_10 : decode cX9_chooseCheapest 10 = .ok (.istore_n 1, 1) := by decide +kernel
theorem dX9_chooseCheapest_11 : decode cX9_chooseCheapest 11 = .ok (.iconst 0, 1) := by decide +kernel
theorem dX9_chooseCheapest_12 : decode cX9_chooseCheapest 12 = .ok (.istore_n 2, 1) := by decide +kernel
theorem dX9_chooseCheapest_13 : decode cX9_chooseCheapest 13 = .ok (.iload_n 2, 1) := by decide +kernel
theorem dX9_chooseCheapest_14 : decode cX9_chooseCheapest 14 = .ok (.aload_n 0, 1) := by decide +kernel
theorem dX9_chooseCheapest_15 : decode cX9_chooseCheapest 15 = .ok (.getfield 39, 3) := by decide +kernel
theorem dX9_chooseCheapest_18 : decode cX9_chooseCheapest 18 = .ok (.if_icmp .ge 78, 3) := by decide +kernel
theorem dX9_chooseCheapest_21 : decode cX9_chooseCheapest 21 = .ok (.iconst 0, 1) := by decide +kernel
theorem dX9_chooseCheapest_22 : decode cX9_chooseCheapest 22 = .ok (.istore_n 3, 1) := by decide +kernel
theorem dX9_chooseCheapest_23 : decode cX9_chooseCheapest 23 = .ok (.iload_n 3, 1) := by decide +kernel
theorem dX9_chooseCheapest_24 : decode cX9_chooseCheapest 24 = .ok (.aload_n 0, 1) := by decide +kernel
theorem dX9_chooseCheapest_25 : decode cX9_chooseCheapest 25 = .ok (.getfield 82, 3) := by decide +kernel
theorem dX9_chooseCheapest_28 : decode cX9_chooseCheapest 28 = .ok (.if_icmp .ge 62, 3) := by decide +kernel
theorem dX9_chooseCheapest_31 : decode cX9_chooseCheapest 31 = .ok (.aload_n 0, 1) := by decide +kernel
theorem dX9_chooseCheapest_32 : decode cX9_chooseCheapest 32 = .ok (.iload_n 1, 1) := by decide +kernel
theorem dX9_chooseCheapest_33 : decode cX9_chooseCheapest 33 = .ok (.iload_n 3, 1) := by decide +kernel
theorem dX9_chooseCheapest_34 : decode cX9_chooseCheapest 34 = .ok (.iload_n 2, 1) := by decide +kernel
theorem dX9_chooseCheapest_35 : decode cX9_chooseCheapest 35 = .ok (.invokevirtual 150, 3) := by decide +kernel
theorem dX9_chooseCheapest_38 : decode cX9_chooseCheapest 38 = .ok (.istore 4, 2) := by decide +kernel
theorem dX9_chooseCheapest_40 : decode cX9_chooseCheapest 40 = .ok (.iload 4, 2) := by decide +kernel
theorem dX9_chooseCheapest_42 : decode cX9_chooseCheapest 42 = .ok (.ifCond .lt 42, 3) := by decide +kernel
theorem dX9_chooseCheapest_45 : decode cX9_chooseCheapest 45 = .ok (.aload_n 0, 1) := by decide +kernel
theorem dX9_chooseCheapest_46 : decode cX9_chooseCheapest 46 = .ok (.getfield 46, 3) := by decide +kernel
theorem dX9_chooseCheapest_49 : decode cX9_chooseCheapest 49 = .ok (.getfield 154, 3) := by decide +kernel
theorem dX9_chooseCheapest_52 : decode cX9_chooseCheapest 52 = .ok (.iload_n 3, 1) := by decide +kernel
theorem dX9_chooseCheapest_53 : decode cX9_chooseCheapest 53 = .ok (.iaload, 1) := by decide +kernel
theorem dX9_chooseCheapest_54 : decode cX9_chooseCheapest 54 = .ok (.aload_n 0, 1) := by decide +kernel
theorem dX9_chooseCheapest_55 : decode cX9_chooseCheapest 55 = .ok (.getfield 30, 3) := by decide +kernel
theorem dX9_chooseCheapest_58 : decode cX9_chooseCheapest 58 = .ok (.iload 4, 2) := by decide +kernel
theorem dX9_chooseCheapest_60 : decode cX9_chooseCheapest 60 = .ok (.iaload, 1) := by decide +kernel
theorem dX9_chooseCheapest_61 : decode cX9_chooseCheapest 61 = .ok (.iadd, 1) := by decide +kernel
theorem dX9_chooseCheapest_62 : decode cX9_chooseCheapest 62 = .ok (.aload_n 0, 1) := by decide +kernel
theorem dX9_chooseCheapest_63 : decode cX9_chooseCheapest 63 = .ok (.getfield 30, 3) := by decide +kernel
theorem dX9_chooseCheapest_66 : decode cX9_chooseCheapest 66 = .ok (.iload_n 1, 1) := by decide +kernel
theorem dX9_chooseCheapest_67 : decode cX9_chooseCheapest 67 = .ok (.iaload, 1) := by decide +kernel
theorem dX9_chooseCheapest_68 : decode cX9_chooseCheapest 68 = .ok (.if_icmp .ne 16, 3) := by decide +kernel
theorem dX9_chooseCheapest_71 : decode cX9_chooseCheapest 71 = .ok (.aload_n 0, 1) := by decide +kernel
theorem dX9_chooseCheapest_72 : decode cX9_chooseCheapest 72 = .ok (.getfield 43, 3) := by decide +kernel
theorem dX9_chooseCheapest_75 : decode cX9_chooseCheapest 75 = .ok (.iload_n 2, 1) := by decide +kernel
theorem dX9_chooseCheapest_76 : decode cX9_chooseCheapest 76 = .ok (.iload_n 3, 1) := by decide +kernel
theorem dX9_chooseCheapest_77 : decode cX9_chooseCheapest 77 = .ok (.iastore, 1) := by decide +kernel
theorem dX9_chooseCheapest_78 : decode cX9_chooseCheapest 78 = .ok (.iload 4, 2) := by decide +kernel
theorem dX9_chooseCheapest_80 : decode cX9_chooseCheapest 80 = .ok (.istore_n 1, 1) := by decide +kernel
theorem dX9_chooseCheapest_81 : decode cX9_chooseCheapest 81 = .ok (.goto 9, 3) := by decide +kernel
theorem dX9_chooseCheapest_84 : decode cX9_chooseCheapest 84 = .ok (.iinc 3 1, 3) := by decide +kernel
theorem dX9_chooseCheapest_87 : decode cX9_chooseCheapest 87 = .ok (.goto (-64), 3) := by decide +kernel
theorem dX9_chooseCheapest_90 : decode cX9_chooseCheapest 90 = .ok (.iinc 2 1, 3) := by decide +kernel
theorem dX9_chooseCheapest_93 : decode cX9_chooseCheapest 93 = .ok (.goto (-80), 3) := by decide +kernel
theorem dX9_chooseCheapest_96 : decode cX9_chooseCheapest 96 = .ok (.aload_n 0, 1) := by decide +kernel
theorem dX9_chooseCheapest_97 : decode cX9_chooseCheapest 97 = .ok (.iconst 1, 1) := by decide +kernel
theorem dX9_chooseCheapest_98 : decode cX9_chooseCheapest 98 = .ok (.putfield 58, 3) := by decide +kernel
theorem dX9_chooseCheapest_101 : decode cX9_chooseCheapest 101 = .ok (.aload_n 0, 1) := by decide +kernel
theorem dX9_chooseCheapest_102 : decode cX9_chooseCheapest 102 = .ok (.iconst 0, 1) := by decide +kernel
theorem dX9_chooseCheapest_103 : decode cX9_chooseCheapest 103 = .ok (.putfield 62, 3) := by decide +kernel
theorem dX9_chooseCheapest_106 : decode cX9_chooseCheapest 106 = .ok (.aload_n 0, 1) := by decide +kernel
theorem dX9_chooseCheapest_107 : decode cX9_chooseCheapest 107 = .ok (.getfield 30, 3) := by decide +kernel
theorem dX9_chooseCheapest_110 : decode cX9_chooseCheapest 110 = .ok (.iconst 0, 1) := by decide +kernel
theorem dX9_chooseCheapest_111 : decode cX9_chooseCheapest 111 = .ok (.iaload, 1) := by decide +kernel
theorem dX9_chooseCheapest_112 : decode cX9_chooseCheapest 112 = .ok (.ireturn, 1) := by decide +kernel
abbrev rm_p_X9_chooseCheapest : Room := { frames := 0, cells := 0, slots := 0, locals := 0 }
set_option maxHeartbeats 4000000 in
set_option maxRecDepth 100000 in
theorem p_X9_chooseCheapest (l : Launch) (E : cE) (h0 : Nat) (ad : Nat → Nat) (gx : Nat → Int32) (gy : Nat → Int32) (gf : Nat → Int32) (v2 : Int32) (gt : Nat → Int32) (gh : Nat → Int32) (gc : Nat → Int32) : cM l E yX9_chooseCheapest cX9_chooseCheapest 5 (some .int) rm_p_X9_chooseCheapest [.ref (ad 61)] [((ad 61), ob 9 [.ref (ad 7), .ref (ad 30), .ref (ad 46), .ref (ad 62), .ref (ad 63), .ref (ad 64), .ref (ad 65), .ref (ad 66), .ref (ad 67), .ref (ad 68), .ref (ad 69), .int 0, .int 0, .int 0, .int (-1), .ref (ad 70), .int 0, .int 0])] (qI E (fun (r : Int32) (_u : Unit) => r = -1) (fun _ => [((ad 61), ob 9 [.ref (ad 7), .ref (ad 30), .ref (ad 46), .ref (ad 62), .ref (ad 63), .ref (ad 64), .ref (ad 65), .ref (ad 66), .ref (ad 67), .ref (ad 68), .ref (ad 69), .int 0, .int 0, .int 0, .int (-1), .ref (ad 70), .int 0, .int 0])])) := by
  refine cM_of (by decide) (Nat.le_of_ble_eq_true rfl) ?_
  intro p e s m below meth c ls A F hA hS hP hD hK hZ hl
  obtain ⟨hx, hb, hr, hml, hown, hts, hlk, hin⟩ := id F
  have hown : s.vm.findClass RX9 = some m.cls := hown
  have hl : lv_has ls 5 [(0, .ref (ad 61))] := hl
  refine lv_aload_n hx hb dX9_chooseCheapest_0 rfl (lv_at hl 0 rfl) ?_
  refine va_get (D := E.1) (ci := 9) (v := .int (-1)) (C := RX9) (T := TX9) (N := 18) hx hb hts iX9 hown hK hP 0 rfl rfl 14 (by decide) (hts _ wdF_RX9_39) (fun _ h9 => h9) rfl dX9_chooseCheapest_1 ?_
  refine lv_if_ge (tgt := 9) hx hb dX9_chooseCheapest_4 (by decide) (fun c_332 => absurd c_332 (by decide)) (fun c_332 => ?_)
  refine lv_iconst (v := (-1)) hx hb dX9_chooseCheapest_7 (by decide) ?_
  exact cI_ret F hP hD hS hK () rfl [0] rfl rfl dX9_chooseCheapest_8 (by decide) (by decide)
theorem yy_X9_chooseCheapest : cY yX9_chooseCheapest cX9_chooseCheapest 5 (some .int) 0 := ⟨wdK_X9_chooseCheapest, wdZ_RX9, by decide +kernel⟩
theorem yi_X9_chooseCheapest : cYi yX9_chooseCheapest := ⟨wdN_X9_chooseCheapest, wdS_X9_chooseCheapest⟩
theorem dX11_cheapest_0 : decode cX11_cheapest 0 = .ok (.aload_n 0, 1) := by decide +kernel
theorem dX11_cheapest_1 : decode cX11_cheapest 1 = .ok (.getfield 75, 3) := by decide +kernel
theorem dX11_cheapest_4 : decode cX11_cheapest 4 = .ok (.invokevirtual 239, 3) := by decide +kernel
theorem dX11_cheapest_7 : decode cX11_cheapest 7 = .ok (.ireturn, 1) := by decide +kernel
abbrev rm_p_X11_cheapest : Room := { frames := 1, cells := 0, slots := 0, locals := 24 }
set_option maxHeartbeats 4000000 in
set_option maxRecDepth 100000 in
theorem p_X11_cheapest (l : Launch) (E : cE) (h0 : Nat) (ad : Nat → Nat) (gx : Nat → Int32) (gy : Nat → Int32) (gf : Nat → Int32) (v2 : Int32) (gt : Nat → Int32) (gh : Nat → Int32) (gc : Nat → Int32) (hw1 : flo (stC 0) (2 * 4) gx gy gf) (hw3 : ∀ d, d < 2 * 4 → gt d = 0) (hw4 : ∀ d, d < 2 * 4 → gh d = nI (stC 0 d)) (hw5 : ∀ d, d < 2 * 4 → gc d = nI (stC 0 d)) : cM l E yX11_cheapest cX11_cheapest 1 (some .int) rm_p_X11_cheapest [.ref h0] [(h0, ob 11 [.ref (ad 0), .ref (ad 7), .ref (ad 28), .ref (ad 30), .ref (ad 76), .ref (ad 46), .ref (ad 55), .ref (ad 57), .ref (ad 59), .ref (ad 61), .ref (ad 80), .int 0, .int 0, .int 0, .int (-1), .int (-1), .int (-1)]), ((ad 61), ob 9 [.ref (ad 7), .ref (ad 30), .ref (ad 46), .ref (ad 62), .ref (ad 63), .ref (ad 64), .ref (ad 65), .ref (ad 66), .ref (ad 67), .ref (ad 68), .ref (ad 69), .int 0, .int 0, .int 0, .int (-1), .ref (ad 70), .int 0, .int 0])] (qI E (fun (r : Int32) (_u : Unit) => r = -1) (fun _ => [])) := by
  refine cM_of (by decide) (Nat.le_of_ble_eq_true rfl) ?_
  intro p e s m below meth c ls A F hA hS hP hD hK hZ hl
  obtain ⟨hx, hb, hr, hml, hown, hts, hlk, hin⟩ := id F
  have hown : s.vm.findClass RX11 = some m.cls := hown
  have hl : lv_has ls 1 [(0, .ref h0)] := hl
  refine lv_aload_n hx hb dX11_cheapest_0 rfl (lv_at hl 0 rfl) ?_
  refine va_get (D := E.1) (ci := 11) (v := .ref (ad 61)) (C := RX11) (T := TX11) (N := 17) hx hb hts iX11 hown hK hP 0 rfl rfl 9 (by decide) (hts _ wdF_RX11_75) (fun _ h9 => h9) rfl dX11_cheapest_1 ?_
  refine cI_go (wr := [(h0, ob 11 [.ref (ad 0), .ref (ad 7), .ref (ad 28), .ref (ad 30), .ref (ad 76), .ref (ad 46), .ref (ad 55), .ref (ad 57), .ref (ad 59), .ref (ad 61), .ref (ad 80), .int 0, .int 0, .int 0, .int (-1), .int (-1), .int (-1)])]) (cM_runV (As := []) (rest := []) F (p_X9_chooseCheapest l E h0 ad gx gy gf v2 gt gh gc) yy_X9_chooseCheapest yi_X9_chooseCheapest wdM_RX11_239 hP hD hS hK hZ hA [1] rfl rfl 1 9 rfl rfl rfl hl.1 rfl (Nat.le_of_ble_eq_true rfl) dX11_cheapest_4 ⟨by decide, by decide⟩ ⟨by decide, by decide⟩) hP hD hS hA [1] [0] rfl rfl rfl (by decide) (fun r_335 u_334 H locs hw_333 hP hD hS => ?_)
  try dsimp only at hw_333
  have hP : va_P E.1 vwCl [(h0, ob 11 [.ref (ad 0), .ref (ad 7), .ref (ad 28), .ref (ad 30), .ref (ad 76), .ref (ad 46), .ref (ad 55), .ref (ad 57), .ref (ad 59), .ref (ad 61), .ref (ad 80), .int 0, .int 0, .int 0, .int (-1), .int (-1), .int (-1)]), ((ad 61), ob 9 [.ref (ad 7), .ref (ad 30), .ref (ad 46), .ref (ad 62), .ref (ad 63), .ref (ad 64), .ref (ad 65), .ref (ad 66), .ref (ad 67), .ref (ad 68), .ref (ad 69), .int 0, .int 0, .int 0, .int (-1), .ref (ad 70), .int 0, .int 0])] H := hP
  have hD : va_D A [(h0, ob 11 [.ref (ad 0), .ref (ad 7), .ref (ad 28), .ref (ad 30), .ref (ad 76), .ref (ad 46), .ref (ad 55), .ref (ad 57), .ref (ad 59), .ref (ad 61), .ref (ad 80), .int 0, .int 0, .int 0, .int (-1), .int (-1), .int (-1)]), ((ad 61), ob 9 [.ref (ad 7), .ref (ad 30), .ref (ad 46), .ref (ad 62), .ref (ad 63), .ref (ad 64), .ref (ad 65), .ref (ad 66), .ref (ad 67), .ref (ad 68), .ref (ad 69), .int 0, .int 0, .int 0, .int (-1), .ref (ad 70), .int 0, .int 0])] := hD
  exact cI_ret F hP hD hS hK () hw_333 [] rfl rfl dX11_cheapest_7 (by decide) (by decide)
theorem yy_X11_cheapest : cY yX11_cheapest cX11_cheapest 1 (some .int) 0 := ⟨wdK_X11_cheapest, wdZ_RX11, by decide +kernel⟩
theorem yi_X11_cheapest : cYi yX11_cheapest := ⟨wdN_X11_cheapest, wdS_X11_cheapest⟩
theorem dX9_chosenStep_0 : decode cX9_chosenStep 0 = .ok (.aload_n 0, 1) := by decide +kernel
theorem dX9_chosenStep_1 : decode cX9_chosenStep 1 = .ok (.getfield 58, 3) := by decide +kernel
theorem dX9_chosenStep_4 : decode cX9_chosenStep 4 = .ok (.ifCond .eq 24, 3) := by decide +kernel
theorem dX9_chosenStep_7 : decode cX9_chosenStep 7 = .ok (.iload_n 1, 1) := by decide +kernel
theorem dX9_chosenStep_8 : decode cX9_chosenStep 8 = .ok (.ifCond .lt 20, 3) := by decide +kernel
theorem dX9_chosenStep_11 : decode cX9_chosenStep 11 = .ok (.iload_n 1, 1) := by decide +kernel
theorem dX9_chosenStep_12 : decode cX9_chosenStep 12 = .ok (.aload_n 0, 1) := by decide +kernel
theorem dX9_chosenStep_13 : decode cX9_chosenStep 13 = .ok (.getfield 39, 3) := by decide +kernel
theorem dX9_chosenStep_16 : decode cX9_chosenStep 16 = .ok (.if_icmp .ge 12, 3) := by decide +kernel
theorem dX9_chosenStep_19 : decode cX9_chosenStep 19 = .ok (.aload_n 0, 1) := by decide +kernel
theorem dX9_chosenStep_20 : decode cX9_chosenStep 20 = .ok (.getfield 43, 3) := by decide +kernel
theorem dX9_chosenStep_23 : decode cX9_chosenStep 23 = .ok (.iload_n 1, 1) := by decide +kernel
theorem dX9_chosenStep_24 : decode cX9_chosenStep 24 = .ok (.iaload, 1) := by decide +kernel
theorem dX9_chosenStep_25 : decode cX9_chosenStep 25 = .ok (.goto 4, 3) := by decide +kernel
theorem dX9_chosenStep_28 : decode cX9_chosenStep 28 = .ok (.iconst (-1), 1) := by decide +kernel
theorem dX9_chosenStep_29 : decode cX9_chosenStep 29 = .ok (.ireturn, 1) := by decide +kernel
abbrev rm_p_X9_chosenStep : Room := { frames := 0, cells := 0, slots := 0, locals := 0 }
set_option maxHeartbeats 4000000 in
set_option maxRecDepth 100000 in
theorem p_X9_chosenStep (l : Launch) (E : cE) (h0 : Nat) (ad : Nat → Nat) (gx : Nat → Int32) (gy : Nat → Int32) (gf : Nat → Int32) (v2 : Int32) (gt : Nat → Int32) (gh : Nat → Int32) (gc : Nat → Int32) (v : Int32) : cM l E yX9_chosenStep cX9_chosenStep 2 (some .int) rm_p_X9_chosenStep [.ref (ad 61), .int v] [((ad 61), ob 9 [.ref (ad 7), .ref (ad 30), .ref (ad 46), .ref (ad 62), .ref (ad 63), .ref (ad 64), .ref (ad 65), .ref (ad 66), .ref (ad 67), .ref (ad 68), .ref (ad 69), .int 0, .int 0, .int 0, .int (-1), .ref (ad 70), .int 0, .int 0])] (qI E (fun (r : Int32) (_u : Unit) => r = -1) (fun _ => [((ad 61), ob 9 [.ref (ad 7), .ref (ad 30), .ref (ad 46), .ref (ad 62), .ref (ad 63), .ref (ad 64), .ref (ad 65), .ref (ad 66), .ref (ad 67), .ref (ad 68), .ref (ad 69), .int 0, .int 0, .int 0, .int (-1), .ref (ad 70), .int 0, .int 0])])) := by
  refine cM_of (by decide) (Nat.le_of_ble_eq_true rfl) ?_
  intro p e s m below meth c ls A F hA hS hP hD hK hZ hl
  obtain ⟨hx, hb, hr, hml, hown, hts, hlk, hin⟩ := id F
  have hown : s.vm.findClass RX9 = some m.cls := hown
  have hl : lv_has ls 2 [(0, .ref (ad 61)), (1, .int v)] := hl
  refine lv_aload_n hx hb dX9_chosenStep_0 rfl (lv_at hl 0 rfl) ?_
  refine va_get (D := E.1) (ci := 9) (v := .int 0) (C := RX9) (T := TX9) (N := 18) hx hb hts iX9 hown hK hP 0 rfl rfl 16 (by decide) (hts _ wdF_RX9_58) (fun _ h9 => h9) rfl dX9_chosenStep_1 ?_
  refine lv_if_eq (tgt := 28) hx hb dX9_chosenStep_4 (by decide) (fun c_336 => ?_) (fun c_336 => absurd (by decide) c_336)
  refine lv_iconst (v := (-1)) hx hb dX9_chosenStep_28 (by decide) ?_
  exact cI_ret F hP hD hS hK () rfl [0] rfl rfl dX9_chosenStep_29 (by decide) (by decide)
theorem yy_X9_chosenStep : cY yX9_chosenStep cX9_chosenStep 2 (some .int) 1 := ⟨wdK_X9_chosenStep, wdZ_RX9, by decide +kernel⟩
theorem yi_X9_chosenStep : cYi yX9_chosenStep := ⟨wdN_X9_chosenStep, wdS_X9_chosenStep⟩
theorem dX11_found_0 : decode cX11_found 0 = .ok (.aload_n 0, 1) := by decide +kernel
theorem dX11_found_1 : decode cX11_found 1 = .ok (.getfield 75, 3) := by decide +kernel
theorem dX11_found_4 : decode cX11_found 4 = .ok (.iload_n 1, 1) := by decide +kernel
theorem dX11_found_5 : decode cX11_found 5 = .ok (.invokevirtual 242, 3) := by decide +kernel
theorem dX11_found_8 : decode cX11_found 8 = .ok (.ireturn, 1) := by decide +kernel
abbrev rm_p_X11_found : Room := { frames := 1, cells := 0, slots := 0, locals := 21 }
set_option maxHeartbeats 4000000 in
set_option maxRecDepth 100000 in
theorem p_X11_found (l : Launch) (E : cE) (h0 : Nat) (ad : Nat → Nat) (gx : Nat → Int32) (gy : Nat → Int32) (gf : Nat → Int32) (v2 : Int32) (gt : Nat → Int32) (gh : Nat → Int32) (gc : Nat → Int32) (v : Int32) (hw1 : flo (stC 0) (2 * 4) gx gy gf) (hw3 : ∀ d, d < 2 * 4 → gt d = 0) (hw4 : ∀ d, d < 2 * 4 → gh d = nI (stC 0 d)) (hw5 : ∀ d, d < 2 * 4 → gc d = nI (stC 0 d)) : cM l E yX11_found cX11_found 2 (some .int) rm_p_X11_found [.ref h0, .int v] [(h0, ob 11 [.ref (ad 0), .ref (ad 7), .ref (ad 28), .ref (ad 30), .ref (ad 76), .ref (ad 46), .ref (ad 55), .ref (ad 57), .ref (ad 59), .ref (ad 61), .ref (ad 80), .int 0, .int 0, .int 0, .int (-1), .int (-1), .int (-1)]), ((ad 61), ob 9 [.ref (ad 7), .ref (ad 30), .ref (ad 46), .ref (ad 62), .ref (ad 63), .ref (ad 64), .ref (ad 65), .ref (ad 66), .ref (ad 67), .ref (ad 68), .ref (ad 69), .int 0, .int 0, .int 0, .int (-1), .ref (ad 70), .int 0, .int 0])] (qI E (fun (r : Int32) (_u : Unit) => r = -1) (fun _ => [])) := by
  refine cM_of (by decide) (Nat.le_of_ble_eq_true rfl) ?_
  intro p e s m below meth c ls A F hA hS hP hD hK hZ hl
  obtain ⟨hx, hb, hr, hml, hown, hts, hlk, hin⟩ := id F
  have hown : s.vm.findClass RX11 = some m.cls := hown
  have hl : lv_has ls 2 [(0, .ref h0), (1, .int v)] := hl
  refine lv_aload_n hx hb dX11_found_0 rfl (lv_at hl 0 rfl) ?_
  refine va_get (D := E.1) (ci := 11) (v := .ref (ad 61)) (C := RX11) (T := TX11) (N := 17) hx hb hts iX11 hown hK hP 0 rfl rfl 9 (by decide) (hts _ wdF_RX11_75) (fun _ h9 => h9) rfl dX11_found_1 ?_
  refine lv_iload_n hx hb dX11_found_4 rfl (lv_at hl 1 rfl) ?_
  refine cI_go (wr := [(h0, ob 11 [.ref (ad 0), .ref (ad 7), .ref (ad 28), .ref (ad 30), .ref (ad 76), .ref (ad 46), .ref (ad 55), .ref (ad 57), .ref (ad 59), .ref (ad 61), .ref (ad 80), .int 0, .int 0, .int 0, .int (-1), .int (-1), .int (-1)])]) (cM_runV (As := [.int v]) (rest := []) F (p_X9_chosenStep l E h0 ad gx gy gf v2 gt gh gc v) yy_X9_chosenStep yi_X9_chosenStep wdM_RX11_242 hP hD hS hK hZ hA [1] rfl rfl 1 9 rfl rfl rfl hl.1 rfl (Nat.le_of_ble_eq_true rfl) dX11_found_5 ⟨by decide, by decide⟩ ⟨by decide, by decide⟩) hP hD hS hA [1] [0] rfl rfl rfl (by decide) (fun r_339 u_338 H locs hw_337 hP hD hS => ?_)
  try dsimp only at hw_337
  have hP : va_P E.1 vwCl [(h0, ob 11 [.ref (ad 0), .ref (ad 7), .ref (ad 28), .ref (ad 30), .ref (ad 76), .ref (ad 46), .ref (ad 55), .ref (ad 57), .ref (ad 59), .ref (ad 61), .ref (ad 80), .int 0, .int 0, .int 0, .int (-1), .int (-1), .int (-1)]), ((ad 61), ob 9 [.ref (ad 7), .ref (ad 30), .ref (ad 46), .ref (ad 62), .ref (ad 63), .ref (ad 64), .ref (ad 65), .ref (ad 66), .ref (ad 67), .ref (ad 68), .ref (ad 69), .int 0, .int 0, .int 0, .int (-1), .ref (ad 70), .int 0, .int 0])] H := hP
  have hD : va_D A [(h0, ob 11 [.ref (ad 0), .ref (ad 7), .ref (ad 28), .ref (ad 30), .ref (ad 76), .ref (ad 46), .ref (ad 55), .ref (ad 57), .ref (ad 59), .ref (ad 61), .ref (ad 80), .int 0, .int 0, .int 0, .int (-1), .int (-1), .int (-1)]), ((ad 61), ob 9 [.ref (ad 7), .ref (ad 30), .ref (ad 46), .ref (ad 62), .ref (ad 63), .ref (ad 64), .ref (ad 65), .ref (ad 66), .ref (ad 67), .ref (ad 68), .ref (ad 69), .int 0, .int 0, .int 0, .int (-1), .ref (ad 70), .int 0, .int 0])] := hD
  exact cI_ret F hP hD hS hK () hw_337 [] rfl rfl dX11_found_8 (by decide) (by decide)
theorem yy_X11_found : cY yX11_found cX11_found 2 (some .int) 1 := ⟨wdK_X11_found, wdZ_RX11, by decide +kernel⟩
theorem yi_X11_found : cYi yX11_found := ⟨wdN_X11_found, wdS_X11_found⟩
theorem dX11_follow_0 : decode cX11_follow 0 = .ok (.aload_n 0, 1) := by decide +kernel
theorem dX11_follow_1 : decode cX11_follow 1 = .ok (.getfield 75, 3) := by decide +kernel
theorem dX11_follow_4 : decode cX11_follow 4 = .ok (.aload_n 0, 1) := by decide +kernel
theorem dX11_follow_5 : decode cX11_follow 5 = .ok (.getfield 75, 3) := by decide +kernel
theorem dX11_follow_8 : decode cX11_follow 8 = .ok (.getfield 245, 3) := by decide +kernel
theorem dX11_follow_11 : decode cX11_follow 11 = .ok (.invokevirtual 242, 3) := by decide +kernel
theorem dX11_follow_14 : decode cX11_follow 14 = .ok (.istore_n 1, 1) := by decide +kernel
theorem dX11_follow_15 : decode cX11_follow 15 = .ok (.iload_n 1, 1) := by decide +kernel
theorem dX11_follow_16 : decode cX11_follow 16 = .ok (.ifCond .lt 14, 3) := by decide +kernel
theorem dX11_follow_19 : decode cX11_follow 19 = .ok (.iload_n 1, 1) := by decide +kernel
theorem dX11_follow_20 : decode cX11_follow 20 = .ok (.aload_n 0, 1) := by decide +kernel
theorem dX11_follow_21 : decode cX11_follow 21 = .ok (.getfield 19, 3) := by decide +kernel
theorem dX11_follow_24 : decode cX11_follow 24 = .ok (.getfield 211, 3) := by decide +kernel
theorem dX11_follow_27 : decode cX11_follow 27 = .ok (.if_icmp .lt 5, 3) := by decide +kernel
theorem dX11_follow_30 : decode cX11_follow 30 = .ok (.iconst (-1), 1) := by decide +kernel
theorem dX11_follow_31 : decode cX11_follow 31 = .ok (.ireturn, 1) := by decide +kernel
theorem dX11_follow_32 : decode cX11_follow 32 = .ok (.aload_n 0, 1) := by decide +kernel
theorem dX11_follow_33 : decode cX11_follow 33 = .ok (.aload_n 0, 1) := by decide +kernel
theorem dX11_follow_34 : decode cX11_follow 34 = .ok (.getfield 19, 3) := by decide +kernel
theorem dX11_follow_37 : decode cX11_follow 37 = .ok (.getfield 214, 3) := by decide +kernel
theorem dX11_follow_40 : decode cX11_follow 40 = .ok (.iload_n 1, 1) := by decide +kernel
theorem dX11_follow_41 : decode cX11_follow 41 = .ok (.iaload, 1) := by decide +kernel
theorem dX11_follow_42 : decode cX11_follow 42 = .ok (.invokevirtual 134, 3) := by decide +kernel
theorem dX11_follow_45 : decode cX11_follow 45 = .ok (.istore_n 2, 1) := by decide +kernel
theorem dX11_follow_46 : decode cX11_follow 46 = .ok (.iload_n 2, 1) := by decide +kernel
theorem dX11_follow_47 : decode cX11_follow 47 = .ok (.ifCond .ne 16, 3) := by decide +kernel
theorem dX11_follow_50 : decode cX11_follow 50 = .ok (.aload_n 0, 1) := by decide +kernel
theorem dX11_follow_51 : decode cX11_follow 51 = .ok (.getfield 75, 3) := by decide +kernel
theorem dX11_follow_54 : decode cX11_follow 54 = .ok (.dup, 1) := by decide +kernel
theorem dX11_follow_55 : decode cX11_follow 55 = .ok (.getfield 245, 3) := by decide +kernel
theorem dX11_follow_58 : decode cX11_follow 58 = .ok (.iconst 1, 1) := by decide +kernel
theorem dX11_follow_59 : decode cX11_follow 59 = .ok (.iadd, 1) := by decide +kernel
theorem dX11_follow_60 : decode cX11_follow 60 = .ok (.putfield 245, 3) := by decide +kernel
theorem dX11_follow_63 : decode cX11_follow 63 = .ok (.iload_n 2, 1) := by decide +kernel
theorem dX11_follow_64 : decode cX11_follow 64 = .ok (.ireturn, 1) := by decide +kernel
abbrev rm_p_X11_follow : Room := { frames := 1, cells := 0, slots := 0, locals := 21 }
set_option maxHeartbeats 4000000 in
set_option maxRecDepth 100000 in
theorem p_X11_follow (l : Launch) (E : cE) (h0 : Nat) (ad : Nat → Nat) (gx : Nat → Int32) (gy : Nat → Int32) (gf : Nat → Int32) (v2 : Int32) (gt : Nat → Int32) (gh : Nat → Int32) (gc : Nat → Int32) (hw1 : flo (stC 0) (2 * 4) gx gy gf) (hw3 : ∀ d, d < 2 * 4 → gt d = 0) (hw4 : ∀ d, d < 2 * 4 → gh d = nI (stC 0 d)) (hw5 : ∀ d, d < 2 * 4 → gc d = nI (stC 0 d)) : cM l E yX11_follow cX11_follow 3 (some .int) rm_p_X11_follow [.ref h0] [(h0, ob 11 [.ref (ad 0), .ref (ad 7), .ref (ad 28), .ref (ad 30), .ref (ad 76), .ref (ad 46), .ref (ad 55), .ref (ad 57), .ref (ad 59), .ref (ad 61), .ref (ad 80), .int 0, .int 0, .int 0, .int (-1), .int (-1), .int (-1)]), ((ad 61), ob 9 [.ref (ad 7), .ref (ad 30), .ref (ad 46), .ref (ad 62), .ref (ad 63), .ref (ad 64), .ref (ad 65), .ref (ad 66), .ref (ad 67), .ref (ad 68), .ref (ad 69), .int 0, .int 0, .int 0, .int (-1), .ref (ad 70), .int 0, .int 0])] (qI E (fun (r : Int32) (_u : Unit) => r = -1) (fun _ => [])) := by
  refine cM_of (by decide) (Nat.le_of_ble_eq_true rfl) ?_
  intro p e s m below meth c ls A F hA hS hP hD hK hZ hl
  obtain ⟨hx, hb, hr, hml, hown, hts, hlk, hin⟩ := id F
  have hown : s.vm.findClass RX11 = some m.cls := hown
  have hl : lv_has ls 3 [(0, .ref h0)] := hl
  refine lv_aload_n hx hb dX11_follow_0 rfl (lv_at hl 0 rfl) ?_
  refine va_get (D := E.1) (ci := 11) (v := .ref (ad 61)) (C := RX11) (T := TX11) (N := 17) hx hb hts iX11 hown hK hP 0 rfl rfl 9 (by decide) (hts _ wdF_RX11_75) (fun _ h9 => h9) rfl dX11_follow_1 ?_
  refine lv_aload_n hx hb dX11_follow_4 rfl (lv_at hl 0 rfl) ?_
  refine va_get (D := E.1) (ci := 11) (v := .ref (ad 61)) (C := RX11) (T := TX11) (N := 17) hx hb hts iX11 hown hK hP 0 rfl rfl 9 (by decide) (hts _ wdF_RX11_75) (fun _ h9 => h9) rfl dX11_follow_5 ?_
  refine va_get (D := E.1) (ci := 9) (v := .int 0) (C := RX9) (T := TX9) (N := 18) hx hb hts iX9 hown hK hP 1 rfl rfl 17 (by decide) (hts _ wdF_RX11_245) (fun _ h9 => h9) rfl dX11_follow_8 ?_
  refine cI_go (wr := [(h0, ob 11 [.ref (ad 0), .ref (ad 7), .ref (ad 28), .ref (ad 30), .ref (ad 76), .ref (ad 46), .ref (ad 55), .ref (ad 57), .ref (ad 59), .ref (ad 61), .ref (ad 80), .int 0, .int 0, .int 0, .int (-1), .int (-1), .int (-1)])]) (cM_runV (As := [.int 0]) (rest := []) F (p_X9_chosenStep l E h0 ad gx gy gf v2 gt gh gc 0) yy_X9_chosenStep yi_X9_chosenStep wdM_RX11_242 hP hD hS hK hZ hA [1] rfl rfl 1 9 rfl rfl rfl hl.1 rfl (Nat.le_of_ble_eq_true rfl) dX11_follow_11 ⟨by decide, by decide⟩ ⟨by decide, by decide⟩) hP hD hS hA [1] [0] rfl rfl rfl (by decide) (fun r_342 u_341 H locs hw_340 hP hD hS => ?_)
  try dsimp only at hw_340
  have hP : va_P E.1 vwCl [(h0, ob 11 [.ref (ad 0), .ref (ad 7), .ref (ad 28), .ref (ad 30), .ref (ad 76), .ref (ad 46), .ref (ad 55), .ref (ad 57), .ref (ad 59), .ref (ad 61), .ref (ad 80), .int 0, .int 0, .int 0, .int (-1), .int (-1), .int (-1)]), ((ad 61), ob 9 [.ref (ad 7), .ref (ad 30), .ref (ad 46), .ref (ad 62), .ref (ad 63), .ref (ad 64), .ref (ad 65), .ref (ad 66), .ref (ad 67), .ref (ad 68), .ref (ad 69), .int 0, .int 0, .int 0, .int (-1), .ref (ad 70), .int 0, .int 0])] H := hP
  have hD : va_D A [(h0, ob 11 [.ref (ad 0), .ref (ad 7), .ref (ad 28), .ref (ad 30), .ref (ad 76), .ref (ad 46), .ref (ad 55), .ref (ad 57), .ref (ad 59), .ref (ad 61), .ref (ad 80), .int 0, .int 0, .int 0, .int (-1), .int (-1), .int (-1)]), ((ad 61), ob 9 [.ref (ad 7), .ref (ad 30), .ref (ad 46), .ref (ad 62), .ref (ad 63), .ref (ad 64), .ref (ad 65), .ref (ad 66), .ref (ad 67), .ref (ad 68), .ref (ad 69), .int 0, .int 0, .int 0, .int (-1), .ref (ad 70), .int 0, .int 0])] := hD
  subst hw_340
  refine lv_istore_n (lv' := [(1, .int (-1)), (0, .ref h0)]) hx hb dX11_follow_14 rfl hl (by decide) rfl (fun ls hl => ?_)
  refine lv_iload_n hx hb dX11_follow_15 rfl (lv_at hl 0 rfl) ?_
  refine lv_if_lt (tgt := 30) hx hb dX11_follow_16 (by decide) (fun c_343 => ?_) (fun c_343 => absurd (by decide) c_343)
  refine lv_iconst (v := (-1)) hx hb dX11_follow_30 (by decide) ?_
  exact cI_ret F hP hD hS hK () rfl [] rfl rfl dX11_follow_31 (by decide) (by decide)
theorem yy_X11_follow : cY yX11_follow cX11_follow 3 (some .int) 0 := ⟨wdK_X11_follow, wdZ_RX11, by decide +kernel⟩
theorem yi_X11_follow : cYi yX11_follow := ⟨wdN_X11_follow, wdS_X11_follow⟩
theorem dX11_times_0 : decode cX11_times 0 = .ok (.iload_n 1, 1) := by decide +kernel
theorem dX11_times_1 : decode cX11_times 1 = .ok (.ifCond .lt 25, 3) := by decide +kernel
theorem dX11_times_4 : decode cX11_times 4 = .ok (.iload_n 1, 1) := by decide +kernel
theorem dX11_times_5 : decode cX11_times 5 = .ok (.aload_n 0, 1) := by decide +kernel
theorem dX11_times_6 : decode cX11_times 6 = .ok (.getfield 19, 3) := by decide +kernel
theorem dX11_times_9 : decode cX11_times 9 = .ok (.getfield 164, 3) := by decide +kernel
theorem dX11_times_12 : decode cX11_times 12 = .ok (.getfield 168, 3) := by decide +kernel
theorem dX11_times_15 : decode cX11_times 15 = .ok (.if_icmp .ge 11, 3) := by decide +kernel
theorem dX11_times_18 : decode cX11_times 18 = .ok (.iload_n 2, 1) := by decide +kernel
theorem dX11_times_19 : decode cX11_times 19 = .ok (.iload_n 3, 1) := by decide +kernel
theorem dX11_times_20 : decode cX11_times 20 = .ok (.invokestatic 144, 3) := by decide +kernel
theorem dX11_times_23 : decode cX11_times 23 = .ok (.ifCond .ne 5, 3) := by decide +kernel
theorem dX11_times_26 : decode cX11_times 26 = .ok (.iconst (-1), 1) := by decide +kernel
theorem dX11_times_27 : decode cX11_times 27 = .ok (.ireturn, 1) := by decide +kernel
theorem dX11_times_28 : decode cX11_times 28 = .ok (.aload_n 0, 1) := by decide +kernel
theorem dX11_times_29 : decode cX11_times 29 = .ok (.getfield 48, 3) := by decide +kernel
theorem dX11_times_32 : decode cX11_times 32 = .ok (.iload_n 2, 1) := by decide +kernel
theorem dX11_times_33 : decode cX11_times 33 = .ok (.iload_n 3, 1) := by decide +kernel
theorem dX11_times_34 : decode cX11_times 34 = .ok (.invokevirtual 93, 3) := by decide +kernel
theorem dX11_times_37 : decode cX11_times 37 = .ok (.aload_n 0, 1) := by decide +kernel
theorem dX11_times_38 : decode cX11_times 38 = .ok (.getfield 60, 3) := by decide +kernel
theorem dX11_times_41 : decode cX11_times 41 = .ok (.invokevirtual 248, 3) := by decide +kernel
theorem dX11_times_44 : decode cX11_times 44 = .ok (.iconst 1, 1) := by decide +kernel
theorem dX11_times_45 : decode cX11_times 45 = .ok (.istore 4, 2) := by decide +kernel
theorem dX11_times_47 : decode cX11_times 47 = .ok (.iload 4, 2) := by decide +kernel
theorem dX11_times_49 : decode cX11_times 49 = .ok (.bipush 100, 2) := by decide +kernel
theorem dX11_times_51 : decode cX11_times 51 = .ok (.if_icmp .gt 100, 3) := by decide +kernel
theorem dX11_times_54 : decode cX11_times 54 = .ok (.aload_n 0, 1) := by decide +kernel
theorem dX11_times_55 : decode cX11_times 55 = .ok (.getfield 60, 3) := by decide +kernel
theorem dX11_times_58 : decode cX11_times 58 = .ok (.iload_n 1, 1) := by decide +kernel
theorem dX11_times_59 : decode cX11_times 59 = .ok (.aload_n 0, 1) := by decide +kernel
theorem dX11_times_60 : decode cX11_times 60 = .ok (.getfield 48, 3) := by decide +kernel
theorem dX11_times_63 : decode cX11_times 63 = .ok (.invokevirtual 173, 3) := by decide +kernel
theorem dX11_times_66 : decode cX11_times 66 = .ok (.invokevirtual 177, 3) := by decide +kernel
theorem dX11_times_69 : decode cX11_times 69 = .ok (.iconst 1, 1) := by decide +kernel
theorem dX11_times_70 : decode cX11_times 70 = .ok (.istore 5, 2) := by decide +kernel
theorem dX11_times_72 : decode cX11_times 72 = .ok (.iconst 0, 1) := by decide +kernel
theorem dX11_times_73 : decode cX11_times 73 = .ok (.istore 6, 2) := by decide +kernel
theorem dX11_times_75 : decode cX11_times 75 = .ok (.iload 6, 2) := by decide +kernel
theorem dX11_times_77 : decode cX11_times 77 = .ok (.ldc 251, 2) := by decide +kernel
theorem dX11_times_79 : decode cX11_times 79 = .ok (.if_icmp .ge 28, 3) := by decide +kernel
theorem dX11_times_82 : decode cX11_times 82 = .ok (.iload 5, 2) := by decide +kernel
theorem dX11_times_84 : decode cX11_times 84 = .ok (.iconst 1, 1) := by decide +kernel
theorem dX11_times_85 : decode cX11_times 85 = .ok (.if_icmp .ne 22, 3) := by decide +kernel
theorem dX11_times_88 : decode cX11_times 88 = .ok (.aload_n 0, 1) := by decide +kernel
theorem dX11_times_89 : decode cX11_times 89 = .ok (.getfield 60, 3) := by decide +kernel
theorem dX11_times_92 : decode cX11_times 92 = .ok (.aload_n 0, 1) := by decide +kernel
theorem dX11_times_93 : decode cX11_times 93 = .ok (.getfield 48, 3) := by decide +kernel
theorem dX11_times_96 : decode cX11_times 96 = .ok (.invokevirtual 185, 3) := by decide +kernel
theorem dX11_times_99 : decode cX11_times 99 = .ok (.istore 5, 2) := by decide +kernel
theorem dX11_times_101 : decode cX11_times 101 = .ok (.iinc 6 1, 3) := by decide +kernel
theorem dX11_times_104 : decode cX11_times 104 = .ok (.goto (-29), 3) := by decide +kernel
theorem dX11_times_107 : decode cX11_times 107 = .ok (.iload 5, 2) := by decide +kernel
theorem dX11_times_109 : decode cX11_times 109 = .ok (.ifCond .eq 16, 3) := by decide +kernel
theorem dX11_times_112 : decode cX11_times 112 = .ok (.iload 5, 2) := by decide +kernel
theorem dX11_times_114 : decode cX11_times 114 = .ok (.iconst 4, 1) := by decide +kernel
theorem dX11_times_115 : decode cX11_times 115 = .ok (.if_icmp .ne 8, 3) := by decide +kernel
theorem dX11_times_118 : decode cX11_times 118 = .ok (.bipush (-2), 2) := by decide +kernel
theorem dX11_times_120 : decode cX11_times 120 = .ok (.goto 4, 3) := by decide +kernel
theorem dX11_times_123 : decode cX11_times 123 = .ok (.iconst (-1), 1) := by decide +kernel
theorem dX11_times_124 : decode cX11_times 124 = .ok (.ireturn, 1) := by decide +kernel
theorem dX11_times_125 : decode cX11_times 125 = .ok (.aload_n 0, 1) := by decide +kernel
theorem dX11_times_126 : decode cX11_times 126 = .ok (.getfield 48, 3) := by decide +kernel
theorem dX11_times_129 : decode cX11_times 129 = .ok (.aload_n 0, 1) := by decide +kernel
theorem dX11_times_130 : decode cX11_times 130 = .ok (.getfield 48, 3) := by decide +kernel
theorem dX11_times_133 : decode cX11_times 133 = .ok (.getfield 252, 3) := by decide +kernel
theorem dX11_times_136 : decode cX11_times 136 = .ok (.invokevirtual 255, 3) := by decide +kernel
theorem dX11_times_139 : decode cX11_times 139 = .ok (.ifCond .eq 6, 3) := by decide +kernel
theorem dX11_times_142 : decode cX11_times 142 = .ok (.iload 4, 2) := by decide +kernel
theorem dX11_times_144 : decode cX11_times 144 = .ok (.ireturn, 1) := by decide +kernel
theorem dX11_times_145 : decode cX11_times 145 = .ok (.iinc 4 1, 3) := by decide +kernel
theorem dX11_times_148 : decode cX11_times 148 = .ok (.goto (-101), 3) := by decide +kernel
theorem dX11_times_151 : decode cX11_times 151 = .ok (.iconst (-1), 1) := by decide +kernel
theorem dX11_times_152 : decode cX11_times 152 = .ok (.ireturn, 1) := by decide +kernel
abbrev rm_p_X11_times : Room := { frames := 0, cells := 0, slots := 0, locals := 0 }
set_option maxHeartbeats 4000000 in
set_option maxRecDepth 100000 in
theorem p_X11_times (l : Launch) (E : cE) (h0 : Nat) (ad : Nat → Nat) (gx : Nat → Int32) (gy : Nat → Int32) (gf : Nat → Int32) (v2 : Int32) (gt : Nat → Int32) (gh : Nat → Int32) (gc : Nat → Int32) (v : Int32) (u : Int32) (n : Int32) (hw1 : flo (stC 0) (2 * 4) gx gy gf) (hw3 : ∀ d, d < 2 * 4 → gt d = 0) (hw4 : ∀ d, d < 2 * 4 → gh d = nI (stC 0 d)) (hw5 : ∀ d, d < 2 * 4 → gc d = nI (stC 0 d)) : cM l E yX11_times cX11_times 7 (some .int) rm_p_X11_times [.ref h0, .int v, .int u, .int n] [(h0, ob 11 [.ref (ad 0), .ref (ad 7), .ref (ad 28), .ref (ad 30), .ref (ad 76), .ref (ad 46), .ref (ad 55), .ref (ad 57), .ref (ad 59), .ref (ad 61), .ref (ad 80), .int 0, .int 0, .int 0, .int (-1), .int (-1), .int (-1)]), ((ad 7), ob 0 [.ref (ad 8), .ref (ad 10), .ref (ad 12), .ref (ad 14), .ref (ad 15), .ref (ad 16), .ref (ad 17), .ref (ad 18), .ref (ad 19), .ref (ad 20), .ref (ad 21), .ref (ad 22), .ref (ad 23), .ref (ad 24), .ref (ad 25), .ref (ad 26), .int 0, .ref (ad 27), .int 0, .int 0]), ((ad 12), ob 6 [.ref (ad 13), .int (nI 60), .int 0])] (qI E (fun (r : Int32) (_u : Unit) => r = -1) (fun _ => [])) := by
  refine cM_of (by decide) (Nat.le_of_ble_eq_true rfl) ?_
  intro p e s m below meth c ls A F hA hS hP hD hK hZ hl
  obtain ⟨hx, hb, hr, hml, hown, hts, hlk, hin⟩ := id F
  have hown : s.vm.findClass RX11 = some m.cls := hown
  have hl : lv_has ls 7 [(0, .ref h0), (1, .int v), (2, .int u), (3, .int n)] := hl
  refine lv_iload_n hx hb dX11_times_0 rfl (lv_at hl 1 rfl) ?_
  refine lv_if_lt (tgt := 26) hx hb dX11_times_1 (by decide) (fun c1 => ?_) (fun c1 => ?_)
  · refine lv_iconst (v := (-1)) hx hb dX11_times_26 (by decide) ?_
    exact cI_ret F hP hD hS hK () rfl [] rfl rfl dX11_times_27 (by decide) (by decide)
  · refine lv_iload_n hx hb dX11_times_4 rfl (lv_at hl 1 rfl) ?_
    refine lv_aload_n hx hb dX11_times_5 rfl (lv_at hl 0 rfl) ?_
    refine va_get (D := E.1) (ci := 11) (v := .ref (ad 7)) (C := RX11) (T := TX11) (N := 17) hx hb hts iX11 hown hK hP 0 rfl rfl 1 (by decide) (hts _ wdF_RX11_19) (fun _ h9 => h9) rfl dX11_times_6 ?_
    refine va_get (D := E.1) (ci := 0) (v := .ref (ad 12)) (C := RX0) (T := TX0) (N := 20) hx hb hts iX0 hown hK hP 1 rfl rfl 2 (by decide) (hts _ wdF_RX11_164) (fun _ h9 => h9) rfl dX11_times_9 ?_
    refine va_get (D := E.1) (ci := 6) (v := .int 0) (C := RX6) (T := TX6) (N := 3) hx hb hts iX6 hown hK hP 2 rfl rfl 2 (by decide) (hts _ wdF_RX11_168) (fun _ h9 => h9) rfl dX11_times_12 ?_
    refine lv_icmp_ge (tgt := 26) hx hb dX11_times_15 (by decide) (fun c_344 => ?_) (fun c_344 => absurd (Int32.not_lt.mp c1) c_344)
    refine lv_iconst (v := (-1)) hx hb dX11_times_26 (by decide) ?_
    exact cI_ret F hP hD hS hK () rfl [] rfl rfl dX11_times_27 (by decide) (by decide)
theorem yy_X11_times : cY yX11_times cX11_times 7 (some .int) 3 := ⟨wdK_X11_times, wdZ_RX11, by decide +kernel⟩
theorem yi_X11_times : cYi yX11_times := ⟨wdN_X11_times, wdS_X11_times⟩
theorem dX11_dancer_0 : decode cX11_dancer 0 = .ok (.iload_n 1, 1) := by decide +kernel
theorem dX11_dancer_1 : decode cX11_dancer 1 = .ok (.ifCond .lt 14, 3) := by decide +kernel
theorem dX11_dancer_4 : decode cX11_dancer 4 = .ok (.iload_n 1, 1) := by decide +kernel
theorem dX11_dancer_5 : decode cX11_dancer 5 = .ok (.aload_n 0, 1) := by decide +kernel
theorem dX11_dancer_6 : decode cX11_dancer 6 = .ok (.getfield 44, 3) := by decide +kernel
theorem dX11_dancer_9 : decode cX11_dancer 9 = .ok (.getfield 221, 3) := by decide +kernel
theorem dX11_dancer_12 : decode cX11_dancer 12 = .ok (.if_icmp .lt 5, 3) := by decide +kernel
theorem dX11_dancer_15 : decode cX11_dancer 15 = .ok (.iconst (-1), 1) := by decide +kernel
theorem dX11_dancer_16 : decode cX11_dancer 16 = .ok (.ireturn, 1) := by decide +kernel
theorem dX11_dancer_17 : decode cX11_dancer 17 = .ok (.iload_n 2, 1) := by decide +kernel
theorem dX11_dancer_18 : decode cX11_dancer 18 = .ok (.tableswitch 70 0 3 #[30, 40, 50, 60], 30) := by decide +kernel
theorem dX11_dancer_48 : decode cX11_dancer 48 = .ok (.aload_n 0, 1) := by decide +kernel
theorem dX11_dancer_49 : decode cX11_dancer 49 = .ok (.getfield 44, 3) := by decide +kernel
theorem dX11_dancer_52 : decode cX11_dancer 52 = .ok (.getfield 259, 3) := by decide +kernel
theorem dX11_dancer_55 : decode cX11_dancer 55 = .ok (.iload_n 1, 1) := by decide +kernel
theorem dX11_dancer_56 : decode cX11_dancer 56 = .ok (.iaload, 1) := by decide +kernel
theorem dX11_dancer_57 : decode cX11_dancer 57 = .ok (.ireturn, 1) := by decide +kernel
theorem dX11_dancer_58 : decode cX11_dancer 58 = .ok (.aload_n 0, 1) := by decide +kernel
theorem dX11_dancer_59 : decode cX11_dancer 59 = .ok (.getfield 44, 3) := by decide +kernel
theorem dX11_dancer_62 : decode cX11_dancer 62 = .ok (.getfield 262, 3) := by decide +kernel
theorem dX11_dancer_65 : decode cX11_dancer 65 = .ok (.iload_n 1, 1) := by decide +kernel
theorem dX11_dancer_66 : decode cX11_dancer 66 = .ok (.iaload, 1) := by decide +kernel
theorem dX11_dancer_67 : decode cX11_dancer 67 = .ok (.ireturn, 1) := by decide +kernel
theorem dX11_dancer_68 : decode cX11_dancer 68 = .ok (.aload_n 0, 1) := by decide +kernel
theorem dX11_dancer_69 : decode cX11_dancer 69 = .ok (.getfield 44, 3) := by decide +kernel
theorem dX11_dancer_72 : decode cX11_dancer 72 = .ok (.getfield 265, 3) := by decide +kernel
theorem dX11_dancer_75 : decode cX11_dancer 75 = .ok (.iload_n 1, 1) := by decide +kernel
theorem dX11_dancer_76 : decode cX11_dancer 76 = .ok (.iaload, 1) := by decide +kernel
theorem dX11_dancer_77 : decode cX11_dancer 77 = .ok (.ireturn, 1) := by decide +kernel
theorem dX11_dancer_78 : decode cX11_dancer 78 = .ok (.aload_n 0, 1) := by decide +kernel
theorem dX11_dancer_79 : decode cX11_dancer 79 = .ok (.getfield 44, 3) := by decide +kernel
theorem dX11_dancer_82 : decode cX11_dancer 82 = .ok (.getfield 268, 3) := by decide +kernel
theorem dX11_dancer_85 : decode cX11_dancer 85 = .ok (.iload_n 1, 1) := by decide +kernel
theorem dX11_dancer_86 : decode cX11_dancer 86 = .ok (.iaload, 1) := by decide +kernel
theorem dX11_dancer_87 : decode cX11_dancer 87 = .ok (.ireturn, 1) := by decide +kernel
theorem dX11_dancer_88 : decode cX11_dancer 88 = .ok (.iconst (-1), 1) := by decide +kernel
theorem dX11_dancer_89 : decode cX11_dancer 89 = .ok (.ireturn, 1) := by decide +kernel
abbrev rm_p_X11_dancer : Room := { frames := 0, cells := 0, slots := 0, locals := 0 }
set_option maxHeartbeats 4000000 in
set_option maxRecDepth 100000 in
theorem p_X11_dancer (l : Launch) (E : cE) (h0 : Nat) (ad : Nat → Nat) (gx : Nat → Int32) (gy : Nat → Int32) (gf : Nat → Int32) (v2 : Int32) (gt : Nat → Int32) (gh : Nat → Int32) (gc : Nat → Int32) (v : Int32) (u : Int32) (hw1 : flo (stC 0) (2 * 4) gx gy gf) (hw3 : ∀ d, d < 2 * 4 → gt d = 0) (hw4 : ∀ d, d < 2 * 4 → gh d = nI (stC 0 d)) (hw5 : ∀ d, d < 2 * 4 → gc d = nI (stC 0 d)) : cM l E yX11_dancer cX11_dancer 3 (some .int) rm_p_X11_dancer [.ref h0, .int v, .int u] [(h0, ob 11 [.ref (ad 0), .ref (ad 7), .ref (ad 28), .ref (ad 30), .ref (ad 76), .ref (ad 46), .ref (ad 55), .ref (ad 57), .ref (ad 59), .ref (ad 61), .ref (ad 80), .int 0, .int 0, .int 0, .int (-1), .int (-1), .int (-1)]), ((ad 76), ob 3 [.ref (ad 77), .ref (ad 78), .ref (ad 79), .ref (ad 71), .ref (ad 72), .ref (ad 73), .ref (ad 74), .ref (ad 75), .int (nI (2 * 4)), .int v2]), ((ad 77), aI E 64 gx), ((ad 78), aI E 64 gy), ((ad 79), aI E 64 gf), ((ad 71), aI E 64 gt)] (qI E (fun (r : Int32) (_u : Unit) => r = dncF v u) (fun _ => [])) := by
  refine cM_of (by decide) (Nat.le_of_ble_eq_true rfl) ?_
  intro p e s m below meth c ls A F hA hS hP hD hK hZ hl
  obtain ⟨hx, hb, hr, hml, hown, hts, hlk, hin⟩ := id F
  have hown : s.vm.findClass RX11 = some m.cls := hown
  have hl : lv_has ls 3 [(0, .ref h0), (1, .int v), (2, .int u)] := hl
  refine lv_iload_n hx hb dX11_dancer_0 rfl (lv_at hl 1 rfl) ?_
  refine lv_if_lt (tgt := 15) hx hb dX11_dancer_1 (by decide) (fun c1 => ?_) (fun c1 => ?_)
  · refine lv_iconst (v := (-1)) hx hb dX11_dancer_15 (by decide) ?_
    exact cI_ret F hP hD hS hK () (by unfold dncF; rw [if_pos c1]) [] rfl rfl dX11_dancer_16 (by decide) (by decide)
  · refine lv_iload_n hx hb dX11_dancer_4 rfl (lv_at hl 1 rfl) ?_
    refine lv_aload_n hx hb dX11_dancer_5 rfl (lv_at hl 0 rfl) ?_
    refine va_get (D := E.1) (ci := 11) (v := .ref (ad 76)) (C := RX11) (T := TX11) (N := 17) hx hb hts iX11 hown hK hP 0 rfl rfl 4 (by decide) (hts _ wdF_RX11_44) (fun _ h9 => h9) rfl dX11_dancer_6 ?_
    refine va_get (D := E.1) (ci := 3) (v := .int (nI (2 * 4))) (C := RX3) (T := TX3) (N := 10) hx hb hts iX3 hown hK hP 1 rfl rfl 8 (by decide) (hts _ wdF_RX11_221) (fun _ h9 => h9) rfl dX11_dancer_9 ?_
    refine lv_icmp_lt (tgt := 17) hx hb dX11_dancer_12 (by decide) (fun c2 => ?_) (fun c2 => ?_)
    · obtain ⟨j, hj, rfl⟩ : ∃ j, j < 8 ∧ v = nI j := by
        rcases pk_ix v (show 8 < 2 ^ 31 by decide) with h | h | h
        · exact absurd h c1
        · exact absurd c2 (Int32.not_lt.mpr h)
        · exact h
      have hcl : (nI j).toNatClampNeg = j := nI_clamp (by omega)
      have hd : ∀ u, dncF (nI j) u = if u = nI 0 then nI (4 * (stC 0 j / 4 % 64)) else if u = nI 1 then nI (4 * (stC 0 j / 256)) else if u = nI 2 then nI (stC 0 j % 4) else if u = nI 3 then 0 else -1 := fun u => by unfold dncF; rw [if_neg c1, if_neg (Int32.not_le.mpr c2), hcl]
      obtain ⟨-, hq1, hq2, hq3⟩ := hw1 j (by omega)
      refine lv_iload_n hx hb dX11_dancer_17 rfl (lv_at hl 2 rfl) ?_
      rcases sw_cases u 4 (by decide) with hsw | ⟨j9, hj9, hsw⟩
      · refine lv_tableOut (tgt := 88) hx hb dX11_dancer_18 hsw (by decide) ?_
        refine lv_iconst (v := (-1)) hx hb dX11_dancer_88 (by decide) ?_
        have hu : ∀ k, k < 4 → ¬ u = nI k := fun k hk e => by rw [e, nI_toInt (by omega)] at hsw; omega
        exact cI_ret F hP hD hS hK () (by rw [hd, if_neg (hu 0 (by decide)), if_neg (hu 1 (by decide)), if_neg (hu 2 (by decide)), if_neg (hu 3 (by decide))]) [] rfl rfl dX11_dancer_89 (by decide) (by decide)
      · subst hsw
        rcases (show j9 = 0 ∨ j9 = 1 ∨ j9 = 2 ∨ j9 = 3 by omega) with rfl | rfl | rfl | rfl
        · refine lv_tableIn (tgt := 48) hx hb dX11_dancer_18 (by decide) (by decide) (off := 30) (by decide) (by decide) ?_
          refine lv_aload_n hx hb dX11_dancer_48 rfl (lv_at hl 0 rfl) ?_
          refine va_get (D := E.1) (ci := 11) (v := .ref (ad 76)) (C := RX11) (T := TX11) (N := 17) hx hb hts iX11 hown hK hP 0 rfl rfl 4 (by decide) (hts _ wdF_RX11_44) (fun _ h9 => h9) rfl dX11_dancer_49 ?_
          refine va_get (D := E.1) (ci := 3) (v := .ref (ad 77)) (C := RX3) (T := TX3) (N := 10) hx hb hts iX3 hown hK hP 1 rfl rfl 0 (by decide) (hts _ wdF_RX11_259) (fun _ h9 => h9) rfl dX11_dancer_52 ?_
          refine lv_iload_n hx hb dX11_dancer_55 rfl (lv_at hl 1 rfl) ?_
          refine va_iald hx hb hK hP 2 1 rfl rfl (vp_in_nI (by omega) (by decide)) dX11_dancer_56 ?_
          rw [nI_clamp (n := j) (by omega)]
          exact cI_ret F hP hD hS hK () (hq1.trans (by rw [hd, if_pos rfl])) [] rfl rfl dX11_dancer_57 (by decide) (by decide)
        · refine lv_tableIn (tgt := 58) hx hb dX11_dancer_18 (by decide) (by decide) (off := 40) (by decide) (by decide) ?_
          refine lv_aload_n hx hb dX11_dancer_58 rfl (lv_at hl 0 rfl) ?_
          refine va_get (D := E.1) (ci := 11) (v := .ref (ad 76)) (C := RX11) (T := TX11) (N := 17) hx hb hts iX11 hown hK hP 0 rfl rfl 4 (by decide) (hts _ wdF_RX11_44) (fun _ h9 => h9) rfl dX11_dancer_59 ?_
          refine va_get (D := E.1) (ci := 3) (v := .ref (ad 78)) (C := RX3) (T := TX3) (N := 10) hx hb hts iX3 hown hK hP 1 rfl rfl 1 (by decide) (hts _ wdF_RX11_262) (fun _ h9 => h9) rfl dX11_dancer_62 ?_
          refine lv_iload_n hx hb dX11_dancer_65 rfl (lv_at hl 1 rfl) ?_
          refine va_iald hx hb hK hP 3 1 rfl rfl (vp_in_nI (by omega) (by decide)) dX11_dancer_66 ?_
          rw [nI_clamp (n := j) (by omega)]
          exact cI_ret F hP hD hS hK () (hq2.trans (by rw [hd, if_neg (by decide), if_pos rfl])) [] rfl rfl dX11_dancer_67 (by decide) (by decide)
        · refine lv_tableIn (tgt := 68) hx hb dX11_dancer_18 (by decide) (by decide) (off := 50) (by decide) (by decide) ?_
          refine lv_aload_n hx hb dX11_dancer_68 rfl (lv_at hl 0 rfl) ?_
          refine va_get (D := E.1) (ci := 11) (v := .ref (ad 76)) (C := RX11) (T := TX11) (N := 17) hx hb hts iX11 hown hK hP 0 rfl rfl 4 (by decide) (hts _ wdF_RX11_44) (fun _ h9 => h9) rfl dX11_dancer_69 ?_
          refine va_get (D := E.1) (ci := 3) (v := .ref (ad 79)) (C := RX3) (T := TX3) (N := 10) hx hb hts iX3 hown hK hP 1 rfl rfl 2 (by decide) (hts _ wdF_RX11_265) (fun _ h9 => h9) rfl dX11_dancer_72 ?_
          refine lv_iload_n hx hb dX11_dancer_75 rfl (lv_at hl 1 rfl) ?_
          refine va_iald hx hb hK hP 4 1 rfl rfl (vp_in_nI (by omega) (by decide)) dX11_dancer_76 ?_
          rw [nI_clamp (n := j) (by omega)]
          exact cI_ret F hP hD hS hK () (hq3.trans (by rw [hd, if_neg (by decide), if_neg (by decide), if_pos rfl])) [] rfl rfl dX11_dancer_77 (by decide) (by decide)
        · refine lv_tableIn (tgt := 78) hx hb dX11_dancer_18 (by decide) (by decide) (off := 60) (by decide) (by decide) ?_
          refine lv_aload_n hx hb dX11_dancer_78 rfl (lv_at hl 0 rfl) ?_
          refine va_get (D := E.1) (ci := 11) (v := .ref (ad 76)) (C := RX11) (T := TX11) (N := 17) hx hb hts iX11 hown hK hP 0 rfl rfl 4 (by decide) (hts _ wdF_RX11_44) (fun _ h9 => h9) rfl dX11_dancer_79 ?_
          refine va_get (D := E.1) (ci := 3) (v := .ref (ad 71)) (C := RX3) (T := TX3) (N := 10) hx hb hts iX3 hown hK hP 1 rfl rfl 3 (by decide) (hts _ wdF_RX11_268) (fun _ h9 => h9) rfl dX11_dancer_82 ?_
          refine lv_iload_n hx hb dX11_dancer_85 rfl (lv_at hl 1 rfl) ?_
          refine va_iald hx hb hK hP 5 1 rfl rfl (vp_in_nI (by omega) (by decide)) dX11_dancer_86 ?_
          rw [nI_clamp (n := j) (by omega)]
          exact cI_ret F hP hD hS hK () ((hw3 j (by omega)).trans (by rw [hd, if_neg (by decide), if_neg (by decide), if_neg (by decide), if_pos rfl])) [] rfl rfl dX11_dancer_87 (by decide) (by decide)
    · refine lv_iconst (v := (-1)) hx hb dX11_dancer_15 (by decide) ?_
      exact cI_ret F hP hD hS hK () (by unfold dncF; rw [if_neg c1, if_pos (Int32.not_lt.mp c2)]) [] rfl rfl dX11_dancer_16 (by decide) (by decide)
theorem yy_X11_dancer : cY yX11_dancer cX11_dancer 3 (some .int) 2 := ⟨wdK_X11_dancer, wdZ_RX11, by decide +kernel⟩
theorem yi_X11_dancer : cYi yX11_dancer := ⟨wdN_X11_dancer, wdS_X11_dancer⟩
theorem dX3_whoIsAt_0 : decode cX3_whoIsAt 0 = .ok (.iload_n 1, 1) := by decide +kernel
theorem dX3_whoIsAt_1 : decode cX3_whoIsAt 1 = .ok (.ifCond .lt 29, 3) := by decide +kernel
theorem dX3_whoIsAt_4 : decode cX3_whoIsAt 4 = .ok (.iload_n 2, 1) := by decide +kernel
theorem dX3_whoIsAt_5 : decode cX3_whoIsAt 5 = .ok (.ifCond .lt 25, 3) := by decide +kernel
theorem dX3_whoIsAt_8 : decode cX3_whoIsAt 8 = .ok (.iload_n 1, 1) := by decide +kernel
theorem dX3_whoIsAt_9 : decode cX3_whoIsAt 9 = .ok (.sipush 252, 3) := by decide +kernel
theorem dX3_whoIsAt_12 : decode cX3_whoIsAt 12 = .ok (.if_icmp .gt 18, 3) := by decide +kernel
theorem dX3_whoIsAt_15 : decode cX3_whoIsAt 15 = .ok (.iload_n 2, 1) := by decide +kernel
theorem dX3_whoIsAt_16 : decode cX3_whoIsAt 16 = .ok (.sipush 252, 3) := by decide +kernel
theorem dX3_whoIsAt_19 : decode cX3_whoIsAt 19 = .ok (.if_icmp .gt 11, 3) := by decide +kernel
theorem dX3_whoIsAt_22 : decode cX3_whoIsAt 22 = .ok (.iload_n 1, 1) := by decide +kernel
theorem dX3_whoIsAt_23 : decode cX3_whoIsAt 23 = .ok (.iload_n 2, 1) := by decide +kernel
theorem dX3_whoIsAt_24 : decode cX3_whoIsAt 24 = .ok (.ior, 1) := by decide +kernel
theorem dX3_whoIsAt_25 : decode cX3_whoIsAt 25 = .ok (.iconst 3, 1) := by decide +kernel
theorem dX3_whoIsAt_26 : decode cX3_whoIsAt 26 = .ok (.iand, 1) := by decide +kernel
theorem dX3_whoIsAt_27 : decode cX3_whoIsAt 27 = .ok (.ifCond .eq 5, 3) := by decide +kernel
theorem dX3_whoIsAt_30 : decode cX3_whoIsAt 30 = .ok (.iconst (-1), 1) := by decide +kernel
theorem dX3_whoIsAt_31 : decode cX3_whoIsAt 31 = .ok (.ireturn, 1) := by decide +kernel
theorem dX3_whoIsAt_32 : decode cX3_whoIsAt 32 = .ok (.aload_n 0, 1) := by decide +kernel
theorem dX3_whoIsAt_33 : decode cX3_whoIsAt 33 = .ok (.getfield 34, 3) := by decide +kernel
theorem dX3_whoIsAt_36 : decode cX3_whoIsAt 36 = .ok (.iload_n 2, 1) := by decide +kernel
theorem dX3_whoIsAt_37 : decode cX3_whoIsAt 37 = .ok (.iconst 4, 1) := by decide +kernel
theorem dX3_whoIsAt_38 : decode cX3_whoIsAt 38 = .ok (.ishl, 1) := by decide +kernel
theorem dX3_whoIsAt_39 : decode cX3_whoIsAt 39 = .ok (.iload_n 1, 1) := by decide +kernel
theorem dX3_whoIsAt_40 : decode cX3_whoIsAt 40 = .ok (.iconst 2, 1) := by decide +kernel
theorem dX3_whoIsAt_41 : decode cX3_whoIsAt 41 = .ok (.ishr, 1) := by decide +kernel
theorem dX3_whoIsAt_42 : decode cX3_whoIsAt 42 = .ok (.iadd, 1) := by decide +kernel
theorem dX3_whoIsAt_43 : decode cX3_whoIsAt 43 = .ok (.baload, 1) := by decide +kernel
theorem dX3_whoIsAt_44 : decode cX3_whoIsAt 44 = .ok (.iconst 1, 1) := by decide +kernel
theorem dX3_whoIsAt_45 : decode cX3_whoIsAt 45 = .ok (.isub, 1) := by decide +kernel
theorem dX3_whoIsAt_46 : decode cX3_whoIsAt 46 = .ok (.ireturn, 1) := by decide +kernel
abbrev rm_p_X3_whoIsAt : Room := { frames := 0, cells := 0, slots := 0, locals := 0 }
set_option maxHeartbeats 4000000 in
set_option maxRecDepth 100000 in
theorem p_X3_whoIsAt (l : Launch) (E : cE) (h0 : Nat) (ad : Nat → Nat) (gx : Nat → Int32) (gy : Nat → Int32) (gf : Nat → Int32) (v2 : Int32) (gt : Nat → Int32) (gh : Nat → Int32) (gc : Nat → Int32) (x : Int32) (y : Int32) : cM l E yX3_whoIsAt cX3_whoIsAt 3 (some .int) rm_p_X3_whoIsAt [.ref (ad 76), .int x, .int y] [((ad 76), ob 3 [.ref (ad 77), .ref (ad 78), .ref (ad 79), .ref (ad 71), .ref (ad 72), .ref (ad 73), .ref (ad 74), .ref (ad 75), .int (nI (2 * 4)), .int v2]), ((ad 75), aB E 4096 (seatOf (stC 0) (2 * 4)))] (qI E (fun (r : Int32) (_u : Unit) => r = whoF (stC 0) x y 8 0) (fun _ => [((ad 76), ob 3 [.ref (ad 77), .ref (ad 78), .ref (ad 79), .ref (ad 71), .ref (ad 72), .ref (ad 73), .ref (ad 74), .ref (ad 75), .int (nI (2 * 4)), .int v2]), ((ad 75), aB E 4096 (seatOf (stC 0) (2 * 4)))])) := by
  refine cM_of (by decide) (Nat.le_of_ble_eq_true rfl) ?_
  intro p e s m below meth c ls A F hA hS hP hD hK hZ hl
  obtain ⟨hx, hb, hr, hml, hown, hts, hlk, hin⟩ := id F
  have hown : s.vm.findClass RX3 = some m.cls := hown
  have hl : lv_has ls 3 [(0, .ref (ad 76)), (1, .int x), (2, .int y)] := hl
  refine lv_iload_n hx hb dX3_whoIsAt_0 rfl (lv_at hl 1 rfl) ?_
  refine lv_if_lt (tgt := 30) hx hb dX3_whoIsAt_1 (by decide) (fun c1 => ?_) (fun c1 => ?_)
  · refine lv_iconst (v := (-1)) hx hb dX3_whoIsAt_30 (by decide) ?_
    exact cI_ret F hP hD hS hK () (who_no (fun d hd e1 e2 => by subst e1; exact (who_sq d hd).1 c1)).symm [0, 1] rfl rfl dX3_whoIsAt_31 (by decide) (by decide)
  · refine lv_iload_n hx hb dX3_whoIsAt_4 rfl (lv_at hl 2 rfl) ?_
    refine lv_if_lt (tgt := 30) hx hb dX3_whoIsAt_5 (by decide) (fun c2 => ?_) (fun c2 => ?_)
    · refine lv_iconst (v := (-1)) hx hb dX3_whoIsAt_30 (by decide) ?_
      exact cI_ret F hP hD hS hK () (who_no (fun d hd e1 e2 => by subst e2; exact (who_sq d hd).2.1 c2)).symm [0, 1] rfl rfl dX3_whoIsAt_31 (by decide) (by decide)
    · refine lv_iload_n hx hb dX3_whoIsAt_8 rfl (lv_at hl 1 rfl) ?_
      refine lv_sipush (v := nI 252) hx hb dX3_whoIsAt_9 (by decide) ?_
      refine lv_icmp_gt (tgt := 30) hx hb dX3_whoIsAt_12 (by decide) (fun c3 => ?_) (fun c3 => ?_)
      · refine lv_iconst (v := (-1)) hx hb dX3_whoIsAt_30 (by decide) ?_
        exact cI_ret F hP hD hS hK () (who_no (fun d hd e1 e2 => by subst e1; exact (who_sq d hd).2.2.1 c3)).symm [0, 1] rfl rfl dX3_whoIsAt_31 (by decide) (by decide)
      · refine lv_iload_n hx hb dX3_whoIsAt_15 rfl (lv_at hl 2 rfl) ?_
        refine lv_sipush (v := nI 252) hx hb dX3_whoIsAt_16 (by decide) ?_
        refine lv_icmp_gt (tgt := 30) hx hb dX3_whoIsAt_19 (by decide) (fun c4 => ?_) (fun c4 => ?_)
        · refine lv_iconst (v := (-1)) hx hb dX3_whoIsAt_30 (by decide) ?_
          exact cI_ret F hP hD hS hK () (who_no (fun d hd e1 e2 => by subst e2; exact (who_sq d hd).2.2.2.1 c4)).symm [0, 1] rfl rfl dX3_whoIsAt_31 (by decide) (by decide)
        · refine lv_iload_n hx hb dX3_whoIsAt_22 rfl (lv_at hl 1 rfl) ?_
          refine lv_iload_n hx hb dX3_whoIsAt_23 rfl (lv_at hl 2 rfl) ?_
          refine lv_ior hx hb dX3_whoIsAt_24 ?_
          refine lv_iconst (v := nI 3) hx hb dX3_whoIsAt_25 (by decide) ?_
          refine lv_iand hx hb dX3_whoIsAt_26 ?_
          refine lv_if_eq (tgt := 32) hx hb dX3_whoIsAt_27 (by decide) (fun c5 => ?_) (fun c5 => ?_)
          · obtain ⟨hm1, hm2⟩ := or_and3 c5
            obtain ⟨na, hna, ea⟩ : ∃ n, n ≤ 252 ∧ x = nI n := by
              obtain ⟨n, h1, h2⟩ := nI_of c1
              exact ⟨n, Nat.le_of_not_lt (fun h => c3 (by rw [h2]; exact nI_lt h h1)), h2⟩
            obtain ⟨a, ea2⟩ := mul4_of ea (by omega) hm1
            subst ea2; subst ea
            obtain ⟨nb, hnb, eb⟩ : ∃ n, n ≤ 252 ∧ y = nI n := by
              obtain ⟨n, h1, h2⟩ := nI_of c2
              exact ⟨n, Nat.le_of_not_lt (fun h => c4 (by rw [h2]; exact nI_lt h h1)), h2⟩
            obtain ⟨b, eb2⟩ := mul4_of eb (by omega) hm2
            subst eb2; subst eb
            refine lv_aload_n hx hb dX3_whoIsAt_32 rfl (lv_at hl 0 rfl) ?_
            refine va_get (D := E.1) (ci := 3) (v := .ref (ad 75)) (C := RX3) (T := TX3) (N := 10) hx hb hts iX3 hown hK hP 0 rfl rfl 7 (by decide) (hts _ wdF_RX3_34) (fun _ h9 => h9) rfl dX3_whoIsAt_33 ?_
            refine lv_iload_n hx hb dX3_whoIsAt_36 rfl (lv_at hl 2 rfl) ?_
            refine lv_iconst (v := nI 4) hx hb dX3_whoIsAt_37 (by decide) ?_
            refine lv_ishl hx hb dX3_whoIsAt_38 ?_
            rw [show ((nI (4 * b)) <<< ((nI 4) &&& 31) : Int32) = nI (64 * b) from (pk_shlN (nI 4 &&& 31) 4 (by decide) (by omega)).trans (congrArg nI (by omega))]
            refine lv_iload_n hx hb dX3_whoIsAt_39 rfl (lv_at hl 1 rfl) ?_
            refine lv_iconst (v := nI 2) hx hb dX3_whoIsAt_40 (by decide) ?_
            refine lv_ishr hx hb dX3_whoIsAt_41 ?_
            rw [show ((nI (4 * a)) >>> ((nI 2) &&& 31) : Int32) = nI a from (pk_shrN (by omega) (nI 2 &&& 31) 2 (by decide)).trans (congrArg nI (by omega))]
            refine lv_iadd hx hb dX3_whoIsAt_42 ?_
            rw [nI_add (64 * b) a]
            refine va_bald hx hb hK hP 1 0 rfl rfl (vp_in_nI (by omega) (by decide)) dX3_whoIsAt_43 ?_
            rw [nI_clamp (n := (64 * b + a)) (by omega)]
            refine lv_iconst (v := nI 1) hx hb dX3_whoIsAt_44 (by decide) ?_
            refine lv_isub hx hb dX3_whoIsAt_45 ?_
            exact cI_ret F hP hD hS hK () (who_seat a (by omega) b (by omega)) [0, 1] rfl rfl dX3_whoIsAt_46 (by decide) (by decide)
          · refine lv_iconst (v := (-1)) hx hb dX3_whoIsAt_30 (by decide) ?_
            exact cI_ret F hP hD hS hK () (who_no (fun d hd e1 e2 => by subst e1; subst e2; exact c5 (who_sq d hd).2.2.2.2)).symm [0, 1] rfl rfl dX3_whoIsAt_31 (by decide) (by decide)
theorem yy_X3_whoIsAt : cY yX3_whoIsAt cX3_whoIsAt 3 (some .int) 2 := ⟨wdK_X3_whoIsAt, wdZ_RX3, by decide +kernel⟩
theorem yi_X3_whoIsAt : cYi yX3_whoIsAt := ⟨wdN_X3_whoIsAt, wdS_X3_whoIsAt⟩
theorem dX11_at_0 : decode cX11_at 0 = .ok (.aload_n 0, 1) := by decide +kernel
theorem dX11_at_1 : decode cX11_at 1 = .ok (.getfield 44, 3) := by decide +kernel
theorem dX11_at_4 : decode cX11_at 4 = .ok (.iload_n 1, 1) := by decide +kernel
theorem dX11_at_5 : decode cX11_at 5 = .ok (.iload_n 2, 1) := by decide +kernel
theorem dX11_at_6 : decode cX11_at 6 = .ok (.invokevirtual 271, 3) := by decide +kernel
theorem dX11_at_9 : decode cX11_at 9 = .ok (.ireturn, 1) := by decide +kernel
abbrev rm_p_X11_at : Room := { frames := 1, cells := 0, slots := 0, locals := 22 }
set_option maxHeartbeats 4000000 in
set_option maxRecDepth 100000 in
theorem p_X11_at (l : Launch) (E : cE) (h0 : Nat) (ad : Nat → Nat) (gx : Nat → Int32) (gy : Nat → Int32) (gf : Nat → Int32) (v2 : Int32) (gt : Nat → Int32) (gh : Nat → Int32) (gc : Nat → Int32) (x : Int32) (y : Int32) (hw1 : flo (stC 0) (2 * 4) gx gy gf) (hw3 : ∀ d, d < 2 * 4 → gt d = 0) (hw4 : ∀ d, d < 2 * 4 → gh d = nI (stC 0 d)) (hw5 : ∀ d, d < 2 * 4 → gc d = nI (stC 0 d)) : cM l E yX11_at cX11_at 3 (some .int) rm_p_X11_at [.ref h0, .int x, .int y] [(h0, ob 11 [.ref (ad 0), .ref (ad 7), .ref (ad 28), .ref (ad 30), .ref (ad 76), .ref (ad 46), .ref (ad 55), .ref (ad 57), .ref (ad 59), .ref (ad 61), .ref (ad 80), .int 0, .int 0, .int 0, .int (-1), .int (-1), .int (-1)]), ((ad 76), ob 3 [.ref (ad 77), .ref (ad 78), .ref (ad 79), .ref (ad 71), .ref (ad 72), .ref (ad 73), .ref (ad 74), .ref (ad 75), .int (nI (2 * 4)), .int v2]), ((ad 75), aB E 4096 (seatOf (stC 0) (2 * 4)))] (qI E (fun (r : Int32) (_u : Unit) => r = whoF (stC 0) x y 8 0) (fun _ => [])) := by
  refine cM_of (by decide) (Nat.le_of_ble_eq_true rfl) ?_
  intro p e s m below meth c ls A F hA hS hP hD hK hZ hl
  obtain ⟨hx, hb, hr, hml, hown, hts, hlk, hin⟩ := id F
  have hown : s.vm.findClass RX11 = some m.cls := hown
  have hl : lv_has ls 3 [(0, .ref h0), (1, .int x), (2, .int y)] := hl
  refine lv_aload_n hx hb dX11_at_0 rfl (lv_at hl 0 rfl) ?_
  refine va_get (D := E.1) (ci := 11) (v := .ref (ad 76)) (C := RX11) (T := TX11) (N := 17) hx hb hts iX11 hown hK hP 0 rfl rfl 4 (by decide) (hts _ wdF_RX11_44) (fun _ h9 => h9) rfl dX11_at_1 ?_
  refine lv_iload_n hx hb dX11_at_4 rfl (lv_at hl 1 rfl) ?_
  refine lv_iload_n hx hb dX11_at_5 rfl (lv_at hl 2 rfl) ?_
  refine cI_go (wr := [(h0, ob 11 [.ref (ad 0), .ref (ad 7), .ref (ad 28), .ref (ad 30), .ref (ad 76), .ref (ad 46), .ref (ad 55), .ref (ad 57), .ref (ad 59), .ref (ad 61), .ref (ad 80), .int 0, .int 0, .int 0, .int (-1), .int (-1), .int (-1)])]) (cM_runV (As := [.int x, .int y]) (rest := []) F (p_X3_whoIsAt l E h0 ad gx gy gf v2 gt gh gc x y) yy_X3_whoIsAt yi_X3_whoIsAt wdM_RX11_271 hP hD hS hK hZ hA [1, 2] rfl rfl 1 3 rfl rfl rfl hl.1 rfl (Nat.le_of_ble_eq_true rfl) dX11_at_6 ⟨by decide, by decide⟩ ⟨by decide, by decide⟩) hP hD hS hA [1, 2] [0] rfl rfl rfl (by decide) (fun r_347 u_346 H locs hw_345 hP hD hS => ?_)
  try dsimp only at hw_345
  have hP : va_P E.1 vwCl [(h0, ob 11 [.ref (ad 0), .ref (ad 7), .ref (ad 28), .ref (ad 30), .ref (ad 76), .ref (ad 46), .ref (ad 55), .ref (ad 57), .ref (ad 59), .ref (ad 61), .ref (ad 80), .int 0, .int 0, .int 0, .int (-1), .int (-1), .int (-1)]), ((ad 76), ob 3 [.ref (ad 77), .ref (ad 78), .ref (ad 79), .ref (ad 71), .ref (ad 72), .ref (ad 73), .ref (ad 74), .ref (ad 75), .int (nI (2 * 4)), .int v2]), ((ad 75), aB E 4096 (seatOf (stC 0) (2 * 4)))] H := hP
  have hD : va_D A [(h0, ob 11 [.ref (ad 0), .ref (ad 7), .ref (ad 28), .ref (ad 30), .ref (ad 76), .ref (ad 46), .ref (ad 55), .ref (ad 57), .ref (ad 59), .ref (ad 61), .ref (ad 80), .int 0, .int 0, .int 0, .int (-1), .int (-1), .int (-1)]), ((ad 76), ob 3 [.ref (ad 77), .ref (ad 78), .ref (ad 79), .ref (ad 71), .ref (ad 72), .ref (ad 73), .ref (ad 74), .ref (ad 75), .int (nI (2 * 4)), .int v2]), ((ad 75), aB E 4096 (seatOf (stC 0) (2 * 4)))] := hD
  exact cI_ret F hP hD hS hK () hw_345 [] rfl rfl dX11_at_9 (by decide) (by decide)
theorem yy_X11_at : cY yX11_at cX11_at 3 (some .int) 2 := ⟨wdK_X11_at, wdZ_RX11, by decide +kernel⟩
theorem yi_X11_at : cYi yX11_at := ⟨wdN_X11_at, wdS_X11_at⟩
theorem dX11_about_0 : decode cX11_about 0 = .ok (.iload_n 1, 1) := by decide +kernel
theorem dX11_about_1 : decode cX11_about 1 = .ok (.tableswitch 221 0 13 #[71, 79, 84, 89, 97, 120, 140, 151, 162, 173, 181, 197, 205, 213], 71) := by decide +kernel
theorem dX11_about_72 : decode cX11_about 72 = .ok (.aload_n 0, 1) := by decide +kernel
theorem dX11_about_73 : decode cX11_about 73 = .ok (.getfield 44, 3) := by decide +kernel
theorem dX11_about_76 : decode cX11_about 76 = .ok (.getfield 221, 3) := by decide +kernel
theorem dX11_about_79 : decode cX11_about 79 = .ok (.ireturn, 1) := by decide +kernel
theorem dX11_about_80 : decode cX11_about 80 = .ok (.aload_n 0, 1) := by decide +kernel
theorem dX11_about_81 : decode cX11_about 81 = .ok (.getfield 158, 3) := by decide +kernel
theorem dX11_about_84 : decode cX11_about 84 = .ok (.ireturn, 1) := by decide +kernel
theorem dX11_about_85 : decode cX11_about 85 = .ok (.aload_n 0, 1) := by decide +kernel
theorem dX11_about_86 : decode cX11_about 86 = .ok (.getfield 161, 3) := by decide +kernel
theorem dX11_about_89 : decode cX11_about 89 = .ok (.ireturn, 1) := by decide +kernel
theorem dX11_about_90 : decode cX11_about 90 = .ok (.aload_n 0, 1) := by decide +kernel
theorem dX11_about_91 : decode cX11_about 91 = .ok (.getfield 66, 3) := by decide +kernel
theorem dX11_about_94 : decode cX11_about 94 = .ok (.getfield 195, 3) := by decide +kernel
theorem dX11_about_97 : decode cX11_about 97 = .ok (.ireturn, 1) := by decide +kernel
theorem dX11_about_98 : decode cX11_about 98 = .ok (.aload_n 0, 1) := by decide +kernel
theorem dX11_about_99 : decode cX11_about 99 = .ok (.getfield 44, 3) := by decide +kernel
theorem dX11_about_102 : decode cX11_about 102 = .ok (.aload_n 0, 1) := by decide +kernel
theorem dX11_about_103 : decode cX11_about 103 = .ok (.getfield 44, 3) := by decide +kernel
theorem dX11_about_106 : decode cX11_about 106 = .ok (.getfield 252, 3) := by decide +kernel
theorem dX11_about_109 : decode cX11_about 109 = .ok (.invokevirtual 255, 3) := by decide +kernel
theorem dX11_about_112 : decode cX11_about 112 = .ok (.ifCond .eq 7, 3) := by decide +kernel
theorem dX11_about_115 : decode cX11_about 115 = .ok (.iconst 1, 1) := by decide +kernel
theorem dX11_about_116 : decode cX11_about 116 = .ok (.goto 4, 3) := by decide +kernel
theorem dX11_about_119 : decode cX11_about 119 = .ok (.iconst 0, 1) := by decide +kernel
theorem dX11_about_120 : decode cX11_about 120 = .ok (.ireturn, 1) := by decide +kernel
theorem dX11_about_121 : decode cX11_about 121 = .ok (.aload_n 0, 1) := by decide +kernel
theorem dX11_about_122 : decode cX11_about 122 = .ok (.getfield 44, 3) := by decide +kernel
theorem dX11_about_125 : decode cX11_about 125 = .ok (.aload_n 0, 1) := by decide +kernel
theorem dX11_about_126 : decode cX11_about 126 = .ok (.getfield 79, 3) := by decide +kernel
theorem dX11_about_129 : decode cX11_about 129 = .ok (.invokevirtual 255, 3) := by decide +kernel
theorem dX11_about_132 : decode cX11_about 132 = .ok (.ifCond .eq 7, 3) := by decide +kernel
theorem dX11_about_135 : decode cX11_about 135 = .ok (.iconst 1, 1) := by decide +kernel
theorem dX11_about_136 : decode cX11_about 136 = .ok (.goto 4, 3) := by decide +kernel
theorem dX11_about_139 : decode cX11_about 139 = .ok (.iconst 0, 1) := by decide +kernel
theorem dX11_about_140 : decode cX11_about 140 = .ok (.ireturn, 1) := by decide +kernel
theorem dX11_about_141 : decode cX11_about 141 = .ok (.aload_n 0, 1) := by decide +kernel
theorem dX11_about_142 : decode cX11_about 142 = .ok (.getfield 19, 3) := by decide +kernel
theorem dX11_about_145 : decode cX11_about 145 = .ok (.getfield 275, 3) := by decide +kernel
theorem dX11_about_148 : decode cX11_about 148 = .ok (.getfield 168, 3) := by decide +kernel
theorem dX11_about_151 : decode cX11_about 151 = .ok (.ireturn, 1) := by decide +kernel
theorem dX11_about_152 : decode cX11_about 152 = .ok (.aload_n 0, 1) := by decide +kernel
theorem dX11_about_153 : decode cX11_about 153 = .ok (.getfield 19, 3) := by decide +kernel
theorem dX11_about_156 : decode cX11_about 156 = .ok (.getfield 278, 3) := by decide +kernel
theorem dX11_about_159 : decode cX11_about 159 = .ok (.getfield 168, 3) := by decide +kernel
theorem dX11_about_162 : decode cX11_about 162 = .ok (.ireturn, 1) := by decide +kernel
theorem dX11_about_163 : decode cX11_about 163 = .ok (.aload_n 0, 1) := by decide +kernel
theorem dX11_about_164 : decode cX11_about 164 = .ok (.getfield 19, 3) := by decide +kernel
theorem dX11_about_167 : decode cX11_about 167 = .ok (.getfield 164, 3) := by decide +kernel
theorem dX11_about_170 : decode cX11_about 170 = .ok (.getfield 168, 3) := by decide +kernel
theorem dX11_about_173 : decode cX11_about 173 = .ok (.ireturn, 1) := by decide +kernel
theorem dX11_about_174 : decode cX11_about 174 = .ok (.aload_n 0, 1) := by decide +kernel
theorem dX11_about_175 : decode cX11_about 175 = .ok (.getfield 19, 3) := by decide +kernel
theorem dX11_about_178 : decode cX11_about 178 = .ok (.getfield 211, 3) := by decide +kernel
theorem dX11_about_181 : decode cX11_about 181 = .ok (.ireturn, 1) := by decide +kernel
theorem dX11_about_182 : decode cX11_about 182 = .ok (.aload_n 0, 1) := by decide +kernel
theorem dX11_about_183 : decode cX11_about 183 = .ok (.getfield 56, 3) := by decide +kernel
theorem dX11_about_186 : decode cX11_about 186 = .ok (.getfield 151, 3) := by decide +kernel
theorem dX11_about_189 : decode cX11_about 189 = .ok (.ifCond .eq 7, 3) := by decide +kernel
theorem dX11_about_192 : decode cX11_about 192 = .ok (.iconst 1, 1) := by decide +kernel
theorem dX11_about_193 : decode cX11_about 193 = .ok (.goto 4, 3) := by decide +kernel
theorem dX11_about_196 : decode cX11_about 196 = .ok (.iconst 0, 1) := by decide +kernel
theorem dX11_about_197 : decode cX11_about 197 = .ok (.ireturn, 1) := by decide +kernel
theorem dX11_about_198 : decode cX11_about 198 = .ok (.aload_n 0, 1) := by decide +kernel
theorem dX11_about_199 : decode cX11_about 199 = .ok (.getfield 75, 3) := by decide +kernel
theorem dX11_about_202 : decode cX11_about 202 = .ok (.getfield 281, 3) := by decide +kernel
theorem dX11_about_205 : decode cX11_about 205 = .ok (.ireturn, 1) := by decide +kernel
theorem dX11_about_206 : decode cX11_about 206 = .ok (.aload_n 0, 1) := by decide +kernel
theorem dX11_about_207 : decode cX11_about 207 = .ok (.getfield 10, 3) := by decide +kernel
theorem dX11_about_210 : decode cX11_about 210 = .ok (.getfield 284, 3) := by decide +kernel
theorem dX11_about_213 : decode cX11_about 213 = .ok (.ireturn, 1) := by decide +kernel
theorem dX11_about_214 : decode cX11_about 214 = .ok (.aload_n 0, 1) := by decide +kernel
theorem dX11_about_215 : decode cX11_about 215 = .ok (.getfield 19, 3) := by decide +kernel
theorem dX11_about_218 : decode cX11_about 218 = .ok (.getfield 287, 3) := by decide +kernel
theorem dX11_about_221 : decode cX11_about 221 = .ok (.ireturn, 1) := by decide +kernel
theorem dX11_about_222 : decode cX11_about 222 = .ok (.iconst (-1), 1) := by decide +kernel
theorem dX11_about_223 : decode cX11_about 223 = .ok (.ireturn, 1) := by decide +kernel
abbrev rm_p_X11_about : Room := { frames := 3, cells := 0, slots := 0, locals := 65 }
set_option maxHeartbeats 4000000 in
set_option maxRecDepth 100000 in
theorem p_X11_about (l : Launch) (E : cE) (h0 : Nat) (ad : Nat → Nat) (gx : Nat → Int32) (gy : Nat → Int32) (gf : Nat → Int32) (v2 : Int32) (gt : Nat → Int32) (gh : Nat → Int32) (gc : Nat → Int32) (v : Int32) (hw1 : flo (stC 0) (2 * 4) gx gy gf) (hw3 : ∀ d, d < 2 * 4 → gt d = 0) (hw4 : ∀ d, d < 2 * 4 → gh d = nI (stC 0 d)) (hw5 : ∀ d, d < 2 * 4 → gc d = nI (stC 0 d)) : cM l E yX11_about cX11_about 2 (some .int) rm_p_X11_about [.ref h0, .int v] [(h0, ob 11 [.ref (ad 0), .ref (ad 7), .ref (ad 28), .ref (ad 30), .ref (ad 76), .ref (ad 46), .ref (ad 55), .ref (ad 57), .ref (ad 59), .ref (ad 61), .ref (ad 80), .int 0, .int 0, .int 0, .int (-1), .int (-1), .int (-1)]), ((ad 76), ob 3 [.ref (ad 77), .ref (ad 78), .ref (ad 79), .ref (ad 71), .ref (ad 72), .ref (ad 73), .ref (ad 74), .ref (ad 75), .int (nI (2 * 4)), .int v2]), ((ad 77), aI E 64 gx), ((ad 78), aI E 64 gy), ((ad 79), aI E 64 gf), ((ad 72), aI E 64 gh), ((ad 80), aI E 64 gc), ((ad 59), ob 4 [.ref (ad 60), .int 0, .int 0]), ((ad 7), ob 0 [.ref (ad 8), .ref (ad 10), .ref (ad 12), .ref (ad 14), .ref (ad 15), .ref (ad 16), .ref (ad 17), .ref (ad 18), .ref (ad 19), .ref (ad 20), .ref (ad 21), .ref (ad 22), .ref (ad 23), .ref (ad 24), .ref (ad 25), .ref (ad 26), .int 0, .ref (ad 27), .int 0, .int 0]), ((ad 8), ob 6 [.ref (ad 9), .int (nI 40), .int 0]), ((ad 10), ob 6 [.ref (ad 11), .int (nI 100), .int 0]), ((ad 12), ob 6 [.ref (ad 13), .int (nI 60), .int 0]), ((ad 55), ob 8 [.ref (ad 7), .ref (ad 30), .int 0, .int 0, .long 0, .ref (ad 56), .int 0, .int 0, .int 0, .int 0, .int 0]), ((ad 61), ob 9 [.ref (ad 7), .ref (ad 30), .ref (ad 46), .ref (ad 62), .ref (ad 63), .ref (ad 64), .ref (ad 65), .ref (ad 66), .ref (ad 67), .ref (ad 68), .ref (ad 69), .int 0, .int 0, .int 0, .int (-1), .ref (ad 70), .int 0, .int 0]), ((ad 0), ob 10 [.ref (ad 1), .int 0, .ref (ad 2), .ref (ad 3), .ref (ad 4), .ref (ad 5), .ref (ad 6), .int 0])] (qI E (fun (r : Int32) (_u : Unit) => r = abF v) (fun _ => [])) := by
  refine cM_of (by decide) (Nat.le_of_ble_eq_true rfl) ?_
  intro p e s m below meth c ls A F hA hS hP hD hK hZ hl
  obtain ⟨hx, hb, hr, hml, hown, hts, hlk, hin⟩ := id F
  have hown : s.vm.findClass RX11 = some m.cls := hown
  have hl : lv_has ls 2 [(0, .ref h0), (1, .int v)] := hl
  refine lv_iload_n hx hb dX11_about_0 rfl (lv_at hl 1 rfl) ?_
  rcases sw_cases v 14 (by decide) with hsw | ⟨j9, hj9, hsw⟩
  · refine lv_tableOut (tgt := 222) hx hb dX11_about_1 hsw (by decide) ?_
    refine lv_iconst (v := (-1)) hx hb dX11_about_222 (by decide) ?_
    exact cI_ret F hP hD hS hK () (by unfold abF; rw [if_pos (by simpa using hsw)]) [] rfl rfl dX11_about_223 (by decide) (by decide)
  · subst hsw
    rcases (show j9 = 0 ∨ j9 = 1 ∨ j9 = 2 ∨ j9 = 3 ∨ j9 = 4 ∨ j9 = 5 ∨ j9 = 6 ∨ j9 = 7 ∨ j9 = 8 ∨ j9 = 9 ∨ j9 = 10 ∨ j9 = 11 ∨ j9 = 12 ∨ j9 = 13 by omega) with rfl | rfl | rfl | rfl | rfl | rfl | rfl | rfl | rfl | rfl | rfl | rfl | rfl | rfl
    · refine lv_tableIn (tgt := 72) hx hb dX11_about_1 (by decide) (by decide) (off := 71) (by decide) (by decide) ?_
      refine lv_aload_n hx hb dX11_about_72 rfl (lv_at hl 0 rfl) ?_
      refine va_get (D := E.1) (ci := 11) (v := .ref (ad 76)) (C := RX11) (T := TX11) (N := 17) hx hb hts iX11 hown hK hP 0 rfl rfl 4 (by decide) (hts _ wdF_RX11_44) (fun _ h9 => h9) rfl dX11_about_73 ?_
      refine va_get (D := E.1) (ci := 3) (v := .int (nI (2 * 4))) (C := RX3) (T := TX3) (N := 10) hx hb hts iX3 hown hK hP 1 rfl rfl 8 (by decide) (hts _ wdF_RX11_221) (fun _ h9 => h9) rfl dX11_about_76 ?_
      exact cI_ret F hP hD hS hK () (by decide) [] rfl rfl dX11_about_79 (by decide) (by decide)
    · refine lv_tableIn (tgt := 80) hx hb dX11_about_1 (by decide) (by decide) (off := 79) (by decide) (by decide) ?_
      refine lv_aload_n hx hb dX11_about_80 rfl (lv_at hl 0 rfl) ?_
      refine va_get (D := E.1) (ci := 11) (v := .int 0) (C := RX11) (T := TX11) (N := 17) hx hb hts iX11 hown hK hP 0 rfl rfl 11 (by decide) (hts _ wdF_RX11_158) (fun _ h9 => h9) rfl dX11_about_81 ?_
      exact cI_ret F hP hD hS hK () (by decide) [] rfl rfl dX11_about_84 (by decide) (by decide)
    · refine lv_tableIn (tgt := 85) hx hb dX11_about_1 (by decide) (by decide) (off := 84) (by decide) (by decide) ?_
      refine lv_aload_n hx hb dX11_about_85 rfl (lv_at hl 0 rfl) ?_
      refine va_get (D := E.1) (ci := 11) (v := .int 0) (C := RX11) (T := TX11) (N := 17) hx hb hts iX11 hown hK hP 0 rfl rfl 12 (by decide) (hts _ wdF_RX11_161) (fun _ h9 => h9) rfl dX11_about_86 ?_
      exact cI_ret F hP hD hS hK () (by decide) [] rfl rfl dX11_about_89 (by decide) (by decide)
    · refine lv_tableIn (tgt := 90) hx hb dX11_about_1 (by decide) (by decide) (off := 89) (by decide) (by decide) ?_
      refine lv_aload_n hx hb dX11_about_90 rfl (lv_at hl 0 rfl) ?_
      refine va_get (D := E.1) (ci := 11) (v := .ref (ad 59)) (C := RX11) (T := TX11) (N := 17) hx hb hts iX11 hown hK hP 0 rfl rfl 8 (by decide) (hts _ wdF_RX11_66) (fun _ h9 => h9) rfl dX11_about_91 ?_
      refine va_get (D := E.1) (ci := 4) (v := .int 0) (C := RX4) (T := TX4) (N := 3) hx hb hts iX4 hown hK hP 7 rfl rfl 2 (by decide) (hts _ wdF_RX11_195) (fun _ h9 => h9) rfl dX11_about_94 ?_
      exact cI_ret F hP hD hS hK () (by decide) [] rfl rfl dX11_about_97 (by decide) (by decide)
    · refine lv_tableIn (tgt := 98) hx hb dX11_about_1 (by decide) (by decide) (off := 97) (by decide) (by decide) ?_
      refine lv_aload_n hx hb dX11_about_98 rfl (lv_at hl 0 rfl) ?_
      refine va_get (D := E.1) (ci := 11) (v := .ref (ad 76)) (C := RX11) (T := TX11) (N := 17) hx hb hts iX11 hown hK hP 0 rfl rfl 4 (by decide) (hts _ wdF_RX11_44) (fun _ h9 => h9) rfl dX11_about_99 ?_
      refine lv_aload_n hx hb dX11_about_102 rfl (lv_at hl 0 rfl) ?_
      refine va_get (D := E.1) (ci := 11) (v := .ref (ad 76)) (C := RX11) (T := TX11) (N := 17) hx hb hts iX11 hown hK hP 0 rfl rfl 4 (by decide) (hts _ wdF_RX11_44) (fun _ h9 => h9) rfl dX11_about_103 ?_
      refine va_get (D := E.1) (ci := 3) (v := .ref (ad 72)) (C := RX3) (T := TX3) (N := 10) hx hb hts iX3 hown hK hP 1 rfl rfl 4 (by decide) (hts _ wdF_RX11_252) (fun _ h9 => h9) rfl dX11_about_106 ?_
      refine cI_go (wr := [(h0, ob 11 [.ref (ad 0), .ref (ad 7), .ref (ad 28), .ref (ad 30), .ref (ad 76), .ref (ad 46), .ref (ad 55), .ref (ad 57), .ref (ad 59), .ref (ad 61), .ref (ad 80), .int 0, .int 0, .int 0, .int (-1), .int (-1), .int (-1)]), ((ad 80), aI E 64 gc), ((ad 59), ob 4 [.ref (ad 60), .int 0, .int 0]), ((ad 7), ob 0 [.ref (ad 8), .ref (ad 10), .ref (ad 12), .ref (ad 14), .ref (ad 15), .ref (ad 16), .ref (ad 17), .ref (ad 18), .ref (ad 19), .ref (ad 20), .ref (ad 21), .ref (ad 22), .ref (ad 23), .ref (ad 24), .ref (ad 25), .ref (ad 26), .int 0, .ref (ad 27), .int 0, .int 0]), ((ad 8), ob 6 [.ref (ad 9), .int (nI 40), .int 0]), ((ad 10), ob 6 [.ref (ad 11), .int (nI 100), .int 0]), ((ad 12), ob 6 [.ref (ad 13), .int (nI 60), .int 0]), ((ad 55), ob 8 [.ref (ad 7), .ref (ad 30), .int 0, .int 0, .long 0, .ref (ad 56), .int 0, .int 0, .int 0, .int 0, .int 0]), ((ad 61), ob 9 [.ref (ad 7), .ref (ad 30), .ref (ad 46), .ref (ad 62), .ref (ad 63), .ref (ad 64), .ref (ad 65), .ref (ad 66), .ref (ad 67), .ref (ad 68), .ref (ad 69), .int 0, .int 0, .int 0, .int (-1), .ref (ad 70), .int 0, .int 0]), ((ad 0), ob 10 [.ref (ad 1), .int 0, .ref (ad 2), .ref (ad 3), .ref (ad 4), .ref (ad 5), .ref (ad 6), .int 0])]) (cM_runV (As := [.ref (ad 72)]) (rest := []) F (c_X3_isAt l E (ad 76) (ad 77) (ad 78) (ad 79) (ad 71) (ad 72) (ad 73) (ad 74) (ad 75) (2 * 4) v2 (stC 0) gx gy gf (ad 72) 64 gh hw1 (by decide) (by decide) (by decide)) yy_X3_isAt yi_X3_isAt wdM_RX11_255 hP hD hS hK hZ hA [1, 2, 3, 4, 5] rfl rfl 1 3 rfl rfl rfl hl.1 rfl (Nat.le_of_ble_eq_true rfl) dX11_about_109 ⟨by decide, by decide⟩ ⟨by decide, by decide⟩) hP hD hS hA [1, 2, 3, 4, 5] [0, 6, 7, 8, 9, 10, 11, 12, 13, 14] rfl rfl rfl (by decide) (fun r_350 u_349 H locs hw_348 hP hD hS => ?_)
      try dsimp only at hw_348
      have hP : va_P E.1 vwCl [(h0, ob 11 [.ref (ad 0), .ref (ad 7), .ref (ad 28), .ref (ad 30), .ref (ad 76), .ref (ad 46), .ref (ad 55), .ref (ad 57), .ref (ad 59), .ref (ad 61), .ref (ad 80), .int 0, .int 0, .int 0, .int (-1), .int (-1), .int (-1)]), ((ad 80), aI E 64 gc), ((ad 59), ob 4 [.ref (ad 60), .int 0, .int 0]), ((ad 7), ob 0 [.ref (ad 8), .ref (ad 10), .ref (ad 12), .ref (ad 14), .ref (ad 15), .ref (ad 16), .ref (ad 17), .ref (ad 18), .ref (ad 19), .ref (ad 20), .ref (ad 21), .ref (ad 22), .ref (ad 23), .ref (ad 24), .ref (ad 25), .ref (ad 26), .int 0, .ref (ad 27), .int 0, .int 0]), ((ad 8), ob 6 [.ref (ad 9), .int (nI 40), .int 0]), ((ad 10), ob 6 [.ref (ad 11), .int (nI 100), .int 0]), ((ad 12), ob 6 [.ref (ad 13), .int (nI 60), .int 0]), ((ad 55), ob 8 [.ref (ad 7), .ref (ad 30), .int 0, .int 0, .long 0, .ref (ad 56), .int 0, .int 0, .int 0, .int 0, .int 0]), ((ad 61), ob 9 [.ref (ad 7), .ref (ad 30), .ref (ad 46), .ref (ad 62), .ref (ad 63), .ref (ad 64), .ref (ad 65), .ref (ad 66), .ref (ad 67), .ref (ad 68), .ref (ad 69), .int 0, .int 0, .int 0, .int (-1), .ref (ad 70), .int 0, .int 0]), ((ad 0), ob 10 [.ref (ad 1), .int 0, .ref (ad 2), .ref (ad 3), .ref (ad 4), .ref (ad 5), .ref (ad 6), .int 0]), ((ad 76), ob 3 [.ref (ad 77), .ref (ad 78), .ref (ad 79), .ref (ad 71), .ref (ad 72), .ref (ad 73), .ref (ad 74), .ref (ad 75), .int (nI (2 * 4)), .int v2]), ((ad 77), aI E 64 gx), ((ad 78), aI E 64 gy), ((ad 79), aI E 64 gf), ((ad 72), aI E 64 gh)] H := hP
      have hD : va_D A [(h0, ob 11 [.ref (ad 0), .ref (ad 7), .ref (ad 28), .ref (ad 30), .ref (ad 76), .ref (ad 46), .ref (ad 55), .ref (ad 57), .ref (ad 59), .ref (ad 61), .ref (ad 80), .int 0, .int 0, .int 0, .int (-1), .int (-1), .int (-1)]), ((ad 80), aI E 64 gc), ((ad 59), ob 4 [.ref (ad 60), .int 0, .int 0]), ((ad 7), ob 0 [.ref (ad 8), .ref (ad 10), .ref (ad 12), .ref (ad 14), .ref (ad 15), .ref (ad 16), .ref (ad 17), .ref (ad 18), .ref (ad 19), .ref (ad 20), .ref (ad 21), .ref (ad 22), .ref (ad 23), .ref (ad 24), .ref (ad 25), .ref (ad 26), .int 0, .ref (ad 27), .int 0, .int 0]), ((ad 8), ob 6 [.ref (ad 9), .int (nI 40), .int 0]), ((ad 10), ob 6 [.ref (ad 11), .int (nI 100), .int 0]), ((ad 12), ob 6 [.ref (ad 13), .int (nI 60), .int 0]), ((ad 55), ob 8 [.ref (ad 7), .ref (ad 30), .int 0, .int 0, .long 0, .ref (ad 56), .int 0, .int 0, .int 0, .int 0, .int 0]), ((ad 61), ob 9 [.ref (ad 7), .ref (ad 30), .ref (ad 46), .ref (ad 62), .ref (ad 63), .ref (ad 64), .ref (ad 65), .ref (ad 66), .ref (ad 67), .ref (ad 68), .ref (ad 69), .int 0, .int 0, .int 0, .int (-1), .ref (ad 70), .int 0, .int 0]), ((ad 0), ob 10 [.ref (ad 1), .int 0, .ref (ad 2), .ref (ad 3), .ref (ad 4), .ref (ad 5), .ref (ad 6), .int 0]), ((ad 76), ob 3 [.ref (ad 77), .ref (ad 78), .ref (ad 79), .ref (ad 71), .ref (ad 72), .ref (ad 73), .ref (ad 74), .ref (ad 75), .int (nI (2 * 4)), .int v2]), ((ad 77), aI E 64 gx), ((ad 78), aI E 64 gy), ((ad 79), aI E 64 gf), ((ad 72), aI E 64 gh)] := hD
      have hq : r_350 = 1 := hw_348.elim (fun h => h.1) (fun ⟨_, d, hd, hne⟩ => absurd (hw4 d hd) hne)
      subst hq
      refine lv_if_eq (tgt := 119) hx hb dX11_about_112 (by decide) (fun c_351 => absurd c_351 (by decide)) (fun c_351 => ?_)
      refine lv_iconst (v := nI 1) hx hb dX11_about_115 (by decide) ?_
      refine lv_goto (tgt := 120) hx hb dX11_about_116 (by decide) ?_
      exact cI_ret F hP hD hS hK () (by decide) [] rfl rfl dX11_about_120 (by decide) (by decide)
    · refine lv_tableIn (tgt := 121) hx hb dX11_about_1 (by decide) (by decide) (off := 120) (by decide) (by decide) ?_
      refine lv_aload_n hx hb dX11_about_121 rfl (lv_at hl 0 rfl) ?_
      refine va_get (D := E.1) (ci := 11) (v := .ref (ad 76)) (C := RX11) (T := TX11) (N := 17) hx hb hts iX11 hown hK hP 0 rfl rfl 4 (by decide) (hts _ wdF_RX11_44) (fun _ h9 => h9) rfl dX11_about_122 ?_
      refine lv_aload_n hx hb dX11_about_125 rfl (lv_at hl 0 rfl) ?_
      refine va_get (D := E.1) (ci := 11) (v := .ref (ad 80)) (C := RX11) (T := TX11) (N := 17) hx hb hts iX11 hown hK hP 0 rfl rfl 10 (by decide) (hts _ wdF_RX11_79) (fun _ h9 => h9) rfl dX11_about_126 ?_
      refine cI_go (wr := [(h0, ob 11 [.ref (ad 0), .ref (ad 7), .ref (ad 28), .ref (ad 30), .ref (ad 76), .ref (ad 46), .ref (ad 55), .ref (ad 57), .ref (ad 59), .ref (ad 61), .ref (ad 80), .int 0, .int 0, .int 0, .int (-1), .int (-1), .int (-1)]), ((ad 72), aI E 64 gh), ((ad 59), ob 4 [.ref (ad 60), .int 0, .int 0]), ((ad 7), ob 0 [.ref (ad 8), .ref (ad 10), .ref (ad 12), .ref (ad 14), .ref (ad 15), .ref (ad 16), .ref (ad 17), .ref (ad 18), .ref (ad 19), .ref (ad 20), .ref (ad 21), .ref (ad 22), .ref (ad 23), .ref (ad 24), .ref (ad 25), .ref (ad 26), .int 0, .ref (ad 27), .int 0, .int 0]), ((ad 8), ob 6 [.ref (ad 9), .int (nI 40), .int 0]), ((ad 10), ob 6 [.ref (ad 11), .int (nI 100), .int 0]), ((ad 12), ob 6 [.ref (ad 13), .int (nI 60), .int 0]), ((ad 55), ob 8 [.ref (ad 7), .ref (ad 30), .int 0, .int 0, .long 0, .ref (ad 56), .int 0, .int 0, .int 0, .int 0, .int 0]), ((ad 61), ob 9 [.ref (ad 7), .ref (ad 30), .ref (ad 46), .ref (ad 62), .ref (ad 63), .ref (ad 64), .ref (ad 65), .ref (ad 66), .ref (ad 67), .ref (ad 68), .ref (ad 69), .int 0, .int 0, .int 0, .int (-1), .ref (ad 70), .int 0, .int 0]), ((ad 0), ob 10 [.ref (ad 1), .int 0, .ref (ad 2), .ref (ad 3), .ref (ad 4), .ref (ad 5), .ref (ad 6), .int 0])]) (cM_runV (As := [.ref (ad 80)]) (rest := []) F (c_X3_isAt l E (ad 76) (ad 77) (ad 78) (ad 79) (ad 71) (ad 72) (ad 73) (ad 74) (ad 75) (2 * 4) v2 (stC 0) gx gy gf (ad 80) 64 gc hw1 (by decide) (by decide) (by decide)) yy_X3_isAt yi_X3_isAt wdM_RX11_255 hP hD hS hK hZ hA [1, 2, 3, 4, 6] rfl rfl 1 3 rfl rfl rfl hl.1 rfl (Nat.le_of_ble_eq_true rfl) dX11_about_129 ⟨by decide, by decide⟩ ⟨by decide, by decide⟩) hP hD hS hA [1, 2, 3, 4, 6] [0, 5, 7, 8, 9, 10, 11, 12, 13, 14] rfl rfl rfl (by decide) (fun r_354 u_353 H locs hw_352 hP hD hS => ?_)
      try dsimp only at hw_352
      have hP : va_P E.1 vwCl [(h0, ob 11 [.ref (ad 0), .ref (ad 7), .ref (ad 28), .ref (ad 30), .ref (ad 76), .ref (ad 46), .ref (ad 55), .ref (ad 57), .ref (ad 59), .ref (ad 61), .ref (ad 80), .int 0, .int 0, .int 0, .int (-1), .int (-1), .int (-1)]), ((ad 72), aI E 64 gh), ((ad 59), ob 4 [.ref (ad 60), .int 0, .int 0]), ((ad 7), ob 0 [.ref (ad 8), .ref (ad 10), .ref (ad 12), .ref (ad 14), .ref (ad 15), .ref (ad 16), .ref (ad 17), .ref (ad 18), .ref (ad 19), .ref (ad 20), .ref (ad 21), .ref (ad 22), .ref (ad 23), .ref (ad 24), .ref (ad 25), .ref (ad 26), .int 0, .ref (ad 27), .int 0, .int 0]), ((ad 8), ob 6 [.ref (ad 9), .int (nI 40), .int 0]), ((ad 10), ob 6 [.ref (ad 11), .int (nI 100), .int 0]), ((ad 12), ob 6 [.ref (ad 13), .int (nI 60), .int 0]), ((ad 55), ob 8 [.ref (ad 7), .ref (ad 30), .int 0, .int 0, .long 0, .ref (ad 56), .int 0, .int 0, .int 0, .int 0, .int 0]), ((ad 61), ob 9 [.ref (ad 7), .ref (ad 30), .ref (ad 46), .ref (ad 62), .ref (ad 63), .ref (ad 64), .ref (ad 65), .ref (ad 66), .ref (ad 67), .ref (ad 68), .ref (ad 69), .int 0, .int 0, .int 0, .int (-1), .ref (ad 70), .int 0, .int 0]), ((ad 0), ob 10 [.ref (ad 1), .int 0, .ref (ad 2), .ref (ad 3), .ref (ad 4), .ref (ad 5), .ref (ad 6), .int 0]), ((ad 76), ob 3 [.ref (ad 77), .ref (ad 78), .ref (ad 79), .ref (ad 71), .ref (ad 72), .ref (ad 73), .ref (ad 74), .ref (ad 75), .int (nI (2 * 4)), .int v2]), ((ad 77), aI E 64 gx), ((ad 78), aI E 64 gy), ((ad 79), aI E 64 gf), ((ad 80), aI E 64 gc)] H := hP
      have hD : va_D A [(h0, ob 11 [.ref (ad 0), .ref (ad 7), .ref (ad 28), .ref (ad 30), .ref (ad 76), .ref (ad 46), .ref (ad 55), .ref (ad 57), .ref (ad 59), .ref (ad 61), .ref (ad 80), .int 0, .int 0, .int 0, .int (-1), .int (-1), .int (-1)]), ((ad 72), aI E 64 gh), ((ad 59), ob 4 [.ref (ad 60), .int 0, .int 0]), ((ad 7), ob 0 [.ref (ad 8), .ref (ad 10), .ref (ad 12), .ref (ad 14), .ref (ad 15), .ref (ad 16), .ref (ad 17), .ref (ad 18), .ref (ad 19), .ref (ad 20), .ref (ad 21), .ref (ad 22), .ref (ad 23), .ref (ad 24), .ref (ad 25), .ref (ad 26), .int 0, .ref (ad 27), .int 0, .int 0]), ((ad 8), ob 6 [.ref (ad 9), .int (nI 40), .int 0]), ((ad 10), ob 6 [.ref (ad 11), .int (nI 100), .int 0]), ((ad 12), ob 6 [.ref (ad 13), .int (nI 60), .int 0]), ((ad 55), ob 8 [.ref (ad 7), .ref (ad 30), .int 0, .int 0, .long 0, .ref (ad 56), .int 0, .int 0, .int 0, .int 0, .int 0]), ((ad 61), ob 9 [.ref (ad 7), .ref (ad 30), .ref (ad 46), .ref (ad 62), .ref (ad 63), .ref (ad 64), .ref (ad 65), .ref (ad 66), .ref (ad 67), .ref (ad 68), .ref (ad 69), .int 0, .int 0, .int 0, .int (-1), .ref (ad 70), .int 0, .int 0]), ((ad 0), ob 10 [.ref (ad 1), .int 0, .ref (ad 2), .ref (ad 3), .ref (ad 4), .ref (ad 5), .ref (ad 6), .int 0]), ((ad 76), ob 3 [.ref (ad 77), .ref (ad 78), .ref (ad 79), .ref (ad 71), .ref (ad 72), .ref (ad 73), .ref (ad 74), .ref (ad 75), .int (nI (2 * 4)), .int v2]), ((ad 77), aI E 64 gx), ((ad 78), aI E 64 gy), ((ad 79), aI E 64 gf), ((ad 80), aI E 64 gc)] := hD
      have hq : r_354 = 1 := hw_352.elim (fun h => h.1) (fun ⟨_, d, hd, hne⟩ => absurd (hw5 d hd) hne)
      subst hq
      refine lv_if_eq (tgt := 139) hx hb dX11_about_132 (by decide) (fun c_355 => absurd c_355 (by decide)) (fun c_355 => ?_)
      refine lv_iconst (v := nI 1) hx hb dX11_about_135 (by decide) ?_
      refine lv_goto (tgt := 140) hx hb dX11_about_136 (by decide) ?_
      exact cI_ret F hP hD hS hK () (by decide) [] rfl rfl dX11_about_140 (by decide) (by decide)
    · refine lv_tableIn (tgt := 141) hx hb dX11_about_1 (by decide) (by decide) (off := 140) (by decide) (by decide) ?_
      refine lv_aload_n hx hb dX11_about_141 rfl (lv_at hl 0 rfl) ?_
      refine va_get (D := E.1) (ci := 11) (v := .ref (ad 7)) (C := RX11) (T := TX11) (N := 17) hx hb hts iX11 hown hK hP 0 rfl rfl 1 (by decide) (hts _ wdF_RX11_19) (fun _ h9 => h9) rfl dX11_about_142 ?_
      refine va_get (D := E.1) (ci := 0) (v := .ref (ad 8)) (C := RX0) (T := TX0) (N := 20) hx hb hts iX0 hown hK hP 8 rfl rfl 0 (by decide) (hts _ wdF_RX11_275) (fun _ h9 => h9) rfl dX11_about_145 ?_
      refine va_get (D := E.1) (ci := 6) (v := .int 0) (C := RX6) (T := TX6) (N := 3) hx hb hts iX6 hown hK hP 9 rfl rfl 2 (by decide) (hts _ wdF_RX11_168) (fun _ h9 => h9) rfl dX11_about_148 ?_
      exact cI_ret F hP hD hS hK () (by decide) [] rfl rfl dX11_about_151 (by decide) (by decide)
    · refine lv_tableIn (tgt := 152) hx hb dX11_about_1 (by decide) (by decide) (off := 151) (by decide) (by decide) ?_
      refine lv_aload_n hx hb dX11_about_152 rfl (lv_at hl 0 rfl) ?_
      refine va_get (D := E.1) (ci := 11) (v := .ref (ad 7)) (C := RX11) (T := TX11) (N := 17) hx hb hts iX11 hown hK hP 0 rfl rfl 1 (by decide) (hts _ wdF_RX11_19) (fun _ h9 => h9) rfl dX11_about_153 ?_
      refine va_get (D := E.1) (ci := 0) (v := .ref (ad 10)) (C := RX0) (T := TX0) (N := 20) hx hb hts iX0 hown hK hP 8 rfl rfl 1 (by decide) (hts _ wdF_RX11_278) (fun _ h9 => h9) rfl dX11_about_156 ?_
      refine va_get (D := E.1) (ci := 6) (v := .int 0) (C := RX6) (T := TX6) (N := 3) hx hb hts iX6 hown hK hP 10 rfl rfl 2 (by decide) (hts _ wdF_RX11_168) (fun _ h9 => h9) rfl dX11_about_159 ?_
      exact cI_ret F hP hD hS hK () (by decide) [] rfl rfl dX11_about_162 (by decide) (by decide)
    · refine lv_tableIn (tgt := 163) hx hb dX11_about_1 (by decide) (by decide) (off := 162) (by decide) (by decide) ?_
      refine lv_aload_n hx hb dX11_about_163 rfl (lv_at hl 0 rfl) ?_
      refine va_get (D := E.1) (ci := 11) (v := .ref (ad 7)) (C := RX11) (T := TX11) (N := 17) hx hb hts iX11 hown hK hP 0 rfl rfl 1 (by decide) (hts _ wdF_RX11_19) (fun _ h9 => h9) rfl dX11_about_164 ?_
      refine va_get (D := E.1) (ci := 0) (v := .ref (ad 12)) (C := RX0) (T := TX0) (N := 20) hx hb hts iX0 hown hK hP 8 rfl rfl 2 (by decide) (hts _ wdF_RX11_164) (fun _ h9 => h9) rfl dX11_about_167 ?_
      refine va_get (D := E.1) (ci := 6) (v := .int 0) (C := RX6) (T := TX6) (N := 3) hx hb hts iX6 hown hK hP 11 rfl rfl 2 (by decide) (hts _ wdF_RX11_168) (fun _ h9 => h9) rfl dX11_about_170 ?_
      exact cI_ret F hP hD hS hK () (by decide) [] rfl rfl dX11_about_173 (by decide) (by decide)
    · refine lv_tableIn (tgt := 174) hx hb dX11_about_1 (by decide) (by decide) (off := 173) (by decide) (by decide) ?_
      refine lv_aload_n hx hb dX11_about_174 rfl (lv_at hl 0 rfl) ?_
      refine va_get (D := E.1) (ci := 11) (v := .ref (ad 7)) (C := RX11) (T := TX11) (N := 17) hx hb hts iX11 hown hK hP 0 rfl rfl 1 (by decide) (hts _ wdF_RX11_19) (fun _ h9 => h9) rfl dX11_about_175 ?_
      refine va_get (D := E.1) (ci := 0) (v := .int 0) (C := RX0) (T := TX0) (N := 20) hx hb hts iX0 hown hK hP 8 rfl rfl 16 (by decide) (hts _ wdF_RX11_211) (fun _ h9 => h9) rfl dX11_about_178 ?_
      exact cI_ret F hP hD hS hK () (by decide) [] rfl rfl dX11_about_181 (by decide) (by decide)
    · refine lv_tableIn (tgt := 182) hx hb dX11_about_1 (by decide) (by decide) (off := 181) (by decide) (by decide) ?_
      refine lv_aload_n hx hb dX11_about_182 rfl (lv_at hl 0 rfl) ?_
      refine va_get (D := E.1) (ci := 11) (v := .ref (ad 55)) (C := RX11) (T := TX11) (N := 17) hx hb hts iX11 hown hK hP 0 rfl rfl 6 (by decide) (hts _ wdF_RX11_56) (fun _ h9 => h9) rfl dX11_about_183 ?_
      refine va_get (D := E.1) (ci := 8) (v := .int 0) (C := RX8) (T := TX8) (N := 11) hx hb hts iX8 hown hK hP 12 rfl rfl 2 (by decide) (hts _ wdF_RX11_151) (fun _ h9 => h9) rfl dX11_about_186 ?_
      refine lv_if_eq (tgt := 196) hx hb dX11_about_189 (by decide) (fun c_356 => ?_) (fun c_356 => absurd (by decide) c_356)
      refine lv_iconst (v := nI 0) hx hb dX11_about_196 (by decide) ?_
      exact cI_ret F hP hD hS hK () (by decide) [] rfl rfl dX11_about_197 (by decide) (by decide)
    · refine lv_tableIn (tgt := 198) hx hb dX11_about_1 (by decide) (by decide) (off := 197) (by decide) (by decide) ?_
      refine lv_aload_n hx hb dX11_about_198 rfl (lv_at hl 0 rfl) ?_
      refine va_get (D := E.1) (ci := 11) (v := .ref (ad 61)) (C := RX11) (T := TX11) (N := 17) hx hb hts iX11 hown hK hP 0 rfl rfl 9 (by decide) (hts _ wdF_RX11_75) (fun _ h9 => h9) rfl dX11_about_199 ?_
      refine va_get (D := E.1) (ci := 9) (v := .int 0) (C := RX9) (T := TX9) (N := 18) hx hb hts iX9 hown hK hP 13 rfl rfl 13 (by decide) (hts _ wdF_RX11_281) (fun _ h9 => h9) rfl dX11_about_202 ?_
      exact cI_ret F hP hD hS hK () (by decide) [] rfl rfl dX11_about_205 (by decide) (by decide)
    · refine lv_tableIn (tgt := 206) hx hb dX11_about_1 (by decide) (by decide) (off := 205) (by decide) (by decide) ?_
      refine lv_aload_n hx hb dX11_about_206 rfl (lv_at hl 0 rfl) ?_
      refine va_get (D := E.1) (ci := 11) (v := .ref (ad 0)) (C := RX11) (T := TX11) (N := 17) hx hb hts iX11 hown hK hP 0 rfl rfl 0 (by decide) (hts _ wdF_RX11_10) (fun _ h9 => h9) rfl dX11_about_207 ?_
      refine va_get (D := E.1) (ci := 10) (v := .int 0) (C := RX10) (T := TX10) (N := 8) hx hb hts iX10 hown hK hP 14 rfl rfl 1 (by decide) (hts _ wdF_RX11_284) (fun _ h9 => h9) rfl dX11_about_210 ?_
      exact cI_ret F hP hD hS hK () (by decide) [] rfl rfl dX11_about_213 (by decide) (by decide)
    · refine lv_tableIn (tgt := 214) hx hb dX11_about_1 (by decide) (by decide) (off := 213) (by decide) (by decide) ?_
      refine lv_aload_n hx hb dX11_about_214 rfl (lv_at hl 0 rfl) ?_
      refine va_get (D := E.1) (ci := 11) (v := .ref (ad 7)) (C := RX11) (T := TX11) (N := 17) hx hb hts iX11 hown hK hP 0 rfl rfl 1 (by decide) (hts _ wdF_RX11_19) (fun _ h9 => h9) rfl dX11_about_215 ?_
      refine va_get (D := E.1) (ci := 0) (v := .int 0) (C := RX0) (T := TX0) (N := 20) hx hb hts iX0 hown hK hP 8 rfl rfl 19 (by decide) (hts _ wdF_RX11_287) (fun _ h9 => h9) rfl dX11_about_218 ?_
      exact cI_ret F hP hD hS hK () (by decide) [] rfl rfl dX11_about_221 (by decide) (by decide)
theorem yy_X11_about : cY yX11_about cX11_about 2 (some .int) 1 := ⟨wdK_X11_about, wdZ_RX11, by decide +kernel⟩
theorem yi_X11_about : cYi yX11_about := ⟨wdN_X11_about, wdS_X11_about⟩
theorem dX4_clear_0 : decode cX4_clear 0 = .ok (.aload_n 0, 1) := by decide +kernel
theorem dX4_clear_1 : decode cX4_clear 1 = .ok (.iconst 0, 1) := by decide +kernel
theorem dX4_clear_2 : decode cX4_clear 2 = .ok (.putfield 15, 3) := by decide +kernel
theorem dX4_clear_5 : decode cX4_clear 5 = .ok (.return_, 1) := by decide +kernel
abbrev rm_p_X4_clear : Room := { frames := 0, cells := 0, slots := 0, locals := 0 }
set_option maxHeartbeats 4000000 in
set_option maxRecDepth 100000 in
theorem p_X4_clear (l : Launch) (E : cE) (h0 : Nat) (ad : Nat → Nat) (gx : Nat → Int32) (gy : Nat → Int32) (gf : Nat → Int32) (v2 : Int32) (gt : Nat → Int32) (gh : Nat → Int32) (gc : Nat → Int32) : cM l E yX4_clear cX4_clear 1 none rm_p_X4_clear [.ref (ad 59)] [((ad 59), ob 4 [.ref (ad 60), .int 0, .int 0])] (qV E (fun (_u : Unit) => True) (fun _ => [((ad 59), ob 4 [.ref (ad 60), .int 0, .int 0])])) := by
  refine cM_of (by decide) (Nat.le_of_ble_eq_true rfl) ?_
  intro p e s m below meth c ls A F hA hS hP hD hK hZ hl
  obtain ⟨hx, hb, hr, hml, hown, hts, hlk, hin⟩ := id F
  have hown : s.vm.findClass RX4 = some m.cls := hown
  have hl : lv_has ls 1 [(0, .ref (ad 59))] := hl
  refine lv_aload_n hx hb dX4_clear_0 rfl (lv_at hl 0 rfl) ?_
  refine lv_iconst (v := nI 0) hx hb dX4_clear_1 (by decide) ?_
  refine va_put (D := E.1) (ci := 4) (v := .int (nI 0)) (ty := .int) (C := RX4) (T := TX4) (N := 3) hx hb hts iX4 tyX4 tyX4_ok nmX4 hown hK hP hD hS 0 rfl rfl 2 (by decide) (hts _ wdF_RX4_15) (fun _ h9 => h9) rfl (by decide +kernel) rfl rfl (Nat.le_of_ble_eq_true rfl) dX4_clear_2 (fun H locs hP hD hS => ?_)
  have hP : va_P E.1 vwCl [((ad 59), ob 4 [.ref (ad 60), .int 0, .int (nI 0)])] H := hP
  have hD : va_D A [((ad 59), ob 4 [.ref (ad 60), .int 0, .int (nI 0)])] := hD
  exact cV_ret F hP hD hS hK () trivial [0] rfl rfl dX4_clear_5 (by decide) (by decide)
theorem yy_X4_clear : cY yX4_clear cX4_clear 1 none 0 := ⟨wdK_X4_clear, wdZ_RX4, by decide +kernel⟩
theorem yi_X4_clear : cYi yX4_clear := ⟨wdN_X4_clear, wdS_X4_clear⟩
theorem dX9_forget_0 : decode cX9_forget 0 = .ok (.aload_n 0, 1) := by decide +kernel
theorem dX9_forget_1 : decode cX9_forget 1 = .ok (.iconst (-1), 1) := by decide +kernel
theorem dX9_forget_2 : decode cX9_forget 2 = .ok (.putfield 39, 3) := by decide +kernel
theorem dX9_forget_5 : decode cX9_forget 5 = .ok (.aload_n 0, 1) := by decide +kernel
theorem dX9_forget_6 : decode cX9_forget 6 = .ok (.iconst 0, 1) := by decide +kernel
theorem dX9_forget_7 : decode cX9_forget 7 = .ok (.putfield 58, 3) := by decide +kernel
theorem dX9_forget_10 : decode cX9_forget 10 = .ok (.aload_n 0, 1) := by decide +kernel
theorem dX9_forget_11 : decode cX9_forget 11 = .ok (.iconst 0, 1) := by decide +kernel
theorem dX9_forget_12 : decode cX9_forget 12 = .ok (.putfield 62, 3) := by decide +kernel
theorem dX9_forget_15 : decode cX9_forget 15 = .ok (.return_, 1) := by decide +kernel
abbrev rm_p_X9_forget : Room := { frames := 0, cells := 0, slots := 0, locals := 0 }
set_option maxHeartbeats 4000000 in
set_option maxRecDepth 100000 in
theorem p_X9_forget (l : Launch) (E : cE) (h0 : Nat) (ad : Nat → Nat) (gx : Nat → Int32) (gy : Nat → Int32) (gf : Nat → Int32) (v2 : Int32) (gt : Nat → Int32) (gh : Nat → Int32) (gc : Nat → Int32) : cM l E yX9_forget cX9_forget 1 none rm_p_X9_forget [.ref (ad 61)] [((ad 61), ob 9 [.ref (ad 7), .ref (ad 30), .ref (ad 46), .ref (ad 62), .ref (ad 63), .ref (ad 64), .ref (ad 65), .ref (ad 66), .ref (ad 67), .ref (ad 68), .ref (ad 69), .int 0, .int 0, .int 0, .int (-1), .ref (ad 70), .int 0, .int 0])] (qV E (fun (_u : Unit) => True) (fun _ => [])) := by
  refine cM_of (by decide) (Nat.le_of_ble_eq_true rfl) ?_
  intro p e s m below meth c ls A F hA hS hP hD hK hZ hl
  obtain ⟨hx, hb, hr, hml, hown, hts, hlk, hin⟩ := id F
  have hown : s.vm.findClass RX9 = some m.cls := hown
  have hl : lv_has ls 1 [(0, .ref (ad 61))] := hl
  refine lv_aload_n hx hb dX9_forget_0 rfl (lv_at hl 0 rfl) ?_
  refine lv_iconst (v := (-1)) hx hb dX9_forget_1 (by decide) ?_
  refine va_put (D := E.1) (ci := 9) (v := .int (-1)) (ty := .int) (C := RX9) (T := TX9) (N := 18) hx hb hts iX9 tyX9 tyX9_ok nmX9 hown hK hP hD hS 0 rfl rfl 14 (by decide) (hts _ wdF_RX9_39) (fun _ h9 => h9) rfl (by decide +kernel) rfl rfl (Nat.le_of_ble_eq_true rfl) dX9_forget_2 (fun H locs hP hD hS => ?_)
  have hP : va_P E.1 vwCl [((ad 61), ob 9 [.ref (ad 7), .ref (ad 30), .ref (ad 46), .ref (ad 62), .ref (ad 63), .ref (ad 64), .ref (ad 65), .ref (ad 66), .ref (ad 67), .ref (ad 68), .ref (ad 69), .int 0, .int 0, .int 0, .int (-1), .ref (ad 70), .int 0, .int 0])] H := hP
  have hD : va_D A [((ad 61), ob 9 [.ref (ad 7), .ref (ad 30), .ref (ad 46), .ref (ad 62), .ref (ad 63), .ref (ad 64), .ref (ad 65), .ref (ad 66), .ref (ad 67), .ref (ad 68), .ref (ad 69), .int 0, .int 0, .int 0, .int (-1), .ref (ad 70), .int 0, .int 0])] := hD
  refine lv_aload_n hx hb dX9_forget_5 rfl (lv_at hl 0 rfl) ?_
  refine lv_iconst (v := nI 0) hx hb dX9_forget_6 (by decide) ?_
  refine va_put (D := E.1) (ci := 9) (v := .int (nI 0)) (ty := .boolean) (C := RX9) (T := TX9) (N := 18) hx hb hts iX9 tyX9 tyX9_ok nmX9 hown hK hP hD hS 0 rfl rfl 16 (by decide) (hts _ wdF_RX9_58) (fun _ h9 => h9) rfl (by decide +kernel) (by decide) (by decide) (Nat.le_of_ble_eq_true rfl) dX9_forget_7 (fun H locs hP hD hS => ?_)
  have hP : va_P E.1 vwCl [((ad 61), ob 9 [.ref (ad 7), .ref (ad 30), .ref (ad 46), .ref (ad 62), .ref (ad 63), .ref (ad 64), .ref (ad 65), .ref (ad 66), .ref (ad 67), .ref (ad 68), .ref (ad 69), .int 0, .int 0, .int 0, .int (-1), .ref (ad 70), .int (nI 0), .int 0])] H := hP
  have hD : va_D A [((ad 61), ob 9 [.ref (ad 7), .ref (ad 30), .ref (ad 46), .ref (ad 62), .ref (ad 63), .ref (ad 64), .ref (ad 65), .ref (ad 66), .ref (ad 67), .ref (ad 68), .ref (ad 69), .int 0, .int 0, .int 0, .int (-1), .ref (ad 70), .int (nI 0), .int 0])] := hD
  refine lv_aload_n hx hb dX9_forget_10 rfl (lv_at hl 0 rfl) ?_
  refine lv_iconst (v := nI 0) hx hb dX9_forget_11 (by decide) ?_
  refine va_put (D := E.1) (ci := 9) (v := .int (nI 0)) (ty := .int) (C := RX9) (T := TX9) (N := 18) hx hb hts iX9 tyX9 tyX9_ok nmX9 hown hK hP hD hS 0 rfl rfl 17 (by decide) (hts _ wdF_RX9_62) (fun _ h9 => h9) rfl (by decide +kernel) rfl rfl (Nat.le_of_ble_eq_true rfl) dX9_forget_12 (fun H locs hP hD hS => ?_)
  have hP : va_P E.1 vwCl [((ad 61), ob 9 [.ref (ad 7), .ref (ad 30), .ref (ad 46), .ref (ad 62), .ref (ad 63), .ref (ad 64), .ref (ad 65), .ref (ad 66), .ref (ad 67), .ref (ad 68), .ref (ad 69), .int 0, .int 0, .int 0, .int (-1), .ref (ad 70), .int (nI 0), .int (nI 0)])] H := hP
  have hD : va_D A [((ad 61), ob 9 [.ref (ad 7), .ref (ad 30), .ref (ad 46), .ref (ad 62), .ref (ad 63), .ref (ad 64), .ref (ad 65), .ref (ad 66), .ref (ad 67), .ref (ad 68), .ref (ad 69), .int 0, .int 0, .int 0, .int (-1), .ref (ad 70), .int (nI 0), .int (nI 0)])] := hD
  exact cV_ret F hP hD hS hK () trivial [] rfl rfl dX9_forget_15 (by decide) (by decide)
theorem yy_X9_forget : cY yX9_forget cX9_forget 1 none 0 := ⟨wdK_X9_forget, wdZ_RX9, by decide +kernel⟩
theorem yi_X9_forget : cYi yX9_forget := ⟨wdN_X9_forget, wdS_X9_forget⟩
theorem dX11_mark_0 : decode cX11_mark 0 = .ok (.aload_n 0, 1) := by decide +kernel
theorem dX11_mark_1 : decode cX11_mark 1 = .ok (.getfield 44, 3) := by decide +kernel
theorem dX11_mark_4 : decode cX11_mark 4 = .ok (.aload_n 0, 1) := by decide +kernel
theorem dX11_mark_5 : decode cX11_mark 5 = .ok (.getfield 79, 3) := by decide +kernel
theorem dX11_mark_8 : decode cX11_mark 8 = .ok (.invokevirtual 97, 3) := by decide +kernel
theorem dX11_mark_11 : decode cX11_mark 11 = .ok (.return_, 1) := by decide +kernel
abbrev rm_p_X11_mark : Room := { frames := 3, cells := 0, slots := 0, locals := 65 }
set_option maxHeartbeats 4000000 in
set_option maxRecDepth 100000 in
theorem p_X11_mark (l : Launch) (E : cE) (h0 : Nat) (ad : Nat → Nat) (gx : Nat → Int32) (gy : Nat → Int32) (gf : Nat → Int32) (v2 : Int32) (gt : Nat → Int32) (gh : Nat → Int32) (gc : Nat → Int32) (hw1 : flo (stC 0) (2 * 4) gx gy gf) (hw3 : ∀ d, d < 2 * 4 → gt d = 0) (hw4 : ∀ d, d < 2 * 4 → gh d = nI (stC 0 d)) (hw5 : ∀ d, d < 2 * 4 → gc d = nI (stC 0 d)) : cM l E yX11_mark cX11_mark 1 none rm_p_X11_mark [.ref h0] [(h0, ob 11 [.ref (ad 0), .ref (ad 7), .ref (ad 28), .ref (ad 30), .ref (ad 76), .ref (ad 46), .ref (ad 55), .ref (ad 57), .ref (ad 59), .ref (ad 61), .ref (ad 80), .int 0, .int 0, .int 0, .int (-1), .int (-1), .int (-1)]), ((ad 76), ob 3 [.ref (ad 77), .ref (ad 78), .ref (ad 79), .ref (ad 71), .ref (ad 72), .ref (ad 73), .ref (ad 74), .ref (ad 75), .int (nI (2 * 4)), .int v2]), ((ad 77), aI E 64 gx), ((ad 78), aI E 64 gy), ((ad 79), aI E 64 gf), ((ad 80), aI E 64 gc)] (qV E (fun (_u : Unit) => True) (fun _ => [])) := by
  refine cM_of (by decide) (Nat.le_of_ble_eq_true rfl) ?_
  intro p e s m below meth c ls A F hA hS hP hD hK hZ hl
  obtain ⟨hx, hb, hr, hml, hown, hts, hlk, hin⟩ := id F
  have hown : s.vm.findClass RX11 = some m.cls := hown
  have hl : lv_has ls 1 [(0, .ref h0)] := hl
  refine lv_aload_n hx hb dX11_mark_0 rfl (lv_at hl 0 rfl) ?_
  refine va_get (D := E.1) (ci := 11) (v := .ref (ad 76)) (C := RX11) (T := TX11) (N := 17) hx hb hts iX11 hown hK hP 0 rfl rfl 4 (by decide) (hts _ wdF_RX11_44) (fun _ h9 => h9) rfl dX11_mark_1 ?_
  refine lv_aload_n hx hb dX11_mark_4 rfl (lv_at hl 0 rfl) ?_
  refine va_get (D := E.1) (ci := 11) (v := .ref (ad 80)) (C := RX11) (T := TX11) (N := 17) hx hb hts iX11 hown hK hP 0 rfl rfl 10 (by decide) (hts _ wdF_RX11_79) (fun _ h9 => h9) rfl dX11_mark_5 ?_
  refine cV_go (wr := [(h0, ob 11 [.ref (ad 0), .ref (ad 7), .ref (ad 28), .ref (ad 30), .ref (ad 76), .ref (ad 46), .ref (ad 55), .ref (ad 57), .ref (ad 59), .ref (ad 61), .ref (ad 80), .int 0, .int 0, .int 0, .int (-1), .int (-1), .int (-1)])]) (cM_runV (As := [.ref (ad 80)]) (rest := []) F (c_X3_copyCodes l E (ad 76) (ad 77) (ad 78) (ad 79) (ad 71) (ad 72) (ad 73) (ad 74) (ad 75) (2 * 4) v2 (stC 0) gx gy gf (ad 80) 64 gc hw1 (by decide) (by decide) (by decide)) yy_X3_copyCodes yi_X3_copyCodes wdM_RX11_97 hP hD hS hK hZ hA [1, 2, 3, 4, 5] rfl rfl 1 3 rfl rfl rfl hl.1 rfl (Nat.le_of_ble_eq_true rfl) dX11_mark_8 ⟨by decide, by decide⟩ ⟨by decide, by decide⟩) hP hD hS hA [1, 2, 3, 4, 5] [0] rfl rfl rfl (by decide) (fun u_360 H locs hw_359 hP hD hS => ?_)
  obtain ⟨gc_362, rfl⟩ : ∃ z, z = u_360 := ⟨_, rfl⟩
  try dsimp only at hw_359
  have hP : va_P E.1 vwCl [(h0, ob 11 [.ref (ad 0), .ref (ad 7), .ref (ad 28), .ref (ad 30), .ref (ad 76), .ref (ad 46), .ref (ad 55), .ref (ad 57), .ref (ad 59), .ref (ad 61), .ref (ad 80), .int 0, .int 0, .int 0, .int (-1), .int (-1), .int (-1)]), ((ad 76), ob 3 [.ref (ad 77), .ref (ad 78), .ref (ad 79), .ref (ad 71), .ref (ad 72), .ref (ad 73), .ref (ad 74), .ref (ad 75), .int (nI (2 * 4)), .int v2]), ((ad 77), aI E 64 gx), ((ad 78), aI E 64 gy), ((ad 79), aI E 64 gf), ((ad 80), aI E 64 gc_362)] H := hP
  have hD : va_D A [(h0, ob 11 [.ref (ad 0), .ref (ad 7), .ref (ad 28), .ref (ad 30), .ref (ad 76), .ref (ad 46), .ref (ad 55), .ref (ad 57), .ref (ad 59), .ref (ad 61), .ref (ad 80), .int 0, .int 0, .int 0, .int (-1), .int (-1), .int (-1)]), ((ad 76), ob 3 [.ref (ad 77), .ref (ad 78), .ref (ad 79), .ref (ad 71), .ref (ad 72), .ref (ad 73), .ref (ad 74), .ref (ad 75), .int (nI (2 * 4)), .int v2]), ((ad 77), aI E 64 gx), ((ad 78), aI E 64 gy), ((ad 79), aI E 64 gf), ((ad 80), aI E 64 gc_362)] := hD
  exact cV_ret F hP hD hS hK () trivial [] rfl rfl dX11_mark_11 (by decide) (by decide)
theorem yy_X11_mark : cY yX11_mark cX11_mark 1 none 0 := ⟨wdK_X11_mark, wdZ_RX11, by decide +kernel⟩
theorem yi_X11_mark : cYi yX11_mark := ⟨wdN_X11_mark, wdS_X11_mark⟩
theorem set_nat {k n : Int32} (h : (k = 0 ∧ n = 4) ∨ (1 ≤ k ∧ k ≤ 3 ∧ 1 ≤ n ∧ n ≤ 32)) : ∃ k9 n9 : Nat, k9 ≤ 3 ∧ n9 ≤ 32 ∧ k = nI k9 ∧ n = nI n9 := by
  rcases h with ⟨rfl, rfl⟩ | ⟨h1, h2, h3, h4⟩
  · exact ⟨0, 4, by decide, by decide, rfl, rfl⟩
  · obtain ⟨k9, hk, ek⟩ := nI_of2 (x := k) (M := 3) (n := 3) (by decide) (Int32.not_lt.mpr (Int32.le_trans (by decide) h1)) h2
    obtain ⟨n9, hn, en⟩ := nI_of2 (x := n) (M := 32) (n := 32) (by decide) (Int32.not_lt.mpr (Int32.le_trans (by decide) h3)) h4
    exact ⟨k9, n9, hk, hn, ek, en⟩
theorem dX11_set_0 : decode cX11_set 0 = .ok (.iload_n 1, 1) := by decide +kernel
theorem dX11_set_1 : decode cX11_set 1 = .ok (.iload_n 2, 1) := by decide +kernel
theorem dX11_set_2 : decode cX11_set 2 = .ok (.invokestatic 144, 3) := by decide +kernel
theorem dX11_set_5 : decode cX11_set 5 = .ok (.ifCond .ne 5, 3) := by decide +kernel
theorem dX11_set_8 : decode cX11_set 8 = .ok (.iconst 0, 1) := by decide +kernel
theorem dX11_set_9 : decode cX11_set 9 = .ok (.ireturn, 1) := by decide +kernel
theorem dX11_set_10 : decode cX11_set 10 = .ok (.aload_n 0, 1) := by decide +kernel
theorem dX11_set_11 : decode cX11_set 11 = .ok (.getfield 44, 3) := by decide +kernel
theorem dX11_set_14 : decode cX11_set 14 = .ok (.iload_n 1, 1) := by decide +kernel
theorem dX11_set_15 : decode cX11_set 15 = .ok (.iload_n 2, 1) := by decide +kernel
theorem dX11_set_16 : decode cX11_set 16 = .ok (.invokevirtual 93, 3) := by decide +kernel
theorem dX11_set_19 : decode cX11_set 19 = .ok (.aload_n 0, 1) := by decide +kernel
theorem dX11_set_20 : decode cX11_set 20 = .ok (.getfield 44, 3) := by decide +kernel
theorem dX11_set_23 : decode cX11_set 23 = .ok (.aload_n 0, 1) := by decide +kernel
theorem dX11_set_24 : decode cX11_set 24 = .ok (.getfield 79, 3) := by decide +kernel
theorem dX11_set_27 : decode cX11_set 27 = .ok (.invokevirtual 97, 3) := by decide +kernel
theorem dX11_set_30 : decode cX11_set 30 = .ok (.aload_n 0, 1) := by decide +kernel
theorem dX11_set_31 : decode cX11_set 31 = .ok (.getfield 66, 3) := by decide +kernel
theorem dX11_set_34 : decode cX11_set 34 = .ok (.invokevirtual 148, 3) := by decide +kernel
theorem dX11_set_37 : decode cX11_set 37 = .ok (.aload_n 0, 1) := by decide +kernel
theorem dX11_set_38 : decode cX11_set 38 = .ok (.getfield 56, 3) := by decide +kernel
theorem dX11_set_41 : decode cX11_set 41 = .ok (.iconst 0, 1) := by decide +kernel
theorem dX11_set_42 : decode cX11_set 42 = .ok (.putfield 151, 3) := by decide +kernel
theorem dX11_set_45 : decode cX11_set 45 = .ok (.aload_n 0, 1) := by decide +kernel
theorem dX11_set_46 : decode cX11_set 46 = .ok (.getfield 75, 3) := by decide +kernel
theorem dX11_set_49 : decode cX11_set 49 = .ok (.invokevirtual 155, 3) := by decide +kernel
theorem dX11_set_52 : decode cX11_set 52 = .ok (.aload_n 0, 1) := by decide +kernel
theorem dX11_set_53 : decode cX11_set 53 = .ok (.iconst 0, 1) := by decide +kernel
theorem dX11_set_54 : decode cX11_set 54 = .ok (.putfield 158, 3) := by decide +kernel
theorem dX11_set_57 : decode cX11_set 57 = .ok (.aload_n 0, 1) := by decide +kernel
theorem dX11_set_58 : decode cX11_set 58 = .ok (.iconst 0, 1) := by decide +kernel
theorem dX11_set_59 : decode cX11_set 59 = .ok (.putfield 161, 3) := by decide +kernel
theorem dX11_set_62 : decode cX11_set 62 = .ok (.iconst 1, 1) := by decide +kernel
theorem dX11_set_63 : decode cX11_set 63 = .ok (.ireturn, 1) := by decide +kernel
abbrev rm_p_X11_set : Room := { frames := 5, cells := 0, slots := 0, locals := 114 }
set_option maxHeartbeats 4000000 in
set_option maxRecDepth 100000 in
theorem p_X11_set (l : Launch) (E : cE) (h0 : Nat) (ad : Nat → Nat) (gx : Nat → Int32) (gy : Nat → Int32) (gf : Nat → Int32) (v2 : Int32) (gt : Nat → Int32) (gh : Nat → Int32) (gc : Nat → Int32) (k : Int32) (n : Int32) (hw1 : flo (stC 0) (2 * 4) gx gy gf) (hw3 : ∀ d, d < 2 * 4 → gt d = 0) (hw4 : ∀ d, d < 2 * 4 → gh d = nI (stC 0 d)) (hw5 : ∀ d, d < 2 * 4 → gc d = nI (stC 0 d)) : cM l E yX11_set cX11_set 3 (some .boolean) rm_p_X11_set [.ref h0, .int k, .int n] [(h0, ob 11 [.ref (ad 0), .ref (ad 7), .ref (ad 28), .ref (ad 30), .ref (ad 76), .ref (ad 46), .ref (ad 55), .ref (ad 57), .ref (ad 59), .ref (ad 61), .ref (ad 80), .int 0, .int 0, .int 0, .int (-1), .int (-1), .int (-1)]), ((ad 76), ob 3 [.ref (ad 77), .ref (ad 78), .ref (ad 79), .ref (ad 71), .ref (ad 72), .ref (ad 73), .ref (ad 74), .ref (ad 75), .int (nI (2 * 4)), .int v2]), ((ad 77), aI E 64 gx), ((ad 78), aI E 64 gy), ((ad 79), aI E 64 gf), ((ad 71), aI E 64 gt), ((ad 72), aI E 64 gh), ((ad 73), aI E 64 (fun j => nI (srtO (cdLt (stC 0)) (fun _ => 0) (2 * 4) j))), ((ad 74), aJ E 4 (faOf (stC 0) (2 * 4))), ((ad 75), aB E 4096 (seatOf (stC 0) (2 * 4))), ((ad 80), aI E 64 gc), ((ad 59), ob 4 [.ref (ad 60), .int 0, .int 0]), ((ad 55), ob 8 [.ref (ad 7), .ref (ad 30), .int 0, .int 0, .long 0, .ref (ad 56), .int 0, .int 0, .int 0, .int 0, .int 0]), ((ad 61), ob 9 [.ref (ad 7), .ref (ad 30), .ref (ad 46), .ref (ad 62), .ref (ad 63), .ref (ad 64), .ref (ad 65), .ref (ad 66), .ref (ad 67), .ref (ad 68), .ref (ad 69), .int 0, .int 0, .int 0, .int (-1), .ref (ad 70), .int 0, .int 0])] (qI E (fun (r : Int32) (_u : Unit) => r = if (k = 0 ∧ n = 4) ∨ (1 ≤ k ∧ k ≤ 3 ∧ 1 ≤ n ∧ n ≤ 32) then 1 else 0) (fun _ => [])) := by
  refine cM_of (by decide) (Nat.le_of_ble_eq_true rfl) ?_
  intro p e s m below meth c ls A F hA hS hP hD hK hZ hl
  obtain ⟨hx, hb, hr, hml, hown, hts, hlk, hin⟩ := id F
  have hown : s.vm.findClass RX11 = some m.cls := hown
  have hl : lv_has ls 3 [(0, .ref h0), (1, .int k), (2, .int n)] := hl
  refine lv_iload_n hx hb dX11_set_0 rfl (lv_at hl 1 rfl) ?_
  refine lv_iload_n hx hb dX11_set_1 rfl (lv_at hl 2 rfl) ?_
  refine cI_go (wr := [(h0, ob 11 [.ref (ad 0), .ref (ad 7), .ref (ad 28), .ref (ad 30), .ref (ad 76), .ref (ad 46), .ref (ad 55), .ref (ad 57), .ref (ad 59), .ref (ad 61), .ref (ad 80), .int 0, .int 0, .int 0, .int (-1), .int (-1), .int (-1)]), ((ad 76), ob 3 [.ref (ad 77), .ref (ad 78), .ref (ad 79), .ref (ad 71), .ref (ad 72), .ref (ad 73), .ref (ad 74), .ref (ad 75), .int (nI (2 * 4)), .int v2]), ((ad 77), aI E 64 gx), ((ad 78), aI E 64 gy), ((ad 79), aI E 64 gf), ((ad 71), aI E 64 gt), ((ad 72), aI E 64 gh), ((ad 73), aI E 64 (fun j => nI (srtO (cdLt (stC 0)) (fun _ => 0) (2 * 4) j))), ((ad 74), aJ E 4 (faOf (stC 0) (2 * 4))), ((ad 75), aB E 4096 (seatOf (stC 0) (2 * 4))), ((ad 80), aI E 64 gc), ((ad 59), ob 4 [.ref (ad 60), .int 0, .int 0]), ((ad 55), ob 8 [.ref (ad 7), .ref (ad 30), .int 0, .int 0, .long 0, .ref (ad 56), .int 0, .int 0, .int 0, .int 0, .int 0]), ((ad 61), ob 9 [.ref (ad 7), .ref (ad 30), .ref (ad 46), .ref (ad 62), .ref (ad 63), .ref (ad 64), .ref (ad 65), .ref (ad 66), .ref (ad 67), .ref (ad 68), .ref (ad 69), .int 0, .int 0, .int 0, .int (-1), .ref (ad 70), .int 0, .int 0])]) (cM_runS (As := [.int k, .int n]) (rest := []) F (c_X3_isSet l E k n) yy_X3_isSet wdT_X3_isSet wdM_RX11_144 hP hD hS hK hZ hA [] rfl rfl rfl hl.1 rfl (Nat.le_of_ble_eq_true rfl) dX11_set_2 ⟨by decide, by decide⟩ ⟨by decide, by decide⟩) hP hD hS hA [] [0, 1, 2, 3, 4, 5, 6, 7, 8, 9, 10, 11, 12, 13] rfl rfl rfl (by decide) (fun r_365 u_364 H locs hw_363 hP hD hS => ?_)
  try dsimp only at hw_363
  have hP : va_P E.1 vwCl [(h0, ob 11 [.ref (ad 0), .ref (ad 7), .ref (ad 28), .ref (ad 30), .ref (ad 76), .ref (ad 46), .ref (ad 55), .ref (ad 57), .ref (ad 59), .ref (ad 61), .ref (ad 80), .int 0, .int 0, .int 0, .int (-1), .int (-1), .int (-1)]), ((ad 76), ob 3 [.ref (ad 77), .ref (ad 78), .ref (ad 79), .ref (ad 71), .ref (ad 72), .ref (ad 73), .ref (ad 74), .ref (ad 75), .int (nI (2 * 4)), .int v2]), ((ad 77), aI E 64 gx), ((ad 78), aI E 64 gy), ((ad 79), aI E 64 gf), ((ad 71), aI E 64 gt), ((ad 72), aI E 64 gh), ((ad 73), aI E 64 (fun j => nI (srtO (cdLt (stC 0)) (fun _ => 0) (2 * 4) j))), ((ad 74), aJ E 4 (faOf (stC 0) (2 * 4))), ((ad 75), aB E 4096 (seatOf (stC 0) (2 * 4))), ((ad 80), aI E 64 gc), ((ad 59), ob 4 [.ref (ad 60), .int 0, .int 0]), ((ad 55), ob 8 [.ref (ad 7), .ref (ad 30), .int 0, .int 0, .long 0, .ref (ad 56), .int 0, .int 0, .int 0, .int 0, .int 0]), ((ad 61), ob 9 [.ref (ad 7), .ref (ad 30), .ref (ad 46), .ref (ad 62), .ref (ad 63), .ref (ad 64), .ref (ad 65), .ref (ad 66), .ref (ad 67), .ref (ad 68), .ref (ad 69), .int 0, .int 0, .int 0, .int (-1), .ref (ad 70), .int 0, .int 0])] H := hP
  have hD : va_D A [(h0, ob 11 [.ref (ad 0), .ref (ad 7), .ref (ad 28), .ref (ad 30), .ref (ad 76), .ref (ad 46), .ref (ad 55), .ref (ad 57), .ref (ad 59), .ref (ad 61), .ref (ad 80), .int 0, .int 0, .int 0, .int (-1), .int (-1), .int (-1)]), ((ad 76), ob 3 [.ref (ad 77), .ref (ad 78), .ref (ad 79), .ref (ad 71), .ref (ad 72), .ref (ad 73), .ref (ad 74), .ref (ad 75), .int (nI (2 * 4)), .int v2]), ((ad 77), aI E 64 gx), ((ad 78), aI E 64 gy), ((ad 79), aI E 64 gf), ((ad 71), aI E 64 gt), ((ad 72), aI E 64 gh), ((ad 73), aI E 64 (fun j => nI (srtO (cdLt (stC 0)) (fun _ => 0) (2 * 4) j))), ((ad 74), aJ E 4 (faOf (stC 0) (2 * 4))), ((ad 75), aB E 4096 (seatOf (stC 0) (2 * 4))), ((ad 80), aI E 64 gc), ((ad 59), ob 4 [.ref (ad 60), .int 0, .int 0]), ((ad 55), ob 8 [.ref (ad 7), .ref (ad 30), .int 0, .int 0, .long 0, .ref (ad 56), .int 0, .int 0, .int 0, .int 0, .int 0]), ((ad 61), ob 9 [.ref (ad 7), .ref (ad 30), .ref (ad 46), .ref (ad 62), .ref (ad 63), .ref (ad 64), .ref (ad 65), .ref (ad 66), .ref (ad 67), .ref (ad 68), .ref (ad 69), .int 0, .int 0, .int 0, .int (-1), .ref (ad 70), .int 0, .int 0])] := hD
  refine lv_if_ne (tgt := 10) hx hb dX11_set_5 (by decide) (fun c1 => ?_) (fun c1 => ?_)
  · have c2 : (k = 0 ∧ n = 4) ∨ (1 ≤ k ∧ k ≤ 3 ∧ 1 ≤ n ∧ n ≤ 32) := Decidable.byContradiction (fun h => c1 (hw_363.trans (if_neg h)))
    obtain ⟨k9, n9, hk9, hn9, ek, en⟩ := set_nat c2
    subst ek; subst en
    refine lv_aload_n hx hb dX11_set_10 rfl (lv_at hl 0 rfl) ?_
    refine va_get (D := E.1) (ci := 11) (v := .ref (ad 76)) (C := RX11) (T := TX11) (N := 17) hx hb hts iX11 hown hK hP 0 rfl rfl 4 (by decide) (hts _ wdF_RX11_44) (fun _ h9 => h9) rfl dX11_set_11 ?_
    refine lv_iload_n hx hb dX11_set_14 rfl (lv_at hl 1 rfl) ?_
    refine lv_iload_n hx hb dX11_set_15 rfl (lv_at hl 2 rfl) ?_
    refine cV_go (wr := [(h0, ob 11 [.ref (ad 0), .ref (ad 7), .ref (ad 28), .ref (ad 30), .ref (ad 76), .ref (ad 46), .ref (ad 55), .ref (ad 57), .ref (ad 59), .ref (ad 61), .ref (ad 80), .int 0, .int 0, .int 0, .int (-1), .int (-1), .int (-1)]), ((ad 80), aI E 64 gc), ((ad 59), ob 4 [.ref (ad 60), .int 0, .int 0]), ((ad 55), ob 8 [.ref (ad 7), .ref (ad 30), .int 0, .int 0, .long 0, .ref (ad 56), .int 0, .int 0, .int 0, .int 0, .int 0]), ((ad 61), ob 9 [.ref (ad 7), .ref (ad 30), .ref (ad 46), .ref (ad 62), .ref (ad 63), .ref (ad 64), .ref (ad 65), .ref (ad 66), .ref (ad 67), .ref (ad 68), .ref (ad 69), .int 0, .int 0, .int 0, .int (-1), .ref (ad 70), .int 0, .int 0])]) (cM_runV (As := [.int (nI k9), .int (nI n9)]) (rest := []) F (c_X3_lay l E (ad 76) (ad 77) (ad 78) (ad 79) (ad 71) (ad 72) (ad 73) (ad 74) (ad 75) (2 * 4) v2 (stC 0) gx gy gf gt gh (fun j => srtO (cdLt (stC 0)) (fun _ => 0) (2 * 4) j) k9 n9 hw1 (by decide) hk9 hn9) yy_X3_lay yi_X3_lay wdM_RX11_93 hP hD hS hK hZ hA [1, 2, 3, 4, 5, 6, 7, 8, 9] rfl rfl 1 3 rfl rfl rfl hl.1 rfl (Nat.le_of_ble_eq_true rfl) dX11_set_16 ⟨by decide, by decide⟩ ⟨by decide, by decide⟩) hP hD hS hA [1, 2, 3, 4, 5, 6, 7, 8, 9] [0, 10, 11, 12, 13] rfl rfl rfl (by decide) (fun u_366 H locs hwl hP hD hS => ?_)
    obtain ⟨qx, qy, qf, qv, qt, qh⟩ := u_366
    try dsimp only at hwl
    have hP : va_P E.1 vwCl [(h0, ob 11 [.ref (ad 0), .ref (ad 7), .ref (ad 28), .ref (ad 30), .ref (ad 76), .ref (ad 46), .ref (ad 55), .ref (ad 57), .ref (ad 59), .ref (ad 61), .ref (ad 80), .int 0, .int 0, .int 0, .int (-1), .int (-1), .int (-1)]), ((ad 80), aI E 64 gc), ((ad 59), ob 4 [.ref (ad 60), .int 0, .int 0]), ((ad 55), ob 8 [.ref (ad 7), .ref (ad 30), .int 0, .int 0, .long 0, .ref (ad 56), .int 0, .int 0, .int 0, .int 0, .int 0]), ((ad 61), ob 9 [.ref (ad 7), .ref (ad 30), .ref (ad 46), .ref (ad 62), .ref (ad 63), .ref (ad 64), .ref (ad 65), .ref (ad 66), .ref (ad 67), .ref (ad 68), .ref (ad 69), .int 0, .int 0, .int 0, .int (-1), .ref (ad 70), .int 0, .int 0]), ((ad 76), ob 3 [.ref (ad 77), .ref (ad 78), .ref (ad 79), .ref (ad 71), .ref (ad 72), .ref (ad 73), .ref (ad 74), .ref (ad 75), .int (nI (2 * n9)), .int qv]), ((ad 77), aI E 64 qx), ((ad 78), aI E 64 qy), ((ad 79), aI E 64 qf), ((ad 71), aI E 64 qt), ((ad 72), aI E 64 qh), ((ad 73), aI E 64 (fun j => nI (srtO (cdLt (stC k9)) (fun j => srtO (cdLt (stC 0)) (fun _ => 0) (2 * 4) j) (2 * n9) j))), ((ad 74), aJ E 4 (faOf (stC k9) (2 * n9))), ((ad 75), aB E 4096 (seatOf (stC k9) (2 * n9)))] H := hP
    have hD : va_D A [(h0, ob 11 [.ref (ad 0), .ref (ad 7), .ref (ad 28), .ref (ad 30), .ref (ad 76), .ref (ad 46), .ref (ad 55), .ref (ad 57), .ref (ad 59), .ref (ad 61), .ref (ad 80), .int 0, .int 0, .int 0, .int (-1), .int (-1), .int (-1)]), ((ad 80), aI E 64 gc), ((ad 59), ob 4 [.ref (ad 60), .int 0, .int 0]), ((ad 55), ob 8 [.ref (ad 7), .ref (ad 30), .int 0, .int 0, .long 0, .ref (ad 56), .int 0, .int 0, .int 0, .int 0, .int 0]), ((ad 61), ob 9 [.ref (ad 7), .ref (ad 30), .ref (ad 46), .ref (ad 62), .ref (ad 63), .ref (ad 64), .ref (ad 65), .ref (ad 66), .ref (ad 67), .ref (ad 68), .ref (ad 69), .int 0, .int 0, .int 0, .int (-1), .ref (ad 70), .int 0, .int 0]), ((ad 76), ob 3 [.ref (ad 77), .ref (ad 78), .ref (ad 79), .ref (ad 71), .ref (ad 72), .ref (ad 73), .ref (ad 74), .ref (ad 75), .int (nI (2 * n9)), .int qv]), ((ad 77), aI E 64 qx), ((ad 78), aI E 64 qy), ((ad 79), aI E 64 qf), ((ad 71), aI E 64 qt), ((ad 72), aI E 64 qh), ((ad 73), aI E 64 (fun j => nI (srtO (cdLt (stC k9)) (fun j => srtO (cdLt (stC 0)) (fun _ => 0) (2 * 4) j) (2 * n9) j))), ((ad 74), aJ E 4 (faOf (stC k9) (2 * n9))), ((ad 75), aB E 4096 (seatOf (stC k9) (2 * n9)))] := hD
    refine lv_aload_n hx hb dX11_set_19 rfl (lv_at hl 0 rfl) ?_
    refine va_get (D := E.1) (ci := 11) (v := .ref (ad 76)) (C := RX11) (T := TX11) (N := 17) hx hb hts iX11 hown hK hP 0 rfl rfl 4 (by decide) (hts _ wdF_RX11_44) (fun _ h9 => h9) rfl dX11_set_20 ?_
    refine lv_aload_n hx hb dX11_set_23 rfl (lv_at hl 0 rfl) ?_
    refine va_get (D := E.1) (ci := 11) (v := .ref (ad 80)) (C := RX11) (T := TX11) (N := 17) hx hb hts iX11 hown hK hP 0 rfl rfl 10 (by decide) (hts _ wdF_RX11_79) (fun _ h9 => h9) rfl dX11_set_24 ?_
    refine cV_go (wr := [(h0, ob 11 [.ref (ad 0), .ref (ad 7), .ref (ad 28), .ref (ad 30), .ref (ad 76), .ref (ad 46), .ref (ad 55), .ref (ad 57), .ref (ad 59), .ref (ad 61), .ref (ad 80), .int 0, .int 0, .int 0, .int (-1), .int (-1), .int (-1)]), ((ad 59), ob 4 [.ref (ad 60), .int 0, .int 0]), ((ad 55), ob 8 [.ref (ad 7), .ref (ad 30), .int 0, .int 0, .long 0, .ref (ad 56), .int 0, .int 0, .int 0, .int 0, .int 0]), ((ad 61), ob 9 [.ref (ad 7), .ref (ad 30), .ref (ad 46), .ref (ad 62), .ref (ad 63), .ref (ad 64), .ref (ad 65), .ref (ad 66), .ref (ad 67), .ref (ad 68), .ref (ad 69), .int 0, .int 0, .int 0, .int (-1), .ref (ad 70), .int 0, .int 0]), ((ad 71), aI E 64 qt), ((ad 72), aI E 64 qh), ((ad 73), aI E 64 (fun j => nI (srtO (cdLt (stC k9)) (fun j => srtO (cdLt (stC 0)) (fun _ => 0) (2 * 4) j) (2 * n9) j))), ((ad 74), aJ E 4 (faOf (stC k9) (2 * n9))), ((ad 75), aB E 4096 (seatOf (stC k9) (2 * n9)))]) (cM_runV (As := [.ref (ad 80)]) (rest := []) F (c_X3_copyCodes l E (ad 76) (ad 77) (ad 78) (ad 79) (ad 71) (ad 72) (ad 73) (ad 74) (ad 75) (2 * n9) qv (stC k9) qx qy qf (ad 80) 64 gc hwl.1 (by omega) (by omega) (by decide)) yy_X3_copyCodes yi_X3_copyCodes wdM_RX11_97 hP hD hS hK hZ hA [5, 6, 7, 8, 1] rfl rfl 5 3 rfl rfl rfl hl.1 rfl (Nat.le_of_ble_eq_true rfl) dX11_set_27 ⟨by decide, by decide⟩ ⟨by decide, by decide⟩) hP hD hS hA [5, 6, 7, 8, 1] [0, 2, 3, 4, 9, 10, 11, 12, 13] rfl rfl rfl (by decide) (fun u_369 H locs hw_368 hP hD hS => ?_)
    obtain ⟨qc, rfl⟩ : ∃ z, z = u_369 := ⟨_, rfl⟩
    try dsimp only at hw_368
    have hP : va_P E.1 vwCl [(h0, ob 11 [.ref (ad 0), .ref (ad 7), .ref (ad 28), .ref (ad 30), .ref (ad 76), .ref (ad 46), .ref (ad 55), .ref (ad 57), .ref (ad 59), .ref (ad 61), .ref (ad 80), .int 0, .int 0, .int 0, .int (-1), .int (-1), .int (-1)]), ((ad 59), ob 4 [.ref (ad 60), .int 0, .int 0]), ((ad 55), ob 8 [.ref (ad 7), .ref (ad 30), .int 0, .int 0, .long 0, .ref (ad 56), .int 0, .int 0, .int 0, .int 0, .int 0]), ((ad 61), ob 9 [.ref (ad 7), .ref (ad 30), .ref (ad 46), .ref (ad 62), .ref (ad 63), .ref (ad 64), .ref (ad 65), .ref (ad 66), .ref (ad 67), .ref (ad 68), .ref (ad 69), .int 0, .int 0, .int 0, .int (-1), .ref (ad 70), .int 0, .int 0]), ((ad 71), aI E 64 qt), ((ad 72), aI E 64 qh), ((ad 73), aI E 64 (fun j => nI (srtO (cdLt (stC k9)) (fun j => srtO (cdLt (stC 0)) (fun _ => 0) (2 * 4) j) (2 * n9) j))), ((ad 74), aJ E 4 (faOf (stC k9) (2 * n9))), ((ad 75), aB E 4096 (seatOf (stC k9) (2 * n9))), ((ad 76), ob 3 [.ref (ad 77), .ref (ad 78), .ref (ad 79), .ref (ad 71), .ref (ad 72), .ref (ad 73), .ref (ad 74), .ref (ad 75), .int (nI (2 * n9)), .int qv]), ((ad 77), aI E 64 qx), ((ad 78), aI E 64 qy), ((ad 79), aI E 64 qf), ((ad 80), aI E 64 qc)] H := hP
    have hD : va_D A [(h0, ob 11 [.ref (ad 0), .ref (ad 7), .ref (ad 28), .ref (ad 30), .ref (ad 76), .ref (ad 46), .ref (ad 55), .ref (ad 57), .ref (ad 59), .ref (ad 61), .ref (ad 80), .int 0, .int 0, .int 0, .int (-1), .int (-1), .int (-1)]), ((ad 59), ob 4 [.ref (ad 60), .int 0, .int 0]), ((ad 55), ob 8 [.ref (ad 7), .ref (ad 30), .int 0, .int 0, .long 0, .ref (ad 56), .int 0, .int 0, .int 0, .int 0, .int 0]), ((ad 61), ob 9 [.ref (ad 7), .ref (ad 30), .ref (ad 46), .ref (ad 62), .ref (ad 63), .ref (ad 64), .ref (ad 65), .ref (ad 66), .ref (ad 67), .ref (ad 68), .ref (ad 69), .int 0, .int 0, .int 0, .int (-1), .ref (ad 70), .int 0, .int 0]), ((ad 71), aI E 64 qt), ((ad 72), aI E 64 qh), ((ad 73), aI E 64 (fun j => nI (srtO (cdLt (stC k9)) (fun j => srtO (cdLt (stC 0)) (fun _ => 0) (2 * 4) j) (2 * n9) j))), ((ad 74), aJ E 4 (faOf (stC k9) (2 * n9))), ((ad 75), aB E 4096 (seatOf (stC k9) (2 * n9))), ((ad 76), ob 3 [.ref (ad 77), .ref (ad 78), .ref (ad 79), .ref (ad 71), .ref (ad 72), .ref (ad 73), .ref (ad 74), .ref (ad 75), .int (nI (2 * n9)), .int qv]), ((ad 77), aI E 64 qx), ((ad 78), aI E 64 qy), ((ad 79), aI E 64 qf), ((ad 80), aI E 64 qc)] := hD
    refine lv_aload_n hx hb dX11_set_30 rfl (lv_at hl 0 rfl) ?_
    refine va_get (D := E.1) (ci := 11) (v := .ref (ad 59)) (C := RX11) (T := TX11) (N := 17) hx hb hts iX11 hown hK hP 0 rfl rfl 8 (by decide) (hts _ wdF_RX11_66) (fun _ h9 => h9) rfl dX11_set_31 ?_
    refine cV_go (wr := [(h0, ob 11 [.ref (ad 0), .ref (ad 7), .ref (ad 28), .ref (ad 30), .ref (ad 76), .ref (ad 46), .ref (ad 55), .ref (ad 57), .ref (ad 59), .ref (ad 61), .ref (ad 80), .int 0, .int 0, .int 0, .int (-1), .int (-1), .int (-1)]), ((ad 55), ob 8 [.ref (ad 7), .ref (ad 30), .int 0, .int 0, .long 0, .ref (ad 56), .int 0, .int 0, .int 0, .int 0, .int 0]), ((ad 61), ob 9 [.ref (ad 7), .ref (ad 30), .ref (ad 46), .ref (ad 62), .ref (ad 63), .ref (ad 64), .ref (ad 65), .ref (ad 66), .ref (ad 67), .ref (ad 68), .ref (ad 69), .int 0, .int 0, .int 0, .int (-1), .ref (ad 70), .int 0, .int 0]), ((ad 71), aI E 64 qt), ((ad 72), aI E 64 qh), ((ad 73), aI E 64 (fun j => nI (srtO (cdLt (stC k9)) (fun j => srtO (cdLt (stC 0)) (fun _ => 0) (2 * 4) j) (2 * n9) j))), ((ad 74), aJ E 4 (faOf (stC k9) (2 * n9))), ((ad 75), aB E 4096 (seatOf (stC k9) (2 * n9))), ((ad 76), ob 3 [.ref (ad 77), .ref (ad 78), .ref (ad 79), .ref (ad 71), .ref (ad 72), .ref (ad 73), .ref (ad 74), .ref (ad 75), .int (nI (2 * n9)), .int qv]), ((ad 77), aI E 64 qx), ((ad 78), aI E 64 qy), ((ad 79), aI E 64 qf), ((ad 80), aI E 64 qc)]) (cM_runV (As := []) (rest := []) F (p_X4_clear l E h0 ad gx gy gf v2 gt gh gc) yy_X4_clear yi_X4_clear wdM_RX11_148 hP hD hS hK hZ hA [1] rfl rfl 1 4 rfl rfl rfl hl.1 rfl (Nat.le_of_ble_eq_true rfl) dX11_set_34 ⟨by decide, by decide⟩ ⟨by decide, by decide⟩) hP hD hS hA [1] [0, 2, 3, 4, 5, 6, 7, 8, 9, 10, 11, 12, 13] rfl rfl rfl (by decide) (fun u_372 H locs hw_371 hP hD hS => ?_)
    try dsimp only at hw_371
    have hP : va_P E.1 vwCl [(h0, ob 11 [.ref (ad 0), .ref (ad 7), .ref (ad 28), .ref (ad 30), .ref (ad 76), .ref (ad 46), .ref (ad 55), .ref (ad 57), .ref (ad 59), .ref (ad 61), .ref (ad 80), .int 0, .int 0, .int 0, .int (-1), .int (-1), .int (-1)]), ((ad 55), ob 8 [.ref (ad 7), .ref (ad 30), .int 0, .int 0, .long 0, .ref (ad 56), .int 0, .int 0, .int 0, .int 0, .int 0]), ((ad 61), ob 9 [.ref (ad 7), .ref (ad 30), .ref (ad 46), .ref (ad 62), .ref (ad 63), .ref (ad 64), .ref (ad 65), .ref (ad 66), .ref (ad 67), .ref (ad 68), .ref (ad 69), .int 0, .int 0, .int 0, .int (-1), .ref (ad 70), .int 0, .int 0]), ((ad 71), aI E 64 qt), ((ad 72), aI E 64 qh), ((ad 73), aI E 64 (fun j => nI (srtO (cdLt (stC k9)) (fun j => srtO (cdLt (stC 0)) (fun _ => 0) (2 * 4) j) (2 * n9) j))), ((ad 74), aJ E 4 (faOf (stC k9) (2 * n9))), ((ad 75), aB E 4096 (seatOf (stC k9) (2 * n9))), ((ad 76), ob 3 [.ref (ad 77), .ref (ad 78), .ref (ad 79), .ref (ad 71), .ref (ad 72), .ref (ad 73), .ref (ad 74), .ref (ad 75), .int (nI (2 * n9)), .int qv]), ((ad 77), aI E 64 qx), ((ad 78), aI E 64 qy), ((ad 79), aI E 64 qf), ((ad 80), aI E 64 qc), ((ad 59), ob 4 [.ref (ad 60), .int 0, .int 0])] H := hP
    have hD : va_D A [(h0, ob 11 [.ref (ad 0), .ref (ad 7), .ref (ad 28), .ref (ad 30), .ref (ad 76), .ref (ad 46), .ref (ad 55), .ref (ad 57), .ref (ad 59), .ref (ad 61), .ref (ad 80), .int 0, .int 0, .int 0, .int (-1), .int (-1), .int (-1)]), ((ad 55), ob 8 [.ref (ad 7), .ref (ad 30), .int 0, .int 0, .long 0, .ref (ad 56), .int 0, .int 0, .int 0, .int 0, .int 0]), ((ad 61), ob 9 [.ref (ad 7), .ref (ad 30), .ref (ad 46), .ref (ad 62), .ref (ad 63), .ref (ad 64), .ref (ad 65), .ref (ad 66), .ref (ad 67), .ref (ad 68), .ref (ad 69), .int 0, .int 0, .int 0, .int (-1), .ref (ad 70), .int 0, .int 0]), ((ad 71), aI E 64 qt), ((ad 72), aI E 64 qh), ((ad 73), aI E 64 (fun j => nI (srtO (cdLt (stC k9)) (fun j => srtO (cdLt (stC 0)) (fun _ => 0) (2 * 4) j) (2 * n9) j))), ((ad 74), aJ E 4 (faOf (stC k9) (2 * n9))), ((ad 75), aB E 4096 (seatOf (stC k9) (2 * n9))), ((ad 76), ob 3 [.ref (ad 77), .ref (ad 78), .ref (ad 79), .ref (ad 71), .ref (ad 72), .ref (ad 73), .ref (ad 74), .ref (ad 75), .int (nI (2 * n9)), .int qv]), ((ad 77), aI E 64 qx), ((ad 78), aI E 64 qy), ((ad 79), aI E 64 qf), ((ad 80), aI E 64 qc), ((ad 59), ob 4 [.ref (ad 60), .int 0, .int 0])] := hD
    refine lv_aload_n hx hb dX11_set_37 rfl (lv_at hl 0 rfl) ?_
    refine va_get (D := E.1) (ci := 11) (v := .ref (ad 55)) (C := RX11) (T := TX11) (N := 17) hx hb hts iX11 hown hK hP 0 rfl rfl 6 (by decide) (hts _ wdF_RX11_56) (fun _ h9 => h9) rfl dX11_set_38 ?_
    refine lv_iconst (v := nI 0) hx hb dX11_set_41 (by decide) ?_
    refine va_put (D := E.1) (ci := 8) (v := .int (nI 0)) (ty := .boolean) (C := RX8) (T := TX8) (N := 11) hx hb hts iX8 tyX8 tyX8_ok nmX8 hown hK hP hD hS 1 rfl rfl 2 (by decide) (hts _ wdF_RX11_151) (fun _ h9 => h9) rfl (by decide +kernel) (by decide) (by decide) (Nat.le_of_ble_eq_true rfl) dX11_set_42 (fun H locs hP hD hS => ?_)
    have hP : va_P E.1 vwCl [(h0, ob 11 [.ref (ad 0), .ref (ad 7), .ref (ad 28), .ref (ad 30), .ref (ad 76), .ref (ad 46), .ref (ad 55), .ref (ad 57), .ref (ad 59), .ref (ad 61), .ref (ad 80), .int 0, .int 0, .int 0, .int (-1), .int (-1), .int (-1)]), ((ad 55), ob 8 [.ref (ad 7), .ref (ad 30), .int (nI 0), .int 0, .long 0, .ref (ad 56), .int 0, .int 0, .int 0, .int 0, .int 0]), ((ad 61), ob 9 [.ref (ad 7), .ref (ad 30), .ref (ad 46), .ref (ad 62), .ref (ad 63), .ref (ad 64), .ref (ad 65), .ref (ad 66), .ref (ad 67), .ref (ad 68), .ref (ad 69), .int 0, .int 0, .int 0, .int (-1), .ref (ad 70), .int 0, .int 0]), ((ad 71), aI E 64 qt), ((ad 72), aI E 64 qh), ((ad 73), aI E 64 (fun j => nI (srtO (cdLt (stC k9)) (fun j => srtO (cdLt (stC 0)) (fun _ => 0) (2 * 4) j) (2 * n9) j))), ((ad 74), aJ E 4 (faOf (stC k9) (2 * n9))), ((ad 75), aB E 4096 (seatOf (stC k9) (2 * n9))), ((ad 76), ob 3 [.ref (ad 77), .ref (ad 78), .ref (ad 79), .ref (ad 71), .ref (ad 72), .ref (ad 73), .ref (ad 74), .ref (ad 75), .int (nI (2 * n9)), .int qv]), ((ad 77), aI E 64 qx), ((ad 78), aI E 64 qy), ((ad 79), aI E 64 qf), ((ad 80), aI E 64 qc), ((ad 59), ob 4 [.ref (ad 60), .int 0, .int 0])] H := hP
    have hD : va_D A [(h0, ob 11 [.ref (ad 0), .ref (ad 7), .ref (ad 28), .ref (ad 30), .ref (ad 76), .ref (ad 46), .ref (ad 55), .ref (ad 57), .ref (ad 59), .ref (ad 61), .ref (ad 80), .int 0, .int 0, .int 0, .int (-1), .int (-1), .int (-1)]), ((ad 55), ob 8 [.ref (ad 7), .ref (ad 30), .int (nI 0), .int 0, .long 0, .ref (ad 56), .int 0, .int 0, .int 0, .int 0, .int 0]), ((ad 61), ob 9 [.ref (ad 7), .ref (ad 30), .ref (ad 46), .ref (ad 62), .ref (ad 63), .ref (ad 64), .ref (ad 65), .ref (ad 66), .ref (ad 67), .ref (ad 68), .ref (ad 69), .int 0, .int 0, .int 0, .int (-1), .ref (ad 70), .int 0, .int 0]), ((ad 71), aI E 64 qt), ((ad 72), aI E 64 qh), ((ad 73), aI E 64 (fun j => nI (srtO (cdLt (stC k9)) (fun j => srtO (cdLt (stC 0)) (fun _ => 0) (2 * 4) j) (2 * n9) j))), ((ad 74), aJ E 4 (faOf (stC k9) (2 * n9))), ((ad 75), aB E 4096 (seatOf (stC k9) (2 * n9))), ((ad 76), ob 3 [.ref (ad 77), .ref (ad 78), .ref (ad 79), .ref (ad 71), .ref (ad 72), .ref (ad 73), .ref (ad 74), .ref (ad 75), .int (nI (2 * n9)), .int qv]), ((ad 77), aI E 64 qx), ((ad 78), aI E 64 qy), ((ad 79), aI E 64 qf), ((ad 80), aI E 64 qc), ((ad 59), ob 4 [.ref (ad 60), .int 0, .int 0])] := hD
    refine lv_aload_n hx hb dX11_set_45 rfl (lv_at hl 0 rfl) ?_
    refine va_get (D := E.1) (ci := 11) (v := .ref (ad 61)) (C := RX11) (T := TX11) (N := 17) hx hb hts iX11 hown hK hP 0 rfl rfl 9 (by decide) (hts _ wdF_RX11_75) (fun _ h9 => h9) rfl dX11_set_46 ?_
    refine cV_go (wr := [(h0, ob 11 [.ref (ad 0), .ref (ad 7), .ref (ad 28), .ref (ad 30), .ref (ad 76), .ref (ad 46), .ref (ad 55), .ref (ad 57), .ref (ad 59), .ref (ad 61), .ref (ad 80), .int 0, .int 0, .int 0, .int (-1), .int (-1), .int (-1)]), ((ad 55), ob 8 [.ref (ad 7), .ref (ad 30), .int (nI 0), .int 0, .long 0, .ref (ad 56), .int 0, .int 0, .int 0, .int 0, .int 0]), ((ad 71), aI E 64 qt), ((ad 72), aI E 64 qh), ((ad 73), aI E 64 (fun j => nI (srtO (cdLt (stC k9)) (fun j => srtO (cdLt (stC 0)) (fun _ => 0) (2 * 4) j) (2 * n9) j))), ((ad 74), aJ E 4 (faOf (stC k9) (2 * n9))), ((ad 75), aB E 4096 (seatOf (stC k9) (2 * n9))), ((ad 76), ob 3 [.ref (ad 77), .ref (ad 78), .ref (ad 79), .ref (ad 71), .ref (ad 72), .ref (ad 73), .ref (ad 74), .ref (ad 75), .int (nI (2 * n9)), .int qv]), ((ad 77), aI E 64 qx), ((ad 78), aI E 64 qy), ((ad 79), aI E 64 qf), ((ad 80), aI E 64 qc), ((ad 59), ob 4 [.ref (ad 60), .int 0, .int 0])]) (cM_runV (As := []) (rest := []) F (p_X9_forget l E h0 ad gx gy gf v2 gt gh gc) yy_X9_forget yi_X9_forget wdM_RX11_155 hP hD hS hK hZ hA [2] rfl rfl 2 9 rfl rfl rfl hl.1 rfl (Nat.le_of_ble_eq_true rfl) dX11_set_49 ⟨by decide, by decide⟩ ⟨by decide, by decide⟩) hP hD hS hA [2] [0, 1, 3, 4, 5, 6, 7, 8, 9, 10, 11, 12, 13] rfl rfl rfl (by decide) (fun u_375 H locs hw_374 hP hD hS => ?_)
    try dsimp only at hw_374
    have hP : va_P E.1 vwCl [(h0, ob 11 [.ref (ad 0), .ref (ad 7), .ref (ad 28), .ref (ad 30), .ref (ad 76), .ref (ad 46), .ref (ad 55), .ref (ad 57), .ref (ad 59), .ref (ad 61), .ref (ad 80), .int 0, .int 0, .int 0, .int (-1), .int (-1), .int (-1)]), ((ad 55), ob 8 [.ref (ad 7), .ref (ad 30), .int (nI 0), .int 0, .long 0, .ref (ad 56), .int 0, .int 0, .int 0, .int 0, .int 0]), ((ad 71), aI E 64 qt), ((ad 72), aI E 64 qh), ((ad 73), aI E 64 (fun j => nI (srtO (cdLt (stC k9)) (fun j => srtO (cdLt (stC 0)) (fun _ => 0) (2 * 4) j) (2 * n9) j))), ((ad 74), aJ E 4 (faOf (stC k9) (2 * n9))), ((ad 75), aB E 4096 (seatOf (stC k9) (2 * n9))), ((ad 76), ob 3 [.ref (ad 77), .ref (ad 78), .ref (ad 79), .ref (ad 71), .ref (ad 72), .ref (ad 73), .ref (ad 74), .ref (ad 75), .int (nI (2 * n9)), .int qv]), ((ad 77), aI E 64 qx), ((ad 78), aI E 64 qy), ((ad 79), aI E 64 qf), ((ad 80), aI E 64 qc), ((ad 59), ob 4 [.ref (ad 60), .int 0, .int 0])] H := hP
    have hD : va_D A [(h0, ob 11 [.ref (ad 0), .ref (ad 7), .ref (ad 28), .ref (ad 30), .ref (ad 76), .ref (ad 46), .ref (ad 55), .ref (ad 57), .ref (ad 59), .ref (ad 61), .ref (ad 80), .int 0, .int 0, .int 0, .int (-1), .int (-1), .int (-1)]), ((ad 55), ob 8 [.ref (ad 7), .ref (ad 30), .int (nI 0), .int 0, .long 0, .ref (ad 56), .int 0, .int 0, .int 0, .int 0, .int 0]), ((ad 71), aI E 64 qt), ((ad 72), aI E 64 qh), ((ad 73), aI E 64 (fun j => nI (srtO (cdLt (stC k9)) (fun j => srtO (cdLt (stC 0)) (fun _ => 0) (2 * 4) j) (2 * n9) j))), ((ad 74), aJ E 4 (faOf (stC k9) (2 * n9))), ((ad 75), aB E 4096 (seatOf (stC k9) (2 * n9))), ((ad 76), ob 3 [.ref (ad 77), .ref (ad 78), .ref (ad 79), .ref (ad 71), .ref (ad 72), .ref (ad 73), .ref (ad 74), .ref (ad 75), .int (nI (2 * n9)), .int qv]), ((ad 77), aI E 64 qx), ((ad 78), aI E 64 qy), ((ad 79), aI E 64 qf), ((ad 80), aI E 64 qc), ((ad 59), ob 4 [.ref (ad 60), .int 0, .int 0])] := hD
    refine lv_aload_n hx hb dX11_set_52 rfl (lv_at hl 0 rfl) ?_
    refine lv_iconst (v := nI 0) hx hb dX11_set_53 (by decide) ?_
    refine va_put (D := E.1) (ci := 11) (v := .int (nI 0)) (ty := .int) (C := RX11) (T := TX11) (N := 17) hx hb hts iX11 tyX11 tyX11_ok nmX11 hown hK hP hD hS 0 rfl rfl 11 (by decide) (hts _ wdF_RX11_158) (fun _ h9 => h9) rfl (by decide +kernel) rfl rfl (Nat.le_of_ble_eq_true rfl) dX11_set_54 (fun H locs hP hD hS => ?_)
    have hP : va_P E.1 vwCl [(h0, ob 11 [.ref (ad 0), .ref (ad 7), .ref (ad 28), .ref (ad 30), .ref (ad 76), .ref (ad 46), .ref (ad 55), .ref (ad 57), .ref (ad 59), .ref (ad 61), .ref (ad 80), .int (nI 0), .int 0, .int 0, .int (-1), .int (-1), .int (-1)]), ((ad 55), ob 8 [.ref (ad 7), .ref (ad 30), .int (nI 0), .int 0, .long 0, .ref (ad 56), .int 0, .int 0, .int 0, .int 0, .int 0]), ((ad 71), aI E 64 qt), ((ad 72), aI E 64 qh), ((ad 73), aI E 64 (fun j => nI (srtO (cdLt (stC k9)) (fun j => srtO (cdLt (stC 0)) (fun _ => 0) (2 * 4) j) (2 * n9) j))), ((ad 74), aJ E 4 (faOf (stC k9) (2 * n9))), ((ad 75), aB E 4096 (seatOf (stC k9) (2 * n9))), ((ad 76), ob 3 [.ref (ad 77), .ref (ad 78), .ref (ad 79), .ref (ad 71), .ref (ad 72), .ref (ad 73), .ref (ad 74), .ref (ad 75), .int (nI (2 * n9)), .int qv]), ((ad 77), aI E 64 qx), ((ad 78), aI E 64 qy), ((ad 79), aI E 64 qf), ((ad 80), aI E 64 qc), ((ad 59), ob 4 [.ref (ad 60), .int 0, .int 0])] H := hP
    have hD : va_D A [(h0, ob 11 [.ref (ad 0), .ref (ad 7), .ref (ad 28), .ref (ad 30), .ref (ad 76), .ref (ad 46), .ref (ad 55), .ref (ad 57), .ref (ad 59), .ref (ad 61), .ref (ad 80), .int (nI 0), .int 0, .int 0, .int (-1), .int (-1), .int (-1)]), ((ad 55), ob 8 [.ref (ad 7), .ref (ad 30), .int (nI 0), .int 0, .long 0, .ref (ad 56), .int 0, .int 0, .int 0, .int 0, .int 0]), ((ad 71), aI E 64 qt), ((ad 72), aI E 64 qh), ((ad 73), aI E 64 (fun j => nI (srtO (cdLt (stC k9)) (fun j => srtO (cdLt (stC 0)) (fun _ => 0) (2 * 4) j) (2 * n9) j))), ((ad 74), aJ E 4 (faOf (stC k9) (2 * n9))), ((ad 75), aB E 4096 (seatOf (stC k9) (2 * n9))), ((ad 76), ob 3 [.ref (ad 77), .ref (ad 78), .ref (ad 79), .ref (ad 71), .ref (ad 72), .ref (ad 73), .ref (ad 74), .ref (ad 75), .int (nI (2 * n9)), .int qv]), ((ad 77), aI E 64 qx), ((ad 78), aI E 64 qy), ((ad 79), aI E 64 qf), ((ad 80), aI E 64 qc), ((ad 59), ob 4 [.ref (ad 60), .int 0, .int 0])] := hD
    refine lv_aload_n hx hb dX11_set_57 rfl (lv_at hl 0 rfl) ?_
    refine lv_iconst (v := nI 0) hx hb dX11_set_58 (by decide) ?_
    refine va_put (D := E.1) (ci := 11) (v := .int (nI 0)) (ty := .int) (C := RX11) (T := TX11) (N := 17) hx hb hts iX11 tyX11 tyX11_ok nmX11 hown hK hP hD hS 0 rfl rfl 12 (by decide) (hts _ wdF_RX11_161) (fun _ h9 => h9) rfl (by decide +kernel) rfl rfl (Nat.le_of_ble_eq_true rfl) dX11_set_59 (fun H locs hP hD hS => ?_)
    have hP : va_P E.1 vwCl [(h0, ob 11 [.ref (ad 0), .ref (ad 7), .ref (ad 28), .ref (ad 30), .ref (ad 76), .ref (ad 46), .ref (ad 55), .ref (ad 57), .ref (ad 59), .ref (ad 61), .ref (ad 80), .int (nI 0), .int (nI 0), .int 0, .int (-1), .int (-1), .int (-1)]), ((ad 55), ob 8 [.ref (ad 7), .ref (ad 30), .int (nI 0), .int 0, .long 0, .ref (ad 56), .int 0, .int 0, .int 0, .int 0, .int 0]), ((ad 71), aI E 64 qt), ((ad 72), aI E 64 qh), ((ad 73), aI E 64 (fun j => nI (srtO (cdLt (stC k9)) (fun j => srtO (cdLt (stC 0)) (fun _ => 0) (2 * 4) j) (2 * n9) j))), ((ad 74), aJ E 4 (faOf (stC k9) (2 * n9))), ((ad 75), aB E 4096 (seatOf (stC k9) (2 * n9))), ((ad 76), ob 3 [.ref (ad 77), .ref (ad 78), .ref (ad 79), .ref (ad 71), .ref (ad 72), .ref (ad 73), .ref (ad 74), .ref (ad 75), .int (nI (2 * n9)), .int qv]), ((ad 77), aI E 64 qx), ((ad 78), aI E 64 qy), ((ad 79), aI E 64 qf), ((ad 80), aI E 64 qc), ((ad 59), ob 4 [.ref (ad 60), .int 0, .int 0])] H := hP
    have hD : va_D A [(h0, ob 11 [.ref (ad 0), .ref (ad 7), .ref (ad 28), .ref (ad 30), .ref (ad 76), .ref (ad 46), .ref (ad 55), .ref (ad 57), .ref (ad 59), .ref (ad 61), .ref (ad 80), .int (nI 0), .int (nI 0), .int 0, .int (-1), .int (-1), .int (-1)]), ((ad 55), ob 8 [.ref (ad 7), .ref (ad 30), .int (nI 0), .int 0, .long 0, .ref (ad 56), .int 0, .int 0, .int 0, .int 0, .int 0]), ((ad 71), aI E 64 qt), ((ad 72), aI E 64 qh), ((ad 73), aI E 64 (fun j => nI (srtO (cdLt (stC k9)) (fun j => srtO (cdLt (stC 0)) (fun _ => 0) (2 * 4) j) (2 * n9) j))), ((ad 74), aJ E 4 (faOf (stC k9) (2 * n9))), ((ad 75), aB E 4096 (seatOf (stC k9) (2 * n9))), ((ad 76), ob 3 [.ref (ad 77), .ref (ad 78), .ref (ad 79), .ref (ad 71), .ref (ad 72), .ref (ad 73), .ref (ad 74), .ref (ad 75), .int (nI (2 * n9)), .int qv]), ((ad 77), aI E 64 qx), ((ad 78), aI E 64 qy), ((ad 79), aI E 64 qf), ((ad 80), aI E 64 qc), ((ad 59), ob 4 [.ref (ad 60), .int 0, .int 0])] := hD
    refine lv_iconst (v := nI 1) hx hb dX11_set_62 (by decide) ?_
    exact cB_ret F hP hD hS hK (by decide) () (if_pos c2).symm [] rfl rfl dX11_set_63 (by decide) (by decide)
  · have c2 : ¬ ((k = 0 ∧ n = 4) ∨ (1 ≤ k ∧ k ≤ 3 ∧ 1 ≤ n ∧ n ≤ 32)) := fun h => absurd (hw_363.symm.trans c1) (by rw [if_pos h]; decide)
    refine lv_iconst (v := nI 0) hx hb dX11_set_8 (by decide) ?_
    exact cB_ret F hP hD hS hK (by decide) () (if_neg c2).symm [] rfl rfl dX11_set_9 (by decide) (by decide)
theorem yy_X11_set : cY yX11_set cX11_set 3 (some .boolean) 2 := ⟨wdK_X11_set, wdZ_RX11, by decide +kernel⟩
theorem yi_X11_set : cYi yX11_set := ⟨wdN_X11_set, wdS_X11_set⟩
