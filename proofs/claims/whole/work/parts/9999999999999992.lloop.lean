/-! the law: its loop -/
theorem lw_hd {p : Program} {l : Launch} {e : Env} {s : State} {m : MethodId} {below : List Frame} {meth : Method} {c : Code} {E : cE} {b L xo mo : Nat} {xs : Nat → Int32} (X : gX p s m meth c cL_law 4 ret yL_law #[Value.ref b] E (fun q : Nat => s.heap.size ≤ q)) (hX : va_X b L xs s s.heap) (hbl : b < s.heap.size) (hL : L ≤ 3072) {ce sl i : Nat} {ws : va_W} (hce : ce ≤ 600000) (hsl : sl ≤ 7302250) (hi : i ≤ 4000) (kk : i + 6 ≤ L → kP ce sl p l e room_1 s m #[Value.ref b] below meth c E (fun q : Nat => s.heap.size ≤ q) 4 (lw_Z below #[Value.ref b] s) ws 27 (lwL b xo mo i) []) : kP ce sl p l e room_1 s m #[Value.ref b] below meth c E (fun q : Nat => s.heap.size ≤ q) 4 (lw_Z below #[Value.ref b] s) ws 18 (lwL b xo mo i) [] := by
  have hbA : ¬ (fun q : Nat => s.heap.size ≤ q) b := Nat.not_le.mpr hbl
  obtain ⟨hx, hb, hr, hml, hown, hts, hlocks, hin⟩ := id X.1
  intro H locs ls hP hD hS hl
  refine lv_iload_n hx hb dL_law_18 rfl (lv_at hl 3 rfl) ?_
  refine lv_aload_n hx hb dL_law_19 rfl (lv_at hl 0 rfl) ?_
  refine va_slen hx hb hX hbl hbA hS dL_law_20 ?_
  refine W.eq (g2 := F0 m 21 ls [.int (nI L), .int (nI i)]) rfl ?_
  refine lv_bipush (v := nI 6) hx hb dL_law_21 (by decide) ?_
  refine lv_isub hx hb dL_law_23 ?_
  refine lv_icmp_gt (tgt := 721) hx hb dL_law_24 (by decide) (fun c1 => ?_) (fun c1 => ?_)
  · refine lv_iconst (v := nI 1) hx hb dL_law_721 (by decide) ?_
    refine va_forget (fun q hq => hS.2.2 q hq) ?_
    refine W.widen (k := 600000) (n := 7302250) hce hsl ?_
    exact lw_ret hx hb hr hlocks dL_law_722
  · refine kk ?_ H locs ls hP hD hS hl
    by_cases h9 : i + 6 ≤ L
    · exact h9
    · exact absurd (Int32.lt_iff_toInt_lt.mpr (by rw [pk_sub_toInt (by omega) (by omega), nI_toInt (by omega)]; omega)) c1
set_option maxHeartbeats 4000000 in
theorem law_lp {p : Program} {l : Launch} {e : Env} {s : State} {m : MethodId} {below : List Frame} {meth : Method} {c : Code} {E : cE} {b L xo mo : Nat} {xs : Nat → Int32} (X : gX p s m meth c cL_law 4 ret yL_law #[Value.ref b] E (fun q : Nat => s.heap.size ≤ q)) (hX : va_X b L xs s s.heap) (hbl : b < s.heap.size) (hL : L ≤ 3072) : ∀ (d cn i ce sl : Nat) (ws : va_W), i = 6 * cn → L ≤ i + 6 * d + 5 → cn + d ≤ 600 → ce ≤ 150 + 4 * cn → sl ≤ 989044 + 1576 * cn → LWw cn E xo mo ws → kP ce sl p l e room_1 s m #[Value.ref b] below meth c E (fun q : Nat => s.heap.size ≤ q) 4 (lw_Z below #[Value.ref b] s) ws 18 (lwL b xo mo i) [] := by
  have hbA : ¬ (fun q : Nat => s.heap.size ≤ q) b := Nat.not_le.mpr hbl
  obtain ⟨hx, hb, hr, hml, hown, hts, hlocks, hin⟩ := id X.1
  intro d
  induction d with
  | zero =>
    intro cn i ce sl ws h1 h2 h3 h4 h5 hW
    exact lw_hd X hX hbl hL (by omega) (by omega) (by omega) (fun h => by omega)
  | succ d ih =>
    intro cn i ce sl ws h1 h2 h3 h4 h5 hW
    refine lw_hd X hX hbl hL (by omega) (by omega) (by omega) (fun h6 => ?_)
    have hcr : ce + 4 ≤ 600000 ∧ sl + 1576 ≤ 7302250 := by omega
    have hc6 : cn ≤ 600 := by omega
    have kk : ∀ w2 : va_W, LWw (cn + 1) E xo mo w2 → kP (ce + 4) (sl + 1576) p l e room_1 s m #[Value.ref b] below meth c E (fun q : Nat => s.heap.size ≤ q) 4 (lw_Z below #[Value.ref b] s) w2 715 (lwL b xo mo i) [] := fun w2 hw2 => by
      intro H locs ls hP hD hS hl
      refine lv_iinc (v := nI (i + 6)) (lv' := [(3, .int (nI (i + 6))), (0, .ref b), (1, .ref xo), (2, .ref mo)]) hx hb dL_law_715 hl (k := 3) rfl (by rw [show Int32.ofInt 6 = nI 6 from by decide, nI_add]) (by decide) rfl (fun ls hl => ?_)
      refine lv_goto (tgt := 18) hx hb dL_law_718 (by decide) ?_
      exact ih (cn + 1) (i + 6) (ce + 4) (sl + 1576) w2 (by omega) (by omega) (by omega) (by omega) (by omega) hw2 H locs ls hP hD hS (lv_sub hl [1, 2, 3, 0] rfl)
    intro H locs ls hP hD hS hl
    refine lv_aload_n hx hb dL_law_27 rfl (lv_at hl 0 rfl) ?_
    refine lv_iload_n hx hb dL_law_28 rfl (lv_at hl 3 rfl) ?_
    refine va_sld hx hb hX hbl hbA hS (i := nI i) (vp_in_nI (by omega) (by omega)) dL_law_29 ?_
    rw [nI_clamp (n := i) (by omega)]
    refine lv_bipush (v := nI 31) hx hb dL_law_30 (by decide) ?_
    refine lv_iand hx hb dL_law_32 ?_
    obtain ⟨j9, hj9, ej9⟩ := pk_andE (xs i) (m := nI 31) 5 (by decide)
    rw [ej9]
    rcases (show j9 = 0 ∨ j9 = 1 ∨ j9 = 2 ∨ j9 = 3 ∨ j9 = 4 ∨ j9 = 5 ∨ j9 = 6 ∨ j9 = 7 ∨ j9 = 8 ∨ j9 = 9 ∨ j9 = 10 ∨ j9 = 11 ∨ j9 = 12 ∨ j9 = 13 ∨ j9 = 14 ∨ j9 = 15 ∨ j9 = 16 ∨ j9 = 17 ∨ j9 = 18 ∨ j9 = 19 ∨ j9 = 20 ∨ j9 = 21 ∨ j9 = 22 ∨ j9 = 23 ∨ 24 ≤ j9 by omega) with rfl | rfl | rfl | rfl | rfl | rfl | rfl | rfl | rfl | rfl | rfl | rfl | rfl | rfl | rfl | rfl | rfl | rfl | rfl | rfl | rfl | rfl | rfl | rfl | hj24
    · refine lv_tableIn (tgt := 144) hx hb dL_law_33 (by decide) (by decide) (off := 111) (by decide) (by decide) ?_
      exact lc_feed X hX hbl hbA hL h6 hc6 hcr hW kk H locs ls hP hD hS hl
    · refine lv_tableIn (tgt := 207) hx hb dL_law_33 (by decide) (by decide) (off := 174) (by decide) (by decide) ?_
      exact lc_end X hX hbl hbA hL h6 hc6 hcr hW kk H locs ls hP hD hS hl
    · refine lv_tableIn (tgt := 230) hx hb dL_law_33 (by decide) (by decide) (off := 197) (by decide) (by decide) ?_
      exact lc_load X hX hbl hbA hL h6 hc6 hcr hW kk H locs ls hP hD hS hl
    · refine lv_tableIn (tgt := 243) hx hb dL_law_33 (by decide) (by decide) (off := 210) (by decide) (by decide) ?_
      exact lc_call X hX hbl hbA hL h6 hc6 hcr hW kk H locs ls hP hD hS hl
    · refine lv_tableIn (tgt := 256) hx hb dL_law_33 (by decide) (by decide) (off := 223) (by decide) (by decide) ?_
      exact lc_fault X hX hbl hbA hL h6 hc6 hcr hW kk H locs ls hP hD hS hl
    · refine lv_tableIn (tgt := 269) hx hb dL_law_33 (by decide) (by decide) (off := 236) (by decide) (by decide) ?_
      exact lc_named X hX hbl hbA hL h6 hc6 hcr hW kk H locs ls hP hD hS hl
    · refine lv_tableIn (tgt := 292) hx hb dL_law_33 (by decide) (by decide) (off := 259) (by decide) (by decide) ?_
      exact lc_set X hX hbl hbA hL h6 hc6 hcr hW kk H locs ls hP hD hS hl
    · refine lv_tableIn (tgt := 325) hx hb dL_law_33 (by decide) (by decide) (off := 292) (by decide) (by decide) ?_
      exact lc_mark X hX hbl hbA hL h6 hc6 hcr hW kk H locs ls hP hD hS hl
    · refine lv_tableIn (tgt := 336) hx hb dL_law_33 (by decide) (by decide) (off := 303) (by decide) (by decide) ?_
      exact lc_begin X hX hbl hbA hL h6 hc6 hcr hW kk H locs ls hP hD hS hl
    · refine lv_tableIn (tgt := 359) hx hb dL_law_33 (by decide) (by decide) (off := 326) (by decide) (by decide) ?_
      exact lc_step X hX hbl hbA hL h6 hc6 hcr hW kk H locs ls hP hD hS hl
    · refine lv_tableIn (tgt := 372) hx hb dL_law_33 (by decide) (by decide) (off := 339) (by decide) (by decide) ?_
      exact lc_back X hX hbl hbA hL h6 hc6 hcr hW kk H locs ls hP hD hS hl
    · refine lv_tableIn (tgt := 395) hx hb dL_law_33 (by decide) (by decide) (off := 362) (by decide) (by decide) ?_
      exact lc_failed X hX hbl hbA hL h6 hc6 hcr hW kk H locs ls hP hD hS hl
    · refine lv_tableIn (tgt := 418) hx hb dL_law_33 (by decide) (by decide) (off := 385) (by decide) (by decide) ?_
      exact lc_may X hX hbl hbA hL h6 hc6 hcr hW kk H locs ls hP hD hS hl
    · refine lv_tableIn (tgt := 441) hx hb dL_law_33 (by decide) (by decide) (off := 408) (by decide) (by decide) ?_
      exact lc_resolve X hX hbl hbA hL h6 hc6 hcr hW kk H locs ls hP hD hS hl
    · refine lv_tableIn (tgt := 464) hx hb dL_law_33 (by decide) (by decide) (off := 431) (by decide) (by decide) ?_
      exact lc_rows X hX hbl hbA hL h6 hc6 hcr hW kk H locs ls hP hD hS hl
    · refine lv_tableIn (tgt := 478) hx hb dL_law_33 (by decide) (by decide) (off := 445) (by decide) (by decide) ?_
      exact lc_row X hX hbl hbA hL h6 hc6 hcr hW kk H locs ls hP hD hS hl
    · refine lv_tableIn (tgt := 501) hx hb dL_law_33 (by decide) (by decide) (off := 468) (by decide) (by decide) ?_
      exact lc_draw X hX hbl hbA hL h6 hc6 hcr hW kk H locs ls hP hD hS hl
    · refine lv_tableIn (tgt := 534) hx hb dL_law_33 (by decide) (by decide) (off := 501) (by decide) (by decide) ?_
      exact lc_cheapest X hX hbl hbA hL h6 hc6 hcr hW kk H locs ls hP hD hS hl
    · refine lv_tableIn (tgt := 547) hx hb dL_law_33 (by decide) (by decide) (off := 514) (by decide) (by decide) ?_
      exact lc_found X hX hbl hbA hL h6 hc6 hcr hW kk H locs ls hP hD hS hl
    · refine lv_tableIn (tgt := 570) hx hb dL_law_33 (by decide) (by decide) (off := 537) (by decide) (by decide) ?_
      exact lc_follow X hX hbl hbA hL h6 hc6 hcr hW kk H locs ls hP hD hS hl
    · refine lv_tableIn (tgt := 583) hx hb dL_law_33 (by decide) (by decide) (off := 550) (by decide) (by decide) ?_
      exact lc_times X hX hbl hbA hL h6 hc6 hcr hW kk H locs ls hP hD hS hl
    · refine lv_tableIn (tgt := 626) hx hb dL_law_33 (by decide) (by decide) (off := 593) (by decide) (by decide) ?_
      exact lc_dancer X hX hbl hbA hL h6 hc6 hcr hW kk H locs ls hP hD hS hl
    · refine lv_tableIn (tgt := 659) hx hb dL_law_33 (by decide) (by decide) (off := 626) (by decide) (by decide) ?_
      exact lc_at X hX hbl hbA hL h6 hc6 hcr hW kk H locs ls hP hD hS hl
    · refine lv_tableIn (tgt := 692) hx hb dL_law_33 (by decide) (by decide) (off := 659) (by decide) (by decide) ?_
      exact lc_about X hX hbl hbA hL h6 hc6 hcr hW kk H locs ls hP hD hS hl
    · refine lv_tableOut (tgt := 715) hx hb dL_law_33 (Or.inr (by rw [nI_toInt (by omega)]; omega)) (by decide) ?_
      obtain ⟨n, t, v, μ, B, len, r, q, rfl, h0, g1, g2, g3, g4⟩ := hW
      exact k_wide (by omega) (by omega) (kk _ ⟨n, t, v, μ, B, len, r, q, rfl, h0, g1.up, g2.mv HKf.rf (by omega), g3, g4⟩) H locs ls hP hD hS hl
