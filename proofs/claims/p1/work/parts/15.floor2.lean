theorem low_nI {m : Nat} (h : m < 16384) : (nI m >>> ((nI 2) &&& 31)) &&& nI 4095 = nI (m / 4) ∧ nI m &&& nI 3 = nI (m % 4) := by
  refine ⟨?_, pk_andN (by omega) 2 (by decide)⟩
  rw [pk_shrN (by omega) (nI 2 &&& 31) 2 (by decide), pk_andN (by omega) 12 (by decide)]
  congr 1
  omega
theorem stC_lt {k d : Nat} (hk : k ≤ 3) (hd : d < 64) : stC k d < 16384 := by
  have h : ∀ k, k < 4 → ∀ d, d < 64 → stC k d < 16384 := by decide +kernel
  exact h k (by omega) d hd
theorem dX3_isSet_0 : decode cX3_isSet 0 = .ok (.iload_n 0, 1) := by decide +kernel
theorem dX3_isSet_1 : decode cX3_isSet 1 = .ok (.ifCond .ne 14, 3) := by decide +kernel
theorem dX3_isSet_4 : decode cX3_isSet 4 = .ok (.iload_n 1, 1) := by decide +kernel
theorem dX3_isSet_5 : decode cX3_isSet 5 = .ok (.iconst 4, 1) := by decide +kernel
theorem dX3_isSet_6 : decode cX3_isSet 6 = .ok (.if_icmp .ne 7, 3) := by decide +kernel
theorem dX3_isSet_9 : decode cX3_isSet 9 = .ok (.iconst 1, 1) := by decide +kernel
theorem dX3_isSet_10 : decode cX3_isSet 10 = .ok (.goto 4, 3) := by decide +kernel
theorem dX3_isSet_13 : decode cX3_isSet 13 = .ok (.iconst 0, 1) := by decide +kernel
theorem dX3_isSet_14 : decode cX3_isSet 14 = .ok (.ireturn, 1) := by decide +kernel
theorem dX3_isSet_15 : decode cX3_isSet 15 = .ok (.iload_n 0, 1) := by decide +kernel
theorem dX3_isSet_16 : decode cX3_isSet 16 = .ok (.iconst 1, 1) := by decide +kernel
theorem dX3_isSet_17 : decode cX3_isSet 17 = .ok (.if_icmp .lt 23, 3) := by decide +kernel
theorem dX3_isSet_20 : decode cX3_isSet 20 = .ok (.iload_n 0, 1) := by decide +kernel
theorem dX3_isSet_21 : decode cX3_isSet 21 = .ok (.iconst 3, 1) := by decide +kernel
theorem dX3_isSet_22 : decode cX3_isSet 22 = .ok (.if_icmp .gt 18, 3) := by decide +kernel
theorem dX3_isSet_25 : decode cX3_isSet 25 = .ok (.iload_n 1, 1) := by decide +kernel
theorem dX3_isSet_26 : decode cX3_isSet 26 = .ok (.iconst 1, 1) := by decide +kernel
theorem dX3_isSet_27 : decode cX3_isSet 27 = .ok (.if_icmp .lt 13, 3) := by decide +kernel
theorem dX3_isSet_30 : decode cX3_isSet 30 = .ok (.iload_n 1, 1) := by decide +kernel
theorem dX3_isSet_31 : decode cX3_isSet 31 = .ok (.bipush 32, 2) := by decide +kernel
theorem dX3_isSet_33 : decode cX3_isSet 33 = .ok (.if_icmp .gt 7, 3) := by decide +kernel
theorem dX3_isSet_36 : decode cX3_isSet 36 = .ok (.iconst 1, 1) := by decide +kernel
theorem dX3_isSet_37 : decode cX3_isSet 37 = .ok (.goto 4, 3) := by decide +kernel
theorem dX3_isSet_40 : decode cX3_isSet 40 = .ok (.iconst 0, 1) := by decide +kernel
theorem dX3_isSet_41 : decode cX3_isSet 41 = .ok (.ireturn, 1) := by decide +kernel
abbrev rm_c_X3_isSet : Room := { frames := 0, cells := 0, slots := 0, locals := 0 }
set_option maxHeartbeats 4000000 in
set_option maxRecDepth 100000 in
theorem c_X3_isSet (l : Launch) (E : cE) (k : Int32) (n : Int32) : cM l E yX3_isSet cX3_isSet 2 (some .boolean) rm_c_X3_isSet [.int k, .int n] [] (qI E (fun (r : Int32) (_u : Unit) => r = if (k = 0 ∧ n = 4) ∨ (1 ≤ k ∧ k ≤ 3 ∧ 1 ≤ n ∧ n ≤ 32) then 1 else 0) (fun _ => [])) := by
  refine cM_of (by decide) (Nat.le_of_ble_eq_true rfl) ?_
  intro p e s m below meth c ls A F hA hS hP hD hK hZ hl
  obtain ⟨hx, hb, hr, hml, hown, hts, hlk, hin⟩ := id F
  have hown : s.vm.findClass RX3 = some m.cls := hown
  have hl : lv_has ls 2 [(0, .int k), (1, .int n)] := hl
  refine lv_iload_n hx hb dX3_isSet_0 rfl (lv_at hl 0 rfl) ?_
  refine lv_if_ne (tgt := 15) hx hb dX3_isSet_1 (by decide) (fun c1 => ?_) (fun c1 => ?_)
  · refine lv_iload_n hx hb dX3_isSet_15 rfl (lv_at hl 0 rfl) ?_
    refine lv_iconst (v := 1) hx hb dX3_isSet_16 (by decide) ?_
    refine lv_icmp_lt (tgt := 40) hx hb dX3_isSet_17 (by decide) (fun c2 => ?_) (fun c2 => ?_)
    · refine lv_iconst (v := 0) hx hb dX3_isSet_40 (by decide) ?_
      exact cB_ret F hP hD hS hK (by decide) () (if_neg (fun h => h.elim (fun h => c1 h.1) (fun h => absurd c2 (Int32.not_lt.mpr h.1)))).symm [] rfl rfl dX3_isSet_41 (by decide) (by decide)
    · refine lv_iload_n hx hb dX3_isSet_20 rfl (lv_at hl 0 rfl) ?_
      refine lv_iconst (v := 3) hx hb dX3_isSet_21 (by decide) ?_
      refine lv_icmp_gt (tgt := 40) hx hb dX3_isSet_22 (by decide) (fun c3 => ?_) (fun c3 => ?_)
      · refine lv_iconst (v := 0) hx hb dX3_isSet_40 (by decide) ?_
        exact cB_ret F hP hD hS hK (by decide) () (if_neg (fun h => h.elim (fun h => c1 h.1) (fun h => absurd c3 (Int32.not_lt.mpr h.2.1)))).symm [] rfl rfl dX3_isSet_41 (by decide) (by decide)
      · refine lv_iload_n hx hb dX3_isSet_25 rfl (lv_at hl 1 rfl) ?_
        refine lv_iconst (v := 1) hx hb dX3_isSet_26 (by decide) ?_
        refine lv_icmp_lt (tgt := 40) hx hb dX3_isSet_27 (by decide) (fun c4 => ?_) (fun c4 => ?_)
        · refine lv_iconst (v := 0) hx hb dX3_isSet_40 (by decide) ?_
          exact cB_ret F hP hD hS hK (by decide) () (if_neg (fun h => h.elim (fun h => c1 h.1) (fun h => absurd c4 (Int32.not_lt.mpr h.2.2.1)))).symm [] rfl rfl dX3_isSet_41 (by decide) (by decide)
        · refine lv_iload_n hx hb dX3_isSet_30 rfl (lv_at hl 1 rfl) ?_
          refine lv_bipush (v := 32) hx hb dX3_isSet_31 (by decide) ?_
          refine lv_icmp_gt (tgt := 40) hx hb dX3_isSet_33 (by decide) (fun c5 => ?_) (fun c5 => ?_)
          · refine lv_iconst (v := 0) hx hb dX3_isSet_40 (by decide) ?_
            exact cB_ret F hP hD hS hK (by decide) () (if_neg (fun h => h.elim (fun h => c1 h.1) (fun h => absurd c5 (Int32.not_lt.mpr h.2.2.2)))).symm [] rfl rfl dX3_isSet_41 (by decide) (by decide)
          · refine lv_iconst (v := 1) hx hb dX3_isSet_36 (by decide) ?_
            refine lv_goto (tgt := 41) hx hb dX3_isSet_37 (by decide) ?_
            exact cB_ret F hP hD hS hK (by decide) () (if_pos (Or.inr ⟨Int32.not_lt.mp c2, Int32.not_lt.mp c3, Int32.not_lt.mp c4, Int32.not_lt.mp c5⟩)).symm [] rfl rfl dX3_isSet_41 (by decide) (by decide)
  · refine lv_iload_n hx hb dX3_isSet_4 rfl (lv_at hl 1 rfl) ?_
    refine lv_iconst (v := 4) hx hb dX3_isSet_5 (by decide) ?_
    refine lv_icmp_ne (tgt := 13) hx hb dX3_isSet_6 (by decide) (fun c2 => ?_) (fun c2 => ?_)
    · refine lv_iconst (v := 0) hx hb dX3_isSet_13 (by decide) ?_
      exact cB_ret F hP hD hS hK (by decide) () (if_neg (fun h => h.elim (fun h => c2 h.2) (fun h => absurd h.1 (by rw [c1]; decide)))).symm [] rfl rfl dX3_isSet_14 (by decide) (by decide)
    · refine lv_iconst (v := 1) hx hb dX3_isSet_9 (by decide) ?_
      refine lv_goto (tgt := 14) hx hb dX3_isSet_10 (by decide) ?_
      exact cB_ret F hP hD hS hK (by decide) () (if_pos (Or.inl ⟨c1, c2⟩)).symm [] rfl rfl dX3_isSet_14 (by decide) (by decide)
theorem yy_X3_isSet : cY yX3_isSet cX3_isSet 2 (some .boolean) 2 := ⟨wdK_X3_isSet, wdZ_RX3, by decide +kernel⟩
theorem st_eq0 : ∀ d, d < 64 → cdE (sqX (d % 8)) (sqY (d % 8)) ((-(nI (d / 2))) &&& (nI 3)) = nI (stC 0 d) := by decide +kernel
theorem st_eq1 : ∀ d, d < 64 → cdE (nI (4 * (d % 2))) (nI (4 * (d / 2))) (nI (1 + (2 * (d % 2)))) = nI (stC 1 d) := by decide +kernel
theorem st_eq2 : ∀ d, d < 64 → cdE ((nI 4) * ((nI (d % 2)) ^^^ (nI (d / 2 % 2)))) (nI (4 * (d / 2))) (nI (2 * (d / 2 % 2))) = nI (stC 2 d) := by decide +kernel
theorem st_eq3 : ∀ d, d < 64 → cdE (nI (4 * (d / 2 % 2))) (((nI 8) * ((nI (d / 2)) >>> ((nI 1) &&& 31))) + ((nI 4) * (((nI 1) ^^^ (nI (d % 2))) ^^^ (nI (d / 2 % 2))))) (nI (1 + (2 * (d / 2 % 2)))) = nI (stC 3 d) := by decide +kernel
theorem dX3_startOf_0 : decode cX3_startOf 0 = .ok (.iload_n 1, 1) := by decide +kernel
theorem dX3_startOf_1 : decode cX3_startOf 1 = .ok (.iconst 1, 1) := by decide +kernel
theorem dX3_startOf_2 : decode cX3_startOf 2 = .ok (.ishr, 1) := by decide +kernel
theorem dX3_startOf_3 : decode cX3_startOf 3 = .ok (.istore_n 2, 1) := by decide +kernel
theorem dX3_startOf_4 : decode cX3_startOf 4 = .ok (.iload_n 1, 1) := by decide +kernel
theorem dX3_startOf_5 : decode cX3_startOf 5 = .ok (.iconst 1, 1) := by decide +kernel
theorem dX3_startOf_6 : decode cX3_startOf 6 = .ok (.iand, 1) := by decide +kernel
theorem dX3_startOf_7 : decode cX3_startOf 7 = .ok (.istore_n 3, 1) := by decide +kernel
theorem dX3_startOf_8 : decode cX3_startOf 8 = .ok (.iload_n 2, 1) := by decide +kernel
theorem dX3_startOf_9 : decode cX3_startOf 9 = .ok (.iconst 1, 1) := by decide +kernel
theorem dX3_startOf_10 : decode cX3_startOf 10 = .ok (.iand, 1) := by decide +kernel
theorem dX3_startOf_11 : decode cX3_startOf 11 = .ok (.istore 4, 2) := by decide +kernel
theorem dX3_startOf_13 : decode cX3_startOf 13 = .ok (.iload_n 0, 1) := by decide +kernel
theorem dX3_startOf_14 : decode cX3_startOf 14 = .ok (.tableswitch 82 0 2 #[26, 50, 65], 26) := by decide +kernel
theorem dX3_startOf_40 : decode cX3_startOf 40 = .ok (.getstatic 38, 3) := by decide +kernel
theorem dX3_startOf_43 : decode cX3_startOf 43 = .ok (.iload_n 1, 1) := by decide +kernel
theorem dX3_startOf_44 : decode cX3_startOf 44 = .ok (.bipush 7, 2) := by decide +kernel
theorem dX3_startOf_46 : decode cX3_startOf 46 = .ok (.iand, 1) := by decide +kernel
theorem dX3_startOf_47 : decode cX3_startOf 47 = .ok (.iaload, 1) := by decide +kernel
theorem dX3_startOf_48 : decode cX3_startOf 48 = .ok (.getstatic 41, 3) := by decide +kernel
theorem dX3_startOf_51 : decode cX3_startOf 51 = .ok (.iload_n 1, 1) := by decide +kernel
theorem dX3_startOf_52 : decode cX3_startOf 52 = .ok (.bipush 7, 2) := by decide +kernel
theorem dX3_startOf_54 : decode cX3_startOf 54 = .ok (.iand, 1) := by decide +kernel
theorem dX3_startOf_55 : decode cX3_startOf 55 = .ok (.iaload, 1) := by decide +kernel
theorem dX3_startOf_56 : decode cX3_startOf 56 = .ok (.iload_n 2, 1) := by decide +kernel
theorem dX3_startOf_57 : decode cX3_startOf 57 = .ok (.ineg, 1) := by decide +kernel
theorem dX3_startOf_58 : decode cX3_startOf 58 = .ok (.iconst 3, 1) := by decide +kernel
theorem dX3_startOf_59 : decode cX3_startOf 59 = .ok (.iand, 1) := by decide +kernel
theorem dX3_startOf_60 : decode cX3_startOf 60 = .ok (.invokestatic 44, 3) := by decide +kernel
theorem dX3_startOf_63 : decode cX3_startOf 63 = .ok (.ireturn, 1) := by decide +kernel
theorem dX3_startOf_64 : decode cX3_startOf 64 = .ok (.iconst 4, 1) := by decide +kernel
theorem dX3_startOf_65 : decode cX3_startOf 65 = .ok (.iload_n 3, 1) := by decide +kernel
theorem dX3_startOf_66 : decode cX3_startOf 66 = .ok (.imul, 1) := by decide +kernel
theorem dX3_startOf_67 : decode cX3_startOf 67 = .ok (.iconst 4, 1) := by decide +kernel
theorem dX3_startOf_68 : decode cX3_startOf 68 = .ok (.iload_n 2, 1) := by decide +kernel
theorem dX3_startOf_69 : decode cX3_startOf 69 = .ok (.imul, 1) := by decide +kernel
theorem dX3_startOf_70 : decode cX3_startOf 70 = .ok (.iconst 1, 1) := by decide +kernel
theorem dX3_startOf_71 : decode cX3_startOf 71 = .ok (.iconst 2, 1) := by decide +kernel
theorem dX3_startOf_72 : decode cX3_startOf 72 = .ok (.iload_n 3, 1) := by decide +kernel
theorem dX3_startOf_73 : decode cX3_startOf 73 = .ok (.imul, 1) := by decide +kernel
theorem dX3_startOf_74 : decode cX3_startOf 74 = .ok (.iadd, 1) := by decide +kernel
theorem dX3_startOf_75 : decode cX3_startOf 75 = .ok (.invokestatic 44, 3) := by decide +kernel
theorem dX3_startOf_78 : decode cX3_startOf 78 = .ok (.ireturn, 1) := by decide +kernel
theorem dX3_startOf_79 : decode cX3_startOf 79 = .ok (.iconst 4, 1) := by decide +kernel
theorem dX3_startOf_80 : decode cX3_startOf 80 = .ok (.iload_n 3, 1) := by decide +kernel
theorem dX3_startOf_81 : decode cX3_startOf 81 = .ok (.iload 4, 2) := by decide +kernel
theorem dX3_startOf_83 : decode cX3_startOf 83 = .ok (.ixor, 1) := by decide +kernel
theorem dX3_startOf_84 : decode cX3_startOf 84 = .ok (.imul, 1) := by decide +kernel
theorem dX3_startOf_85 : decode cX3_startOf 85 = .ok (.iconst 4, 1) := by decide +kernel
theorem dX3_startOf_86 : decode cX3_startOf 86 = .ok (.iload_n 2, 1) := by decide +kernel
theorem dX3_startOf_87 : decode cX3_startOf 87 = .ok (.imul, 1) := by decide +kernel
theorem dX3_startOf_88 : decode cX3_startOf 88 = .ok (.iconst 2, 1) := by decide +kernel
theorem dX3_startOf_89 : decode cX3_startOf 89 = .ok (.iload 4, 2) := by decide +kernel
theorem dX3_startOf_91 : decode cX3_startOf 91 = .ok (.imul, 1) := by decide +kernel
theorem dX3_startOf_92 : decode cX3_startOf 92 = .ok (.invokestatic 44, 3) := by decide +kernel
theorem dX3_startOf_95 : decode cX3_startOf 95 = .ok (.ireturn, 1) := by decide +kernel
theorem dX3_startOf_96 : decode cX3_startOf 96 = .ok (.iconst 4, 1) := by decide +kernel
theorem dX3_startOf_97 : decode cX3_startOf 97 = .ok (.iload 4, 2) := by decide +kernel
theorem dX3_startOf_99 : decode cX3_startOf 99 = .ok (.imul, 1) := by decide +kernel
theorem dX3_startOf_100 : decode cX3_startOf 100 = .ok (.bipush 8, 2) := by decide +kernel
theorem dX3_startOf_102 : decode cX3_startOf 102 = .ok (.iload_n 2, 1) := by decide +kernel
theorem dX3_startOf_103 : decode cX3_startOf 103 = .ok (.iconst 1, 1) := by decide +kernel
theorem dX3_startOf_104 : decode cX3_startOf 104 = .ok (.ishr, 1) := by decide +kernel
theorem dX3_startOf_105 : decode cX3_startOf 105 = .ok (.imul, 1) := by decide +kernel
theorem dX3_startOf_106 : decode cX3_startOf 106 = .ok (.iconst 4, 1) := by decide +kernel
theorem dX3_startOf_107 : decode cX3_startOf 107 = .ok (.iconst 1, 1) := by decide +kernel
theorem dX3_startOf_108 : decode cX3_startOf 108 = .ok (.iload_n 3, 1) := by decide +kernel
theorem dX3_startOf_109 : decode cX3_startOf 109 = .ok (.ixor, 1) := by decide +kernel
theorem dX3_startOf_110 : decode cX3_startOf 110 = .ok (.iload 4, 2) := by decide +kernel
theorem dX3_startOf_112 : decode cX3_startOf 112 = .ok (.ixor, 1) := by decide +kernel
theorem dX3_startOf_113 : decode cX3_startOf 113 = .ok (.imul, 1) := by decide +kernel
theorem dX3_startOf_114 : decode cX3_startOf 114 = .ok (.iadd, 1) := by decide +kernel
theorem dX3_startOf_115 : decode cX3_startOf 115 = .ok (.iconst 1, 1) := by decide +kernel
theorem dX3_startOf_116 : decode cX3_startOf 116 = .ok (.iconst 2, 1) := by decide +kernel
theorem dX3_startOf_117 : decode cX3_startOf 117 = .ok (.iload 4, 2) := by decide +kernel
theorem dX3_startOf_119 : decode cX3_startOf 119 = .ok (.imul, 1) := by decide +kernel
theorem dX3_startOf_120 : decode cX3_startOf 120 = .ok (.iadd, 1) := by decide +kernel
theorem dX3_startOf_121 : decode cX3_startOf 121 = .ok (.invokestatic 44, 3) := by decide +kernel
theorem dX3_startOf_124 : decode cX3_startOf 124 = .ok (.ireturn, 1) := by decide +kernel
abbrev rm_c_X3_startOf : Room := { frames := 1, cells := 0, slots := 0, locals := 22 }
set_option maxHeartbeats 4000000 in
set_option maxRecDepth 100000 in
theorem c_X3_startOf (l : Launch) (E : cE) (k : Nat) (d : Nat) (hk : k ≤ 3) (hd : d < 64) : cM l E yX3_startOf cX3_startOf 5 (some .int) rm_c_X3_startOf [.int (nI k), .int (nI d)] [] (qI E (fun (r : Int32) (_u : Unit) => r = nI (stC k d)) (fun _ => [])) := by
  refine cM_of (by decide) (Nat.le_of_ble_eq_true rfl) ?_
  intro p e s m below meth c ls A F hA hS hP hD hK hZ hl
  obtain ⟨hx, hb, hr, hml, hown, hts, hlk, hin⟩ := id F
  have hown : s.vm.findClass RX3 = some m.cls := hown
  have hl : lv_has ls 5 [(0, .int (nI k)), (1, .int (nI d))] := hl
  obtain ⟨hz1, hz2, hAO, hN_RX11_18, hN_RX11_43, hN_RX11_65, hN_RX10_83, hN_RX4_22, hStr⟩ := id hZ
  refine lv_iload_n hx hb dX3_startOf_0 rfl (lv_at hl 1 rfl) ?_
  refine lv_iconst (v := nI 1) hx hb dX3_startOf_1 (by decide) ?_
  refine lv_ishr hx hb dX3_startOf_2 ?_
  rw [show ((nI d) >>> ((nI 1) &&& 31) : Int32) = nI (d / 2) from pk_shrN (by omega) (nI 1 &&& 31) 1 (by decide)]
  refine lv_istore_n (lv' := [(2, .int (nI (d / 2))), (0, .int (nI k)), (1, .int (nI d))]) hx hb dX3_startOf_3 rfl hl (by decide) rfl (fun ls hl => ?_)
  refine lv_iload_n hx hb dX3_startOf_4 rfl (lv_at hl 2 rfl) ?_
  refine lv_iconst (v := nI 1) hx hb dX3_startOf_5 (by decide) ?_
  refine lv_iand hx hb dX3_startOf_6 ?_
  rw [show ((nI d) &&& (nI 1) : Int32) = nI (d % 2) from pk_andN (by omega) 1 (by decide)]
  refine lv_istore_n (lv' := [(3, .int (nI (d % 2))), (2, .int (nI (d / 2))), (0, .int (nI k)), (1, .int (nI d))]) hx hb dX3_startOf_7 rfl hl (by decide) rfl (fun ls hl => ?_)
  refine lv_iload_n hx hb dX3_startOf_8 rfl (lv_at hl 1 rfl) ?_
  refine lv_iconst (v := nI 1) hx hb dX3_startOf_9 (by decide) ?_
  refine lv_iand hx hb dX3_startOf_10 ?_
  rw [show ((nI (d / 2)) &&& (nI 1) : Int32) = nI (d / 2 % 2) from pk_andN (by omega) 1 (by decide)]
  refine lv_istore (lv' := [(4, .int (nI (d / 2 % 2))), (3, .int (nI (d % 2))), (2, .int (nI (d / 2))), (0, .int (nI k)), (1, .int (nI d))]) hx hb dX3_startOf_11 hl (by decide) rfl (fun ls hl => ?_)
  rcases (show k = 0 ∨ k = 1 ∨ k = 2 ∨ k = 3 by omega) with rfl | rfl | rfl | rfl
  · refine lv_iload_n hx hb dX3_startOf_13 rfl (lv_at hl 3 rfl) ?_
    refine lv_tableIn (tgt := 40) hx hb dX3_startOf_14 (by decide) (by decide) (off := 26) (by decide) (by decide) ?_
    refine va_gets (v := .ref (E.2.2 0)) hx hb hz1.1 hS hown (hts _ wdF_RX3_38) (fun _ h => h) dX3_startOf_40 ?_
    refine lv_iload_n hx hb dX3_startOf_43 rfl (lv_at hl 4 rfl) ?_
    refine lv_bipush (v := nI 7) hx hb dX3_startOf_44 (by decide) ?_
    refine lv_iand hx hb dX3_startOf_46 ?_
    rw [show ((nI d) &&& (nI 7) : Int32) = nI (d % 8) from pk_andN (by omega) 3 (by decide)]
    refine va_ti (v := .int (sqX (d % 8))) hx hb hz1.2 hS (i := nI (d % 8)) (vp_in_nI (by omega) (by decide)) (by rw [nI_clamp (by omega)]) dX3_startOf_47 ?_
    refine va_gets (v := .ref (E.2.2 1)) hx hb hz2.1 hS hown (hts _ wdF_RX3_41) (fun _ h => h) dX3_startOf_48 ?_
    refine lv_iload_n hx hb dX3_startOf_51 rfl (lv_at hl 4 rfl) ?_
    refine lv_bipush (v := nI 7) hx hb dX3_startOf_52 (by decide) ?_
    refine lv_iand hx hb dX3_startOf_54 ?_
    rw [show ((nI d) &&& (nI 7) : Int32) = nI (d % 8) from pk_andN (by omega) 3 (by decide)]
    refine va_ti (v := .int (sqY (d % 8))) hx hb hz2.2 hS (i := nI (d % 8)) (vp_in_nI (by omega) (by decide)) (by rw [nI_clamp (by omega)]) dX3_startOf_55 ?_
    refine lv_iload_n hx hb dX3_startOf_56 rfl (lv_at hl 2 rfl) ?_
    refine lv_ineg hx hb dX3_startOf_57 ?_
    refine lv_iconst (v := nI 3) hx hb dX3_startOf_58 (by decide) ?_
    refine lv_iand hx hb dX3_startOf_59 ?_
    refine cI_go (wr := []) (cM_runS (As := [.int (sqX (d % 8)), .int (sqY (d % 8)), .int ((-(nI (d / 2))) &&& (nI 3))]) (rest := []) F (c_X3_codeOf l E (sqX (d % 8)) (sqY (d % 8)) ((-(nI (d / 2))) &&& (nI 3))) yy_X3_codeOf wdT_X3_codeOf wdM_RX3_44 hP hD hS hK hZ hA [] rfl rfl rfl hl.1 rfl (Nat.le_of_ble_eq_true rfl) dX3_startOf_60 ⟨by decide, by decide⟩ ⟨by decide, by decide⟩) hP hD hS hA [] [] rfl rfl rfl (by decide) (fun r_22 u_21 H locs hw_20 hP hD hS => ?_)
    try dsimp only at hw_20
    have hP : va_P E.1 vwCl [] H := hP
    have hD : va_D A [] := hD
    exact cI_ret F hP hD hS hK () (hw_20.trans (st_eq0 d hd)) [] rfl rfl dX3_startOf_63 (by decide) (by decide)
  · refine lv_iload_n hx hb dX3_startOf_13 rfl (lv_at hl 3 rfl) ?_
    refine lv_tableIn (tgt := 64) hx hb dX3_startOf_14 (by decide) (by decide) (off := 50) (by decide) (by decide) ?_
    refine lv_iconst (v := nI 4) hx hb dX3_startOf_64 (by decide) ?_
    refine lv_iload_n hx hb dX3_startOf_65 rfl (lv_at hl 1 rfl) ?_
    refine lv_imul hx hb dX3_startOf_66 ?_
    rw [pk_mul 4 (d % 2)]
    refine lv_iconst (v := nI 4) hx hb dX3_startOf_67 (by decide) ?_
    refine lv_iload_n hx hb dX3_startOf_68 rfl (lv_at hl 2 rfl) ?_
    refine lv_imul hx hb dX3_startOf_69 ?_
    rw [pk_mul 4 (d / 2)]
    refine lv_iconst (v := nI 1) hx hb dX3_startOf_70 (by decide) ?_
    refine lv_iconst (v := nI 2) hx hb dX3_startOf_71 (by decide) ?_
    refine lv_iload_n hx hb dX3_startOf_72 rfl (lv_at hl 1 rfl) ?_
    refine lv_imul hx hb dX3_startOf_73 ?_
    rw [pk_mul 2 (d % 2)]
    refine lv_iadd hx hb dX3_startOf_74 ?_
    rw [nI_add 1 (2 * (d % 2))]
    refine cI_go (wr := []) (cM_runS (As := [.int (nI (4 * (d % 2))), .int (nI (4 * (d / 2))), .int (nI (1 + (2 * (d % 2))))]) (rest := []) F (c_X3_codeOf l E (nI (4 * (d % 2))) (nI (4 * (d / 2))) (nI (1 + (2 * (d % 2))))) yy_X3_codeOf wdT_X3_codeOf wdM_RX3_44 hP hD hS hK hZ hA [] rfl rfl rfl hl.1 rfl (Nat.le_of_ble_eq_true rfl) dX3_startOf_75 ⟨by decide, by decide⟩ ⟨by decide, by decide⟩) hP hD hS hA [] [] rfl rfl rfl (by decide) (fun r_25 u_24 H locs hw_23 hP hD hS => ?_)
    try dsimp only at hw_23
    have hP : va_P E.1 vwCl [] H := hP
    have hD : va_D A [] := hD
    exact cI_ret F hP hD hS hK () (hw_23.trans (st_eq1 d hd)) [] rfl rfl dX3_startOf_78 (by decide) (by decide)
  · refine lv_iload_n hx hb dX3_startOf_13 rfl (lv_at hl 3 rfl) ?_
    refine lv_tableIn (tgt := 79) hx hb dX3_startOf_14 (by decide) (by decide) (off := 65) (by decide) (by decide) ?_
    refine lv_iconst (v := nI 4) hx hb dX3_startOf_79 (by decide) ?_
    refine lv_iload_n hx hb dX3_startOf_80 rfl (lv_at hl 1 rfl) ?_
    refine lv_iload hx hb dX3_startOf_81 (lv_at hl 0 rfl) ?_
    refine lv_ixor hx hb dX3_startOf_83 ?_
    refine lv_imul hx hb dX3_startOf_84 ?_
    refine lv_iconst (v := nI 4) hx hb dX3_startOf_85 (by decide) ?_
    refine lv_iload_n hx hb dX3_startOf_86 rfl (lv_at hl 2 rfl) ?_
    refine lv_imul hx hb dX3_startOf_87 ?_
    rw [pk_mul 4 (d / 2)]
    refine lv_iconst (v := nI 2) hx hb dX3_startOf_88 (by decide) ?_
    refine lv_iload hx hb dX3_startOf_89 (lv_at hl 0 rfl) ?_
    refine lv_imul hx hb dX3_startOf_91 ?_
    rw [pk_mul 2 (d / 2 % 2)]
    refine cI_go (wr := []) (cM_runS (As := [.int ((nI 4) * ((nI (d % 2)) ^^^ (nI (d / 2 % 2)))), .int (nI (4 * (d / 2))), .int (nI (2 * (d / 2 % 2)))]) (rest := []) F (c_X3_codeOf l E ((nI 4) * ((nI (d % 2)) ^^^ (nI (d / 2 % 2)))) (nI (4 * (d / 2))) (nI (2 * (d / 2 % 2)))) yy_X3_codeOf wdT_X3_codeOf wdM_RX3_44 hP hD hS hK hZ hA [] rfl rfl rfl hl.1 rfl (Nat.le_of_ble_eq_true rfl) dX3_startOf_92 ⟨by decide, by decide⟩ ⟨by decide, by decide⟩) hP hD hS hA [] [] rfl rfl rfl (by decide) (fun r_28 u_27 H locs hw_26 hP hD hS => ?_)
    try dsimp only at hw_26
    have hP : va_P E.1 vwCl [] H := hP
    have hD : va_D A [] := hD
    exact cI_ret F hP hD hS hK () (hw_26.trans (st_eq2 d hd)) [] rfl rfl dX3_startOf_95 (by decide) (by decide)
  · refine lv_iload_n hx hb dX3_startOf_13 rfl (lv_at hl 3 rfl) ?_
    refine lv_tableOut (tgt := 96) hx hb dX3_startOf_14 (by decide) (by decide) ?_
    refine lv_iconst (v := nI 4) hx hb dX3_startOf_96 (by decide) ?_
    refine lv_iload hx hb dX3_startOf_97 (lv_at hl 0 rfl) ?_
    refine lv_imul hx hb dX3_startOf_99 ?_
    rw [pk_mul 4 (d / 2 % 2)]
    refine lv_bipush (v := nI 8) hx hb dX3_startOf_100 (by decide) ?_
    refine lv_iload_n hx hb dX3_startOf_102 rfl (lv_at hl 2 rfl) ?_
    refine lv_iconst (v := nI 1) hx hb dX3_startOf_103 (by decide) ?_
    refine lv_ishr hx hb dX3_startOf_104 ?_
    refine lv_imul hx hb dX3_startOf_105 ?_
    refine lv_iconst (v := nI 4) hx hb dX3_startOf_106 (by decide) ?_
    refine lv_iconst (v := nI 1) hx hb dX3_startOf_107 (by decide) ?_
    refine lv_iload_n hx hb dX3_startOf_108 rfl (lv_at hl 1 rfl) ?_
    refine lv_ixor hx hb dX3_startOf_109 ?_
    refine lv_iload hx hb dX3_startOf_110 (lv_at hl 0 rfl) ?_
    refine lv_ixor hx hb dX3_startOf_112 ?_
    refine lv_imul hx hb dX3_startOf_113 ?_
    refine lv_iadd hx hb dX3_startOf_114 ?_
    refine lv_iconst (v := nI 1) hx hb dX3_startOf_115 (by decide) ?_
    refine lv_iconst (v := nI 2) hx hb dX3_startOf_116 (by decide) ?_
    refine lv_iload hx hb dX3_startOf_117 (lv_at hl 0 rfl) ?_
    refine lv_imul hx hb dX3_startOf_119 ?_
    rw [pk_mul 2 (d / 2 % 2)]
    refine lv_iadd hx hb dX3_startOf_120 ?_
    rw [nI_add 1 (2 * (d / 2 % 2))]
    refine cI_go (wr := []) (cM_runS (As := [.int (nI (4 * (d / 2 % 2))), .int (((nI 8) * ((nI (d / 2)) >>> ((nI 1) &&& 31))) + ((nI 4) * (((nI 1) ^^^ (nI (d % 2))) ^^^ (nI (d / 2 % 2))))), .int (nI (1 + (2 * (d / 2 % 2))))]) (rest := []) F (c_X3_codeOf l E (nI (4 * (d / 2 % 2))) (((nI 8) * ((nI (d / 2)) >>> ((nI 1) &&& 31))) + ((nI 4) * (((nI 1) ^^^ (nI (d % 2))) ^^^ (nI (d / 2 % 2))))) (nI (1 + (2 * (d / 2 % 2))))) yy_X3_codeOf wdT_X3_codeOf wdM_RX3_44 hP hD hS hK hZ hA [] rfl rfl rfl hl.1 rfl (Nat.le_of_ble_eq_true rfl) dX3_startOf_121 ⟨by decide, by decide⟩ ⟨by decide, by decide⟩) hP hD hS hA [] [] rfl rfl rfl (by decide) (fun r_31 u_30 H locs hw_29 hP hD hS => ?_)
    try dsimp only at hw_29
    have hP : va_P E.1 vwCl [] H := hP
    have hD : va_D A [] := hD
    exact cI_ret F hP hD hS hK () (hw_29.trans (st_eq3 d hd)) [] rfl rfl dX3_startOf_124 (by decide) (by decide)
theorem yy_X3_startOf : cY yX3_startOf cX3_startOf 5 (some .int) 2 := ⟨wdK_X3_startOf, wdZ_RX3, by decide +kernel⟩
theorem dX3_lay_0 : decode cX3_lay 0 = .ok (.iconst 2, 1) := by decide +kernel
theorem dX3_lay_1 : decode cX3_lay 1 = .ok (.iload_n 2, 1) := by decide +kernel
theorem dX3_lay_2 : decode cX3_lay 2 = .ok (.imul, 1) := by decide +kernel
theorem dX3_lay_3 : decode cX3_lay 3 = .ok (.bipush 64, 2) := by decide +kernel
theorem dX3_lay_5 : decode cX3_lay 5 = .ok (.invokestatic 48, 3) := by decide +kernel
theorem dX3_lay_8 : decode cX3_lay 8 = .ok (.istore_n 3, 1) := by decide +kernel
theorem dX3_lay_9 : decode cX3_lay 9 = .ok (.iconst 0, 1) := by decide +kernel
theorem dX3_lay_10 : decode cX3_lay 10 = .ok (.istore 4, 2) := by decide +kernel
theorem dX3_lay_12 : decode cX3_lay 12 = .ok (.iload 4, 2) := by decide +kernel
theorem dX3_lay_14 : decode cX3_lay 14 = .ok (.iload_n 3, 1) := by decide +kernel
theorem dX3_lay_15 : decode cX3_lay 15 = .ok (.if_icmp .ge 30, 3) := by decide +kernel
theorem dX3_lay_18 : decode cX3_lay 18 = .ok (.aload_n 0, 1) := by decide +kernel
theorem dX3_lay_19 : decode cX3_lay 19 = .ok (.getfield 24, 3) := by decide +kernel
theorem dX3_lay_22 : decode cX3_lay 22 = .ok (.iload 4, 2) := by decide +kernel
theorem dX3_lay_24 : decode cX3_lay 24 = .ok (.iload_n 1, 1) := by decide +kernel
theorem dX3_lay_25 : decode cX3_lay 25 = .ok (.iload 4, 2) := by decide +kernel
theorem dX3_lay_27 : decode cX3_lay 27 = .ok (.invokestatic 54, 3) := by decide +kernel
theorem dX3_lay_30 : decode cX3_lay 30 = .ok (.iastore, 1) := by decide +kernel
theorem dX3_lay_31 : decode cX3_lay 31 = .ok (.aload_n 0, 1) := by decide +kernel
theorem dX3_lay_32 : decode cX3_lay 32 = .ok (.getfield 21, 3) := by decide +kernel
theorem dX3_lay_35 : decode cX3_lay 35 = .ok (.iload 4, 2) := by decide +kernel
theorem dX3_lay_37 : decode cX3_lay 37 = .ok (.iconst 0, 1) := by decide +kernel
theorem dX3_lay_38 : decode cX3_lay 38 = .ok (.iastore, 1) := by decide +kernel
theorem dX3_lay_39 : decode cX3_lay 39 = .ok (.iinc 4 1, 3) := by decide +kernel
theorem dX3_lay_42 : decode cX3_lay 42 = .ok (.goto (-30), 3) := by decide +kernel
theorem dX3_lay_45 : decode cX3_lay 45 = .ok (.aload_n 0, 1) := by decide +kernel
theorem dX3_lay_46 : decode cX3_lay 46 = .ok (.aload_n 0, 1) := by decide +kernel
theorem dX3_lay_47 : decode cX3_lay 47 = .ok (.getfield 24, 3) := by decide +kernel
theorem dX3_lay_50 : decode cX3_lay 50 = .ok (.iload_n 3, 1) := by decide +kernel
theorem dX3_lay_51 : decode cX3_lay 51 = .ok (.invokevirtual 57, 3) := by decide +kernel
theorem dX3_lay_54 : decode cX3_lay 54 = .ok (.return_, 1) := by decide +kernel
abbrev rm_c_X3_lay : Room := { frames := 4, cells := 0, slots := 0, locals := 90 }
set_option maxHeartbeats 4000000 in
set_option maxRecDepth 100000 in
theorem c_X3_lay (l : Launch) (E : cE) (h0 : Nat) (a1 : Nat) (a2 : Nat) (a3 : Nat) (a4 : Nat) (a5 : Nat) (a6 : Nat) (a7 : Nat) (a8 : Nat) (N : Nat) (ve : Int32) (cd : Nat → Nat) (fx : Nat → Int32) (fy : Nat → Int32) (ff : Nat → Int32) (ft : Nat → Int32) (fh : Nat → Int32) (o : Nat → Nat) (k : Nat) (n : Nat) (hf : flo cd N fx fy ff) (hN : N ≤ 64) (hk : k ≤ 3) (hn : n ≤ 32) : cM l E yX3_lay cX3_lay 5 none rm_c_X3_lay [.ref h0, .int (nI k), .int (nI n)] [(h0, ob 3 [.ref a1, .ref a2, .ref a3, .ref a4, .ref a5, .ref a6, .ref a7, .ref a8, .int (nI N), .int ve]), (a1, aI E 64 fx), (a2, aI E 64 fy), (a3, aI E 64 ff), (a4, aI E 64 ft), (a5, aI E 64 fh), (a6, aI E 64 (fun j => nI (o j))), (a7, aJ E 4 (faOf cd N)), (a8, aB E 4096 (seatOf cd N))] (qV E (fun (u : (Nat → Int32) × (Nat → Int32) × (Nat → Int32) × Int32 × (Nat → Int32) × (Nat → Int32)) => match u with | (gx, gy, gf, v2, gt, gh) => flo (stC k) (2 * n) gx gy gf ∧ v2 = ve + nI 1 ∧ (∀ d, d < 2 * n → gt d = 0) ∧ (∀ d, d < 2 * n → gh d = nI (stC k d))) (fun (u : (Nat → Int32) × (Nat → Int32) × (Nat → Int32) × Int32 × (Nat → Int32) × (Nat → Int32)) => match u with | (gx, gy, gf, v2, gt, gh) => [(h0, ob 3 [.ref a1, .ref a2, .ref a3, .ref a4, .ref a5, .ref a6, .ref a7, .ref a8, .int (nI (2 * n)), .int v2]), (a1, aI E 64 gx), (a2, aI E 64 gy), (a3, aI E 64 gf), (a4, aI E 64 gt), (a5, aI E 64 gh), (a6, aI E 64 (fun j => nI (srtO (cdLt (stC k)) o (2 * n) j))), (a7, aJ E 4 (faOf (stC k) (2 * n))), (a8, aB E 4096 (seatOf (stC k) (2 * n)))])) := by
  refine cM_of (by decide) (Nat.le_of_ble_eq_true rfl) ?_
  intro p e s m below meth c ls A F hA hS hP hD hK hZ hl
  obtain ⟨hx, hb, hr, hml, hown, hts, hlk, hin⟩ := id F
  have hown : s.vm.findClass RX3 = some m.cls := hown
  have hl : lv_has ls 5 [(0, .ref h0), (1, .int (nI k)), (2, .int (nI n))] := hl
  refine lv_iconst (v := nI 2) hx hb dX3_lay_0 (by decide) ?_
  refine lv_iload_n hx hb dX3_lay_1 rfl (lv_at hl 2 rfl) ?_
  refine lv_imul hx hb dX3_lay_2 ?_
  rw [pk_mul 2 n]
  refine lv_bipush (v := nI 64) hx hb dX3_lay_3 (by decide) ?_
  refine cw_min F hl.1 wdM_RX3_48 (by omega) (by decide) (by decide) (Nat.le_of_ble_eq_true rfl) (by decide) (by decide) dX3_lay_5 ?_
  rw [show (nI (min (2 * n) 64) : Int32) = nI (2 * n) from congrArg nI (by omega)]
  refine lv_istore_n (lv' := [(3, .int (nI (2 * n))), (0, .ref h0), (1, .int (nI k)), (2, .int (nI n))]) hx hb dX3_lay_8 rfl hl (by decide) rfl (fun ls hl => ?_)
  refine lv_iconst (v := nI 0) hx hb dX3_lay_9 (by decide) ?_
  refine lv_istore (lv' := [(4, .int (nI 0)), (3, .int (nI (2 * n))), (0, .ref h0), (1, .int (nI k)), (2, .int (nI n))]) hx hb dX3_lay_10 hl (by decide) rfl (fun ls hl => ?_)
  have lp : ∀ (n_lp : Nat) (i : Nat) (gt : Nat → Int32) (gh : Nat → Int32) (hl1 : 2 * n + 1 ≤ i + n_lp) (hi : i ≤ 2 * n) (hgt : ∀ d, d < i → gt d = 0) (hgh : ∀ d, d < i → gh d = nI (stC k d)) (H : Heap) (locs : List Loc) (ls : Array Slot), va_P E.1 vwCl [(h0, ob 3 [.ref a1, .ref a2, .ref a3, .ref a4, .ref a5, .ref a6, .ref a7, .ref a8, .int (nI N), .int ve]), (a1, aI E 64 fx), (a2, aI E 64 fy), (a3, aI E 64 ff), (a4, aI E 64 gt), (a5, aI E 64 gh), (a6, aI E 64 (fun j => nI (o j))), (a7, aJ E 4 (faOf cd N)), (a8, aB E 4096 (seatOf cd N))] H → va_D A [(h0, ob 3 [.ref a1, .ref a2, .ref a3, .ref a4, .ref a5, .ref a6, .ref a7, .ref a8, .int (nI N), .int ve]), (a1, aI E 64 fx), (a2, aI E 64 fy), (a3, aI E 64 ff), (a4, aI E 64 gt), (a5, aI E 64 gh), (a6, aI E 64 (fun j => nI (o j))), (a7, aJ E 4 (faOf cd N)), (a8, aB E 4096 (seatOf cd N))] → va_S A s.heap H locs → lv_has ls 5 [(0, .ref h0), (1, .int (nI k)), (2, .int (nI n)), (3, .int (nI (2 * n))), (4, .int (nI i))] → W p l e rm_c_X3_lay s m ([.ref h0, .int (nI k), .int (nI n)] : List Value).toArray below meth c H locs 0 0 (MQ below ((qV E (fun (u : (Nat → Int32) × (Nat → Int32) × (Nat → Int32) × Int32 × (Nat → Int32) × (Nat → Int32)) => match u with | (gx, gy, gf, v2, gt, gh) => flo (stC k) (2 * n) gx gy gf ∧ v2 = ve + nI 1 ∧ (∀ d, d < 2 * n → gt d = 0) ∧ (∀ d, d < 2 * n → gh d = nI (stC k d))) (fun (u : (Nat → Int32) × (Nat → Int32) × (Nat → Int32) × Int32 × (Nat → Int32) × (Nat → Int32)) => match u with | (gx, gy, gf, v2, gt, gh) => [(h0, ob 3 [.ref a1, .ref a2, .ref a3, .ref a4, .ref a5, .ref a6, .ref a7, .ref a8, .int (nI (2 * n)), .int v2]), (a1, aI E 64 gx), (a2, aI E 64 gy), (a3, aI E 64 gf), (a4, aI E 64 gt), (a5, aI E 64 gh), (a6, aI E 64 (fun j => nI (srtO (cdLt (stC k)) o (2 * n) j))), (a7, aJ E 4 (faOf (stC k) (2 * n))), (a8, aB E 4096 (seatOf (stC k) (2 * n)))])) A) ([.ref h0, .int (nI k), .int (nI n)] : List Value).toArray s (rm_c_X3_lay).cells (rm_c_X3_lay).slots A) (F0 m 12 ls []) := by
    intro n_lp
    induction n_lp with
    | zero =>
      intro i gt gh hl1 hi hgt hgh
      exfalso; omega
    | succ n_lp ih_lp =>
      intro i gt gh hl1 hi hgt hgh H locs ls hP hD hS hl
      refine lv_iload hx hb dX3_lay_12 (lv_at hl 4 rfl) ?_
      refine lv_iload_n hx hb dX3_lay_14 rfl (lv_at hl 3 rfl) ?_
      refine lv_icmp_ge (tgt := 45) hx hb dX3_lay_15 (by decide) (fun c1 => ?_) (fun c1 => ?_)
      · have c2 : 2 * n ≤ i := (nI_leI (by omega) (by omega)).mp c1
        refine lv_aload_n hx hb dX3_lay_45 rfl (lv_at hl 0 rfl) ?_
        refine lv_aload_n hx hb dX3_lay_46 rfl (lv_at hl 0 rfl) ?_
        refine va_get (D := E.1) (ci := 3) (v := .ref a5) (C := RX3) (T := TX3) (N := 10) hx hb hts iX3 hown hK hP 0 rfl rfl 4 (by decide) (hts _ wdF_RX3_24) (fun _ h9 => h9) rfl dX3_lay_47 ?_
        refine lv_iload_n hx hb dX3_lay_50 rfl (lv_at hl 3 rfl) ?_
        refine cV_go (wr := [(a4, aI E 64 gt)]) (cM_runV (As := [.ref a5, .int (nI (2 * n))]) (rest := []) F (c_X3_place l E h0 a1 a2 a3 a4 a5 a6 a7 a8 N ve cd fx fy ff o a5 64 gh (2 * n) (stC k) hf hN (fun d hd => ⟨stC_lt hk (by omega), by rw [hgh d (by omega)]; exact low_nI (stC_lt hk (by omega))⟩) (by omega) (by omega) (by decide)) yy_X3_place yi_X3_place wdM_RX3_57 hP hD hS hK hZ hA [0, 1, 2, 3, 6, 7, 8, 5] rfl rfl 0 3 rfl rfl rfl hl.1 rfl (Nat.le_of_ble_eq_true rfl) dX3_lay_51 ⟨by decide, by decide⟩ ⟨by decide, by decide⟩) hP hD hS hA [0, 1, 2, 3, 6, 7, 8, 5] [4] rfl rfl rfl (by decide) (fun u_36 H locs hw_35 hP hD hS => ?_)
        obtain ⟨gx, gy, gf, v2⟩ := u_36
        try dsimp only at hw_35
        have hP : va_P E.1 vwCl [(a4, aI E 64 gt), (h0, ob 3 [.ref a1, .ref a2, .ref a3, .ref a4, .ref a5, .ref a6, .ref a7, .ref a8, .int (nI (2 * n)), .int v2]), (a1, aI E 64 gx), (a2, aI E 64 gy), (a3, aI E 64 gf), (a6, aI E 64 (fun j => nI (srtO (cdLt (stC k)) o (2 * n) j))), (a7, aJ E 4 (faOf (stC k) (2 * n))), (a8, aB E 4096 (seatOf (stC k) (2 * n))), (a5, aI E 64 gh)] H := hP
        have hD : va_D A [(a4, aI E 64 gt), (h0, ob 3 [.ref a1, .ref a2, .ref a3, .ref a4, .ref a5, .ref a6, .ref a7, .ref a8, .int (nI (2 * n)), .int v2]), (a1, aI E 64 gx), (a2, aI E 64 gy), (a3, aI E 64 gf), (a6, aI E 64 (fun j => nI (srtO (cdLt (stC k)) o (2 * n) j))), (a7, aJ E 4 (faOf (stC k) (2 * n))), (a8, aB E 4096 (seatOf (stC k) (2 * n))), (a5, aI E 64 gh)] := hD
        exact cV_ret F hP hD hS hK (gx, gy, gf, v2, gt, gh) ⟨hw_35.1, hw_35.2, fun d hd => hgt d (by omega), fun d hd => hgh d (by omega)⟩ [1, 2, 3, 4, 0, 8, 5, 6, 7] rfl rfl dX3_lay_54 (by decide) (by decide)
      · have c2 : i < 2 * n := Nat.lt_of_not_le (fun h => c1 (nI_le h (by omega)))
        refine lv_aload_n hx hb dX3_lay_18 rfl (lv_at hl 0 rfl) ?_
        refine va_get (D := E.1) (ci := 3) (v := .ref a5) (C := RX3) (T := TX3) (N := 10) hx hb hts iX3 hown hK hP 0 rfl rfl 4 (by decide) (hts _ wdF_RX3_24) (fun _ h9 => h9) rfl dX3_lay_19 ?_
        refine lv_iload hx hb dX3_lay_22 (lv_at hl 4 rfl) ?_
        refine lv_iload_n hx hb dX3_lay_24 rfl (lv_at hl 1 rfl) ?_
        refine lv_iload hx hb dX3_lay_25 (lv_at hl 4 rfl) ?_
        refine cI_go (wr := [(h0, ob 3 [.ref a1, .ref a2, .ref a3, .ref a4, .ref a5, .ref a6, .ref a7, .ref a8, .int (nI N), .int ve]), (a1, aI E 64 fx), (a2, aI E 64 fy), (a3, aI E 64 ff), (a4, aI E 64 gt), (a5, aI E 64 gh), (a6, aI E 64 (fun j => nI (o j))), (a7, aJ E 4 (faOf cd N)), (a8, aB E 4096 (seatOf cd N))]) (cM_runS (As := [.int (nI k), .int (nI i)]) (rest := [.int (nI i), .ref a5]) F (c_X3_startOf l E k i hk (by omega)) yy_X3_startOf wdT_X3_startOf wdM_RX3_54 hP hD hS hK hZ hA [] rfl rfl rfl hl.1 rfl (Nat.le_of_ble_eq_true rfl) dX3_lay_27 ⟨by decide, by decide⟩ ⟨by decide, by decide⟩) hP hD hS hA [] [0, 1, 2, 3, 4, 5, 6, 7, 8] rfl rfl rfl (by decide) (fun r_34 u_33 H locs hw_32 hP hD hS => ?_)
        try dsimp only at hw_32
        have hP : va_P E.1 vwCl [(h0, ob 3 [.ref a1, .ref a2, .ref a3, .ref a4, .ref a5, .ref a6, .ref a7, .ref a8, .int (nI N), .int ve]), (a1, aI E 64 fx), (a2, aI E 64 fy), (a3, aI E 64 ff), (a4, aI E 64 gt), (a5, aI E 64 gh), (a6, aI E 64 (fun j => nI (o j))), (a7, aJ E 4 (faOf cd N)), (a8, aB E 4096 (seatOf cd N))] H := hP
        have hD : va_D A [(h0, ob 3 [.ref a1, .ref a2, .ref a3, .ref a4, .ref a5, .ref a6, .ref a7, .ref a8, .int (nI N), .int ve]), (a1, aI E 64 fx), (a2, aI E 64 fy), (a3, aI E 64 ff), (a4, aI E 64 gt), (a5, aI E 64 gh), (a6, aI E 64 (fun j => nI (o j))), (a7, aJ E 4 (faOf cd N)), (a8, aB E 4096 (seatOf cd N))] := hD
        subst hw_32
        refine va_iast hx hb hK hP hD hS 5 1 rfl rfl (vp_in_nI (by omega) (by decide)) dX3_lay_30 (fun H locs hP hD hS => ?_)
        have hP : va_P E.1 vwCl [(h0, ob 3 [.ref a1, .ref a2, .ref a3, .ref a4, .ref a5, .ref a6, .ref a7, .ref a8, .int (nI N), .int ve]), (a1, aI E 64 fx), (a2, aI E 64 fy), (a3, aI E 64 ff), (a4, aI E 64 gt), (a5, aI E 64 (upd gh (nI i).toNatClampNeg (nI (stC k i)))), (a6, aI E 64 (fun j => nI (o j))), (a7, aJ E 4 (faOf cd N)), (a8, aB E 4096 (seatOf cd N))] H := hP
        have hD : va_D A [(h0, ob 3 [.ref a1, .ref a2, .ref a3, .ref a4, .ref a5, .ref a6, .ref a7, .ref a8, .int (nI N), .int ve]), (a1, aI E 64 fx), (a2, aI E 64 fy), (a3, aI E 64 ff), (a4, aI E 64 gt), (a5, aI E 64 (upd gh (nI i).toNatClampNeg (nI (stC k i)))), (a6, aI E 64 (fun j => nI (o j))), (a7, aJ E 4 (faOf cd N)), (a8, aB E 4096 (seatOf cd N))] := hD
        rw [nI_clamp (n := i) (by omega)] at hP hD
        refine lv_aload_n hx hb dX3_lay_31 rfl (lv_at hl 0 rfl) ?_
        refine va_get (D := E.1) (ci := 3) (v := .ref a4) (C := RX3) (T := TX3) (N := 10) hx hb hts iX3 hown hK hP 0 rfl rfl 3 (by decide) (hts _ wdF_RX3_21) (fun _ h9 => h9) rfl dX3_lay_32 ?_
        refine lv_iload hx hb dX3_lay_35 (lv_at hl 4 rfl) ?_
        refine lv_iconst (v := nI 0) hx hb dX3_lay_37 (by decide) ?_
        refine va_iast hx hb hK hP hD hS 4 1 rfl rfl (vp_in_nI (by omega) (by decide)) dX3_lay_38 (fun H locs hP hD hS => ?_)
        have hP : va_P E.1 vwCl [(h0, ob 3 [.ref a1, .ref a2, .ref a3, .ref a4, .ref a5, .ref a6, .ref a7, .ref a8, .int (nI N), .int ve]), (a1, aI E 64 fx), (a2, aI E 64 fy), (a3, aI E 64 ff), (a4, aI E 64 (upd gt (nI i).toNatClampNeg (nI 0))), (a5, aI E 64 (upd gh i (nI (stC k i)))), (a6, aI E 64 (fun j => nI (o j))), (a7, aJ E 4 (faOf cd N)), (a8, aB E 4096 (seatOf cd N))] H := hP
        have hD : va_D A [(h0, ob 3 [.ref a1, .ref a2, .ref a3, .ref a4, .ref a5, .ref a6, .ref a7, .ref a8, .int (nI N), .int ve]), (a1, aI E 64 fx), (a2, aI E 64 fy), (a3, aI E 64 ff), (a4, aI E 64 (upd gt (nI i).toNatClampNeg (nI 0))), (a5, aI E 64 (upd gh i (nI (stC k i)))), (a6, aI E 64 (fun j => nI (o j))), (a7, aJ E 4 (faOf cd N)), (a8, aB E 4096 (seatOf cd N))] := hD
        rw [nI_clamp (n := i) (by omega)] at hP hD
        refine lv_iinc (v := nI (i + 1)) (lv' := [(4, .int (nI (i + 1))), (0, .ref h0), (1, .int (nI k)), (2, .int (nI n)), (3, .int (nI (2 * n)))]) hx hb dX3_lay_39 hl (k := 4) rfl (nI_1 i) (by decide) rfl (fun ls hl => ?_)
        refine lv_goto (tgt := 12) hx hb dX3_lay_42 (by decide) ?_
        exact ih_lp (i + 1) (upd gt i (nI 0)) (upd gh i (nI (stC k i))) (by omega) (by omega) (fun d hd => (Decidable.em (d = i)).elim (fun h => by rw [h]; exact pk_us) (fun h => by rw [pk_un h]; exact hgt d (by omega))) (fun d hd => (Decidable.em (d = i)).elim (fun h => by rw [h]; exact pk_us) (fun h => by rw [pk_un h]; exact hgh d (by omega))) _ _ _ hP hD hS (lv_sub hl [1, 2, 3, 4, 0] rfl)
  exact lp (2 * n + 1) 0 ft fh (by omega) (by omega) (fun d h => absurd h (by omega)) (fun d h => absurd h (by omega)) _ _ _ hP hD hS (lv_sub hl [2, 3, 4, 1, 0] rfl)
theorem yy_X3_lay : cY yX3_lay cX3_lay 5 none 2 := ⟨wdK_X3_lay, wdZ_RX3, by decide +kernel⟩
theorem yi_X3_lay : cYi yX3_lay := ⟨wdN_X3_lay, wdS_X3_lay⟩
theorem dX3_copyCodes_0 : decode cX3_copyCodes 0 = .ok (.iconst 0, 1) := by decide +kernel
theorem dX3_copyCodes_1 : decode cX3_copyCodes 1 = .ok (.istore_n 2, 1) := by decide +kernel
theorem dX3_copyCodes_2 : decode cX3_copyCodes 2 = .ok (.iload_n 2, 1) := by decide +kernel
theorem dX3_copyCodes_3 : decode cX3_copyCodes 3 = .ok (.aload_n 0, 1) := by decide +kernel
theorem dX3_copyCodes_4 : decode cX3_copyCodes 4 = .ok (.getfield 61, 3) := by decide +kernel
theorem dX3_copyCodes_7 : decode cX3_copyCodes 7 = .ok (.if_icmp .ge 23, 3) := by decide +kernel
theorem dX3_copyCodes_10 : decode cX3_copyCodes 10 = .ok (.iload_n 2, 1) := by decide +kernel
theorem dX3_copyCodes_11 : decode cX3_copyCodes 11 = .ok (.aload_n 1, 1) := by decide +kernel
theorem dX3_copyCodes_12 : decode cX3_copyCodes 12 = .ok (.arraylength, 1) := by decide +kernel
theorem dX3_copyCodes_13 : decode cX3_copyCodes 13 = .ok (.if_icmp .ge 17, 3) := by decide +kernel
theorem dX3_copyCodes_16 : decode cX3_copyCodes 16 = .ok (.aload_n 1, 1) := by decide +kernel
theorem dX3_copyCodes_17 : decode cX3_copyCodes 17 = .ok (.iload_n 2, 1) := by decide +kernel
theorem dX3_copyCodes_18 : decode cX3_copyCodes 18 = .ok (.aload_n 0, 1) := by decide +kernel
theorem dX3_copyCodes_19 : decode cX3_copyCodes 19 = .ok (.iload_n 2, 1) := by decide +kernel
theorem dX3_copyCodes_20 : decode cX3_copyCodes 20 = .ok (.invokevirtual 65, 3) := by decide +kernel
theorem dX3_copyCodes_23 : decode cX3_copyCodes 23 = .ok (.iastore, 1) := by decide +kernel
theorem dX3_copyCodes_24 : decode cX3_copyCodes 24 = .ok (.iinc 2 1, 3) := by decide +kernel
theorem dX3_copyCodes_27 : decode cX3_copyCodes 27 = .ok (.goto (-25), 3) := by decide +kernel
theorem dX3_copyCodes_30 : decode cX3_copyCodes 30 = .ok (.return_, 1) := by decide +kernel
abbrev rm_c_X3_copyCodes : Room := { frames := 2, cells := 0, slots := 0, locals := 43 }
set_option maxHeartbeats 4000000 in
set_option maxRecDepth 100000 in
theorem c_X3_copyCodes (l : Launch) (E : cE) (h0 : Nat) (a1 : Nat) (a2 : Nat) (a3 : Nat) (a4 : Nat) (a5 : Nat) (a6 : Nat) (a7 : Nat) (a8 : Nat) (N : Nat) (ve : Int32) (cd : Nat → Nat) (fx : Nat → Int32) (fy : Nat → Int32) (ff : Nat → Int32) (hc : Nat) (cl : Nat) (fc : Nat → Int32) (hf : flo cd N fx fy ff) (hN : N ≤ 64) (hNc : N ≤ cl) (hcl : cl ≤ 64) : cM l E yX3_copyCodes cX3_copyCodes 3 none rm_c_X3_copyCodes [.ref h0, .ref hc] [(h0, ob 3 [.ref a1, .ref a2, .ref a3, .ref a4, .ref a5, .ref a6, .ref a7, .ref a8, .int (nI N), .int ve]), (a1, aI E 64 fx), (a2, aI E 64 fy), (a3, aI E 64 ff), (hc, aI E cl fc)] (qV E (fun (gc : Nat → Int32) => ∀ d, d < N → gc d = nI (cd d)) (fun (gc : Nat → Int32) => [(h0, ob 3 [.ref a1, .ref a2, .ref a3, .ref a4, .ref a5, .ref a6, .ref a7, .ref a8, .int (nI N), .int ve]), (a1, aI E 64 fx), (a2, aI E 64 fy), (a3, aI E 64 ff), (hc, aI E cl gc)])) := by
  refine cM_of (by decide) (Nat.le_of_ble_eq_true rfl) ?_
  intro p e s m below meth c ls A F hA hS hP hD hK hZ hl
  obtain ⟨hx, hb, hr, hml, hown, hts, hlk, hin⟩ := id F
  have hown : s.vm.findClass RX3 = some m.cls := hown
  have hl : lv_has ls 3 [(0, .ref h0), (1, .ref hc)] := hl
  refine lv_iconst (v := nI 0) hx hb dX3_copyCodes_0 (by decide) ?_
  refine lv_istore_n (lv' := [(2, .int (nI 0)), (0, .ref h0), (1, .ref hc)]) hx hb dX3_copyCodes_1 rfl hl (by decide) rfl (fun ls hl => ?_)
  have lp : ∀ (n_lp : Nat) (i : Nat) (gc : Nat → Int32) (hn : N + 1 ≤ i + n_lp) (hi : i ≤ N) (hg : ∀ d, d < i → gc d = nI (cd d)) (H : Heap) (locs : List Loc) (ls : Array Slot), va_P E.1 vwCl [(h0, ob 3 [.ref a1, .ref a2, .ref a3, .ref a4, .ref a5, .ref a6, .ref a7, .ref a8, .int (nI N), .int ve]), (a1, aI E 64 fx), (a2, aI E 64 fy), (a3, aI E 64 ff), (hc, aI E cl gc)] H → va_D A [(h0, ob 3 [.ref a1, .ref a2, .ref a3, .ref a4, .ref a5, .ref a6, .ref a7, .ref a8, .int (nI N), .int ve]), (a1, aI E 64 fx), (a2, aI E 64 fy), (a3, aI E 64 ff), (hc, aI E cl gc)] → va_S A s.heap H locs → lv_has ls 3 [(0, .ref h0), (1, .ref hc), (2, .int (nI i))] → W p l e rm_c_X3_copyCodes s m ([.ref h0, .ref hc] : List Value).toArray below meth c H locs 0 0 (MQ below ((qV E (fun (gc : Nat → Int32) => ∀ d, d < N → gc d = nI (cd d)) (fun (gc : Nat → Int32) => [(h0, ob 3 [.ref a1, .ref a2, .ref a3, .ref a4, .ref a5, .ref a6, .ref a7, .ref a8, .int (nI N), .int ve]), (a1, aI E 64 fx), (a2, aI E 64 fy), (a3, aI E 64 ff), (hc, aI E cl gc)])) A) ([.ref h0, .ref hc] : List Value).toArray s (rm_c_X3_copyCodes).cells (rm_c_X3_copyCodes).slots A) (F0 m 2 ls []) := by
    intro n_lp
    induction n_lp with
    | zero =>
      intro i gc hn hi hg
      exfalso; omega
    | succ n_lp ih_lp =>
      intro i gc hn hi hg H locs ls hP hD hS hl
      refine lv_iload_n hx hb dX3_copyCodes_2 rfl (lv_at hl 2 rfl) ?_
      refine lv_aload_n hx hb dX3_copyCodes_3 rfl (lv_at hl 0 rfl) ?_
      refine va_get (D := E.1) (ci := 3) (v := .int (nI N)) (C := RX3) (T := TX3) (N := 10) hx hb hts iX3 hown hK hP 0 rfl rfl 8 (by decide) (hts _ wdF_RX3_61) (fun _ h9 => h9) rfl dX3_copyCodes_4 ?_
      refine lv_icmp_ge (tgt := 30) hx hb dX3_copyCodes_7 (by decide) (fun c1 => ?_) (fun c1 => ?_)
      · have c2 : N ≤ i := (nI_leI (by omega) (by omega)).mp c1
        exact cV_ret F hP hD hS hK gc (fun d hd => hg d (by omega)) [0, 1, 2, 3, 4] rfl rfl dX3_copyCodes_30 (by decide) (by decide)
      · have c2 : i < N := Nat.lt_of_not_le (fun h => c1 (nI_le h (by omega)))
        refine lv_iload_n hx hb dX3_copyCodes_10 rfl (lv_at hl 2 rfl) ?_
        refine lv_aload_n hx hb dX3_copyCodes_11 rfl (lv_at hl 1 rfl) ?_
        refine va_alen hx hb hK hP 4 1 rfl rfl (v := nI cl) rfl dX3_copyCodes_12 ?_
        refine lv_icmp_ge (tgt := 30) hx hb dX3_copyCodes_13 (by decide) (fun c_38 => absurd c_38 (fun h => absurd ((nI_leI (by omega) (by omega)).mp h) (by omega))) (fun c_38 => ?_)
        refine lv_aload_n hx hb dX3_copyCodes_16 rfl (lv_at hl 1 rfl) ?_
        refine lv_iload_n hx hb dX3_copyCodes_17 rfl (lv_at hl 2 rfl) ?_
        refine lv_aload_n hx hb dX3_copyCodes_18 rfl (lv_at hl 0 rfl) ?_
        refine lv_iload_n hx hb dX3_copyCodes_19 rfl (lv_at hl 2 rfl) ?_
        refine cI_go (wr := [(hc, aI E cl gc)]) (cM_runV (As := [.int (nI i)]) (rest := [.int (nI i), .ref hc]) F (c_X3_codeAt l E h0 a1 a2 a3 a4 a5 a6 a7 a8 N ve cd fx fy ff i hf hN c2) yy_X3_codeAt yi_X3_codeAt wdM_RX3_65 hP hD hS hK hZ hA [0, 1, 2, 3] rfl rfl 0 3 rfl rfl rfl hl.1 rfl (Nat.le_of_ble_eq_true rfl) dX3_copyCodes_20 ⟨by decide, by decide⟩ ⟨by decide, by decide⟩) hP hD hS hA [0, 1, 2, 3] [4] rfl rfl rfl (by decide) (fun r_41 u_40 H locs hw_39 hP hD hS => ?_)
        try dsimp only at hw_39
        have hP : va_P E.1 vwCl [(hc, aI E cl gc), (h0, ob 3 [.ref a1, .ref a2, .ref a3, .ref a4, .ref a5, .ref a6, .ref a7, .ref a8, .int (nI N), .int ve]), (a1, aI E 64 fx), (a2, aI E 64 fy), (a3, aI E 64 ff)] H := hP
        have hD : va_D A [(hc, aI E cl gc), (h0, ob 3 [.ref a1, .ref a2, .ref a3, .ref a4, .ref a5, .ref a6, .ref a7, .ref a8, .int (nI N), .int ve]), (a1, aI E 64 fx), (a2, aI E 64 fy), (a3, aI E 64 ff)] := hD
        subst hw_39
        refine va_iast hx hb hK hP hD hS 0 1 rfl rfl (vp_in_nI (by omega) (by omega)) dX3_copyCodes_23 (fun H locs hP hD hS => ?_)
        have hP : va_P E.1 vwCl [(hc, aI E cl (upd gc (nI i).toNatClampNeg (nI (cd i)))), (h0, ob 3 [.ref a1, .ref a2, .ref a3, .ref a4, .ref a5, .ref a6, .ref a7, .ref a8, .int (nI N), .int ve]), (a1, aI E 64 fx), (a2, aI E 64 fy), (a3, aI E 64 ff)] H := hP
        have hD : va_D A [(hc, aI E cl (upd gc (nI i).toNatClampNeg (nI (cd i)))), (h0, ob 3 [.ref a1, .ref a2, .ref a3, .ref a4, .ref a5, .ref a6, .ref a7, .ref a8, .int (nI N), .int ve]), (a1, aI E 64 fx), (a2, aI E 64 fy), (a3, aI E 64 ff)] := hD
        rw [nI_clamp (n := i) (by omega)] at hP hD
        refine lv_iinc (v := nI (i + 1)) (lv' := [(2, .int (nI (i + 1))), (0, .ref h0), (1, .ref hc)]) hx hb dX3_copyCodes_24 hl (k := 2) rfl (nI_1 i) (by decide) rfl (fun ls hl => ?_)
        refine lv_goto (tgt := 2) hx hb dX3_copyCodes_27 (by decide) ?_
        exact ih_lp (i + 1) (upd gc i (nI (cd i))) (by omega) (by omega) (fun d hd => (Decidable.em (d = i)).elim (fun h => by rw [h]; exact pk_us) (fun h => by rw [pk_un h]; exact hg d (by omega))) _ _ _ (hP.sub [1, 2, 3, 4, 0] rfl) (hD.sub [1, 2, 3, 4, 0] rfl rfl) hS (lv_sub hl [1, 2, 0] rfl)
  exact lp (N + 1) 0 fc (by omega) (by omega) (fun d h => absurd h (by omega)) _ _ _ hP hD hS (lv_sub hl [1, 2, 0] rfl)
theorem yy_X3_copyCodes : cY yX3_copyCodes cX3_copyCodes 3 none 1 := ⟨wdK_X3_copyCodes, wdZ_RX3, by decide +kernel⟩
theorem yi_X3_copyCodes : cYi yX3_copyCodes := ⟨wdN_X3_copyCodes, wdS_X3_copyCodes⟩
theorem dX3_isAt_0 : decode cX3_isAt 0 = .ok (.iconst 0, 1) := by decide +kernel
theorem dX3_isAt_1 : decode cX3_isAt 1 = .ok (.istore_n 2, 1) := by decide +kernel
theorem dX3_isAt_2 : decode cX3_isAt 2 = .ok (.iload_n 2, 1) := by decide +kernel
theorem dX3_isAt_3 : decode cX3_isAt 3 = .ok (.aload_n 0, 1) := by decide +kernel
theorem dX3_isAt_4 : decode cX3_isAt 4 = .ok (.getfield 61, 3) := by decide +kernel
theorem dX3_isAt_7 : decode cX3_isAt 7 = .ok (.if_icmp .ge 28, 3) := by decide +kernel
theorem dX3_isAt_10 : decode cX3_isAt 10 = .ok (.iload_n 2, 1) := by decide +kernel
theorem dX3_isAt_11 : decode cX3_isAt 11 = .ok (.aload_n 1, 1) := by decide +kernel
theorem dX3_isAt_12 : decode cX3_isAt 12 = .ok (.arraylength, 1) := by decide +kernel
theorem dX3_isAt_13 : decode cX3_isAt 13 = .ok (.if_icmp .ge 22, 3) := by decide +kernel
theorem dX3_isAt_16 : decode cX3_isAt 16 = .ok (.aload_n 1, 1) := by decide +kernel
theorem dX3_isAt_17 : decode cX3_isAt 17 = .ok (.iload_n 2, 1) := by decide +kernel
theorem dX3_isAt_18 : decode cX3_isAt 18 = .ok (.iaload, 1) := by decide +kernel
theorem dX3_isAt_19 : decode cX3_isAt 19 = .ok (.aload_n 0, 1) := by decide +kernel
theorem dX3_isAt_20 : decode cX3_isAt 20 = .ok (.iload_n 2, 1) := by decide +kernel
theorem dX3_isAt_21 : decode cX3_isAt 21 = .ok (.invokevirtual 65, 3) := by decide +kernel
theorem dX3_isAt_24 : decode cX3_isAt 24 = .ok (.if_icmp .eq 5, 3) := by decide +kernel
theorem dX3_isAt_27 : decode cX3_isAt 27 = .ok (.iconst 0, 1) := by decide +kernel
theorem dX3_isAt_28 : decode cX3_isAt 28 = .ok (.ireturn, 1) := by decide +kernel
theorem dX3_isAt_29 : decode cX3_isAt 29 = .ok (.iinc 2 1, 3) := by decide +kernel
theorem dX3_isAt_32 : decode cX3_isAt 32 = .ok (.goto (-30), 3) := by decide +kernel
theorem dX3_isAt_35 : decode cX3_isAt 35 = .ok (.iconst 1, 1) := by decide +kernel
theorem dX3_isAt_36 : decode cX3_isAt 36 = .ok (.ireturn, 1) := by decide +kernel
abbrev rm_c_X3_isAt : Room := { frames := 2, cells := 0, slots := 0, locals := 43 }
set_option maxHeartbeats 4000000 in
set_option maxRecDepth 100000 in
theorem c_X3_isAt (l : Launch) (E : cE) (h0 : Nat) (a1 : Nat) (a2 : Nat) (a3 : Nat) (a4 : Nat) (a5 : Nat) (a6 : Nat) (a7 : Nat) (a8 : Nat) (N : Nat) (ve : Int32) (cd : Nat → Nat) (fx : Nat → Int32) (fy : Nat → Int32) (ff : Nat → Int32) (hc : Nat) (cl : Nat) (fc : Nat → Int32) (hf : flo cd N fx fy ff) (hN : N ≤ 64) (hNc : N ≤ cl) (hcl : cl ≤ 64) : cM l E yX3_isAt cX3_isAt 3 (some .boolean) rm_c_X3_isAt [.ref h0, .ref hc] [(h0, ob 3 [.ref a1, .ref a2, .ref a3, .ref a4, .ref a5, .ref a6, .ref a7, .ref a8, .int (nI N), .int ve]), (a1, aI E 64 fx), (a2, aI E 64 fy), (a3, aI E 64 ff), (hc, aI E cl fc)] (qI E (fun (r : Int32) (_u : Unit) => (r = 1 ∧ ∀ d, d < N → fc d = nI (cd d)) ∨ (r = 0 ∧ ∃ d, d < N ∧ ¬ fc d = nI (cd d))) (fun _ => [(h0, ob 3 [.ref a1, .ref a2, .ref a3, .ref a4, .ref a5, .ref a6, .ref a7, .ref a8, .int (nI N), .int ve]), (a1, aI E 64 fx), (a2, aI E 64 fy), (a3, aI E 64 ff), (hc, aI E cl fc)])) := by
  refine cM_of (by decide) (Nat.le_of_ble_eq_true rfl) ?_
  intro p e s m below meth c ls A F hA hS hP hD hK hZ hl
  obtain ⟨hx, hb, hr, hml, hown, hts, hlk, hin⟩ := id F
  have hown : s.vm.findClass RX3 = some m.cls := hown
  have hl : lv_has ls 3 [(0, .ref h0), (1, .ref hc)] := hl
  refine lv_iconst (v := nI 0) hx hb dX3_isAt_0 (by decide) ?_
  refine lv_istore_n (lv' := [(2, .int (nI 0)), (0, .ref h0), (1, .ref hc)]) hx hb dX3_isAt_1 rfl hl (by decide) rfl (fun ls hl => ?_)
  have lp : ∀ (n_lp : Nat) (i : Nat) (hn : N + 1 ≤ i + n_lp) (hi : i ≤ N) (hg : ∀ d, d < i → fc d = nI (cd d)) (H : Heap) (locs : List Loc) (ls : Array Slot), va_P E.1 vwCl [(h0, ob 3 [.ref a1, .ref a2, .ref a3, .ref a4, .ref a5, .ref a6, .ref a7, .ref a8, .int (nI N), .int ve]), (a1, aI E 64 fx), (a2, aI E 64 fy), (a3, aI E 64 ff), (hc, aI E cl fc)] H → va_D A [(h0, ob 3 [.ref a1, .ref a2, .ref a3, .ref a4, .ref a5, .ref a6, .ref a7, .ref a8, .int (nI N), .int ve]), (a1, aI E 64 fx), (a2, aI E 64 fy), (a3, aI E 64 ff), (hc, aI E cl fc)] → va_S A s.heap H locs → lv_has ls 3 [(0, .ref h0), (1, .ref hc), (2, .int (nI i))] → W p l e rm_c_X3_isAt s m ([.ref h0, .ref hc] : List Value).toArray below meth c H locs 0 0 (MQ below ((qI E (fun (r : Int32) (_u : Unit) => (r = 1 ∧ ∀ d, d < N → fc d = nI (cd d)) ∨ (r = 0 ∧ ∃ d, d < N ∧ ¬ fc d = nI (cd d))) (fun _ => [(h0, ob 3 [.ref a1, .ref a2, .ref a3, .ref a4, .ref a5, .ref a6, .ref a7, .ref a8, .int (nI N), .int ve]), (a1, aI E 64 fx), (a2, aI E 64 fy), (a3, aI E 64 ff), (hc, aI E cl fc)])) A) ([.ref h0, .ref hc] : List Value).toArray s (rm_c_X3_isAt).cells (rm_c_X3_isAt).slots A) (F0 m 2 ls []) := by
    intro n_lp
    induction n_lp with
    | zero =>
      intro i hn hi hg
      exfalso; omega
    | succ n_lp ih_lp =>
      intro i hn hi hg H locs ls hP hD hS hl
      refine lv_iload_n hx hb dX3_isAt_2 rfl (lv_at hl 2 rfl) ?_
      refine lv_aload_n hx hb dX3_isAt_3 rfl (lv_at hl 0 rfl) ?_
      refine va_get (D := E.1) (ci := 3) (v := .int (nI N)) (C := RX3) (T := TX3) (N := 10) hx hb hts iX3 hown hK hP 0 rfl rfl 8 (by decide) (hts _ wdF_RX3_61) (fun _ h9 => h9) rfl dX3_isAt_4 ?_
      refine lv_icmp_ge (tgt := 35) hx hb dX3_isAt_7 (by decide) (fun c1 => ?_) (fun c1 => ?_)
      · have c2 : N ≤ i := (nI_leI (by omega) (by omega)).mp c1
        refine lv_iconst (v := nI 1) hx hb dX3_isAt_35 (by decide) ?_
        exact cB_ret F hP hD hS hK (by decide) () (Or.inl ⟨rfl, fun d hd => hg d (by omega)⟩) [0, 1, 2, 3, 4] rfl rfl dX3_isAt_36 (by decide) (by decide)
      · have c2 : i < N := Nat.lt_of_not_le (fun h => c1 (nI_le h (by omega)))
        refine lv_iload_n hx hb dX3_isAt_10 rfl (lv_at hl 2 rfl) ?_
        refine lv_aload_n hx hb dX3_isAt_11 rfl (lv_at hl 1 rfl) ?_
        refine va_alen hx hb hK hP 4 1 rfl rfl (v := nI cl) rfl dX3_isAt_12 ?_
        refine lv_icmp_ge (tgt := 35) hx hb dX3_isAt_13 (by decide) (fun c_42 => absurd c_42 (fun h => absurd ((nI_leI (by omega) (by omega)).mp h) (by omega))) (fun c_42 => ?_)
        refine lv_aload_n hx hb dX3_isAt_16 rfl (lv_at hl 1 rfl) ?_
        refine lv_iload_n hx hb dX3_isAt_17 rfl (lv_at hl 2 rfl) ?_
        refine va_iald hx hb hK hP 4 1 rfl rfl (vp_in_nI (by omega) (by omega)) dX3_isAt_18 ?_
        rw [nI_clamp (n := i) (by omega)]
        refine lv_aload_n hx hb dX3_isAt_19 rfl (lv_at hl 0 rfl) ?_
        refine lv_iload_n hx hb dX3_isAt_20 rfl (lv_at hl 2 rfl) ?_
        refine cI_go (wr := [(hc, aI E cl fc)]) (cM_runV (As := [.int (nI i)]) (rest := [.int (fc i)]) F (c_X3_codeAt l E h0 a1 a2 a3 a4 a5 a6 a7 a8 N ve cd fx fy ff i hf hN c2) yy_X3_codeAt yi_X3_codeAt wdM_RX3_65 hP hD hS hK hZ hA [0, 1, 2, 3] rfl rfl 0 3 rfl rfl rfl hl.1 rfl (Nat.le_of_ble_eq_true rfl) dX3_isAt_21 ⟨by decide, by decide⟩ ⟨by decide, by decide⟩) hP hD hS hA [0, 1, 2, 3] [4] rfl rfl rfl (by decide) (fun r_45 u_44 H locs hw_43 hP hD hS => ?_)
        try dsimp only at hw_43
        have hP : va_P E.1 vwCl [(hc, aI E cl fc), (h0, ob 3 [.ref a1, .ref a2, .ref a3, .ref a4, .ref a5, .ref a6, .ref a7, .ref a8, .int (nI N), .int ve]), (a1, aI E 64 fx), (a2, aI E 64 fy), (a3, aI E 64 ff)] H := hP
        have hD : va_D A [(hc, aI E cl fc), (h0, ob 3 [.ref a1, .ref a2, .ref a3, .ref a4, .ref a5, .ref a6, .ref a7, .ref a8, .int (nI N), .int ve]), (a1, aI E 64 fx), (a2, aI E 64 fy), (a3, aI E 64 ff)] := hD
        subst hw_43
        refine lv_icmp_eq (tgt := 29) hx hb dX3_isAt_24 (by decide) (fun c3 => ?_) (fun c3 => ?_)
        · refine lv_iinc (v := nI (i + 1)) (lv' := [(2, .int (nI (i + 1))), (0, .ref h0), (1, .ref hc)]) hx hb dX3_isAt_29 hl (k := 2) rfl (nI_1 i) (by decide) rfl (fun ls hl => ?_)
          refine lv_goto (tgt := 2) hx hb dX3_isAt_32 (by decide) ?_
          exact ih_lp (i + 1) (by omega) (by omega) (fun d hd => (Decidable.em (d = i)).elim (fun h => by rw [h]; exact c3) (fun h => hg d (by omega))) _ _ _ (hP.sub [1, 2, 3, 4, 0] rfl) (hD.sub [1, 2, 3, 4, 0] rfl rfl) hS (lv_sub hl [1, 2, 0] rfl)
        · refine lv_iconst (v := nI 0) hx hb dX3_isAt_27 (by decide) ?_
          exact cB_ret F hP hD hS hK (by decide) () (Or.inr ⟨rfl, i, c2, c3⟩) [1, 2, 3, 4, 0] rfl rfl dX3_isAt_28 (by decide) (by decide)
  exact lp (N + 1) 0 (by omega) (by omega) (fun d h => absurd h (by omega)) _ _ _ hP hD hS (lv_sub hl [1, 2, 0] rfl)
theorem yy_X3_isAt : cY yX3_isAt cX3_isAt 3 (some .boolean) 1 := ⟨wdK_X3_isAt, wdZ_RX3, by decide +kernel⟩
theorem yi_X3_isAt : cYi yX3_isAt := ⟨wdN_X3_isAt, wdS_X3_isAt⟩
