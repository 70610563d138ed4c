theorem TB_mem {w : Cond} (h : w ∈ lw_tbl) (g : goodWord w = true) : w ∈ TB := List.mem_filter.mpr ⟨h, g⟩
theorem TB_1 {w : Cond} (h : w ∈ tables_1_1) (g : goodWord w = true) : w ∈ TB := TB_mem (List.mem_append_right _ (List.mem_append_left _ h)) g
theorem TB_2 {w : Cond} (h : w ∈ tables_1_2) (g : goodWord w = true) : w ∈ TB := TB_mem (List.mem_append_right _ (List.mem_append_right _ (List.mem_append_left _ h))) g
theorem TB_3 {w : Cond} (h : w ∈ tables_1_3) (g : goodWord w = true) : w ∈ TB := TB_mem (List.mem_append_right _ (List.mem_append_right _ (List.mem_append_right _ (List.mem_append_left _ h)))) g
theorem TB_4 {w : Cond} (h : w ∈ tables_1_4) (g : goodWord w = true) : w ∈ TB := TB_mem (List.mem_append_right _ (List.mem_append_right _ (List.mem_append_right _ (List.mem_append_right _ (List.mem_append_left _ h))))) g
theorem TB_5 {w : Cond} (h : w ∈ tables_1_5) (g : goodWord w = true) : w ∈ TB := TB_mem (List.mem_append_right _ (List.mem_append_right _ (List.mem_append_right _ (List.mem_append_right _ (List.mem_append_right _ (List.mem_append_left _ h)))))) g
theorem TB_6 {w : Cond} (h : w ∈ tables_1_6) (g : goodWord w = true) : w ∈ TB := TB_mem (List.mem_append_right _ (List.mem_append_right _ (List.mem_append_right _ (List.mem_append_right _ (List.mem_append_right _ (List.mem_append_right _ (List.mem_append_left _ h))))))) g
theorem TB_7 {w : Cond} (h : w ∈ tables_1_7) (g : goodWord w = true) : w ∈ TB := TB_mem (List.mem_append_right _ (List.mem_append_right _ (List.mem_append_right _ (List.mem_append_right _ (List.mem_append_right _ (List.mem_append_right _ (List.mem_append_right _ (List.mem_append_left _ h)))))))) g
theorem TB_8 {w : Cond} (h : w ∈ tables_1_8) (g : goodWord w = true) : w ∈ TB := TB_mem (List.mem_append_right _ (List.mem_append_right _ (List.mem_append_right _ (List.mem_append_right _ (List.mem_append_right _ (List.mem_append_right _ (List.mem_append_right _ (List.mem_append_right _ (List.mem_append_left _ h))))))))) g
theorem TB_9 {w : Cond} (h : w ∈ tables_1_9) (g : goodWord w = true) : w ∈ TB := TB_mem (List.mem_append_right _ (List.mem_append_right _ (List.mem_append_right _ (List.mem_append_right _ (List.mem_append_right _ (List.mem_append_right _ (List.mem_append_right _ (List.mem_append_right _ (List.mem_append_right _ (List.mem_append_left _ h)))))))))) g
theorem TB_10 {w : Cond} (h : w ∈ tables_1_10) (g : goodWord w = true) : w ∈ TB := TB_mem (List.mem_append_right _ (List.mem_append_right _ (List.mem_append_right _ (List.mem_append_right _ (List.mem_append_right _ (List.mem_append_right _ (List.mem_append_right _ (List.mem_append_right _ (List.mem_append_right _ (List.mem_append_right _ (h))))))))))) g
theorem TB_p1 {q : MethodName × Nat} (h : q ∈ lw_privs_1) : Cond.selects q.1.cls q.1 q.1 ∈ TB := TB_mem (List.mem_append_left _ (List.mem_map.mpr ⟨q, List.mem_append_left _ h, rfl⟩)) rfl
theorem TB_p2 {q : MethodName × Nat} (h : q ∈ lw_privs_2) : Cond.selects q.1.cls q.1 q.1 ∈ TB := TB_mem (List.mem_append_left _ (List.mem_map.mpr ⟨q, List.mem_append_right _ (List.mem_append_left _ h), rfl⟩)) rfl
theorem TB_p3 {q : MethodName × Nat} (h : q ∈ lw_privs_3) : Cond.selects q.1.cls q.1 q.1 ∈ TB := TB_mem (List.mem_append_left _ (List.mem_map.mpr ⟨q, List.mem_append_right _ (List.mem_append_right _ (List.mem_append_left _ h)), rfl⟩)) rfl
theorem TB_p4 {q : MethodName × Nat} (h : q ∈ lw_privs_4) : Cond.selects q.1.cls q.1 q.1 ∈ TB := TB_mem (List.mem_append_left _ (List.mem_map.mpr ⟨q, List.mem_append_right _ (List.mem_append_right _ (List.mem_append_right _ (List.mem_append_left _ h))), rfl⟩)) rfl
theorem TB_p5 {q : MethodName × Nat} (h : q ∈ lw_privs_5) : Cond.selects q.1.cls q.1 q.1 ∈ TB := TB_mem (List.mem_append_left _ (List.mem_map.mpr ⟨q, List.mem_append_right _ (List.mem_append_right _ (List.mem_append_right _ (List.mem_append_right _ (List.mem_append_left _ h)))), rfl⟩)) rfl
theorem TB_p6 {q : MethodName × Nat} (h : q ∈ lw_privs_6) : Cond.selects q.1.cls q.1 q.1 ∈ TB := TB_mem (List.mem_append_left _ (List.mem_map.mpr ⟨q, List.mem_append_right _ (List.mem_append_right _ (List.mem_append_right _ (List.mem_append_right _ (List.mem_append_right _ (List.mem_append_left _ h))))), rfl⟩)) rfl
theorem TB_p7 {q : MethodName × Nat} (h : q ∈ lw_privs_7) : Cond.selects q.1.cls q.1 q.1 ∈ TB := TB_mem (List.mem_append_left _ (List.mem_map.mpr ⟨q, List.mem_append_right _ (List.mem_append_right _ (List.mem_append_right _ (List.mem_append_right _ (List.mem_append_right _ (List.mem_append_right _ (List.mem_append_left _ h)))))), rfl⟩)) rfl
theorem TB_p8 {q : MethodName × Nat} (h : q ∈ lw_privs_8) : Cond.selects q.1.cls q.1 q.1 ∈ TB := TB_mem (List.mem_append_left _ (List.mem_map.mpr ⟨q, List.mem_append_right _ (List.mem_append_right _ (List.mem_append_right _ (List.mem_append_right _ (List.mem_append_right _ (List.mem_append_right _ (List.mem_append_right _ (List.mem_append_left _ h))))))), rfl⟩)) rfl
theorem TB_p9 {q : MethodName × Nat} (h : q ∈ lw_privs_9) : Cond.selects q.1.cls q.1 q.1 ∈ TB := TB_mem (List.mem_append_left _ (List.mem_map.mpr ⟨q, List.mem_append_right _ (List.mem_append_right _ (List.mem_append_right _ (List.mem_append_right _ (List.mem_append_right _ (List.mem_append_right _ (List.mem_append_right _ (List.mem_append_right _ (List.mem_append_left _ h)))))))), rfl⟩)) rfl
theorem TB_p10 {q : MethodName × Nat} (h : q ∈ lw_privs_10) : Cond.selects q.1.cls q.1 q.1 ∈ TB := TB_mem (List.mem_append_left _ (List.mem_map.mpr ⟨q, List.mem_append_right _ (List.mem_append_right _ (List.mem_append_right _ (List.mem_append_right _ (List.mem_append_right _ (List.mem_append_right _ (List.mem_append_right _ (List.mem_append_right _ (List.mem_append_right _ (h))))))))), rfl⟩)) rfl
theorem wdS_X3_sort : Cond.selects yX3_sort.cls yX3_sort yX3_sort ∈ TB := TB_p1 (q := (yX3_sort, 10)) (List.mem_of_getElem? (i := 0) rfl)
theorem wdS_X10_skipBlanks : Cond.selects yX10_skipBlanks.cls yX10_skipBlanks yX10_skipBlanks ∈ TB := TB_p1 (q := (yX10_skipBlanks, 8)) (List.mem_of_getElem? (i := 1) rfl)
theorem wdS_X10_byteAt : Cond.selects yX10_byteAt.cls yX10_byteAt yX10_byteAt ∈ TB := TB_p1 (q := (yX10_byteAt, 8)) (List.mem_of_getElem? (i := 2) rfl)
theorem wdS_X10_readToken : Cond.selects yX10_readToken.cls yX10_readToken yX10_readToken ∈ TB := TB_p1 (q := (yX10_readToken, 8)) (List.mem_of_getElem? (i := 3) rfl)
theorem wdS_X10_readWord : Cond.selects yX10_readWord.cls yX10_readWord yX10_readWord ∈ TB := TB_p1 (q := (yX10_readWord, 8)) (List.mem_of_getElem? (i := 4) rfl)
theorem wdS_X10_put : Cond.selects yX10_put.cls yX10_put yX10_put ∈ TB := TB_p1 (q := (yX10_put, 8)) (List.mem_of_getElem? (i := 5) rfl)
theorem wdS_X10_kindOfWord : Cond.selects yX10_kindOfWord.cls yX10_kindOfWord yX10_kindOfWord ∈ TB := TB_p1 (q := (yX10_kindOfWord, 8)) (List.mem_of_getElem? (i := 6) rfl)
theorem wdS_X10_readNumber : Cond.selects yX10_readNumber.cls yX10_readNumber yX10_readNumber ∈ TB := TB_p1 (q := (yX10_readNumber, 8)) (List.mem_of_getElem? (i := 7) rfl)
theorem wdS_X7_save : Cond.selects yX7_save.cls yX7_save yX7_save ∈ TB := TB_p1 (q := (yX7_save, 13)) (List.mem_of_getElem? (i := 8) rfl)
theorem wdS_X7_startText : Cond.selects yX7_startText.cls yX7_startText yX7_startText ∈ TB := TB_p1 (q := (yX7_startText, 13)) (List.mem_of_getElem? (i := 9) rfl)
theorem wdS_X7_readForm : Cond.selects yX7_readForm.cls yX7_readForm yX7_readForm ∈ TB := TB_p1 (q := (yX7_readForm, 13)) (List.mem_of_getElem? (i := 10) rfl)
theorem wdS_X7_wrong : Cond.selects yX7_wrong.cls yX7_wrong yX7_wrong ∈ TB := TB_p1 (q := (yX7_wrong, 13)) (List.mem_of_getElem? (i := 11) rfl)
theorem wdS_X7_pass : Cond.selects yX7_pass.cls yX7_pass yX7_pass ∈ TB := TB_p1 (q := (yX7_pass, 13)) (List.mem_of_getElem? (i := 12) rfl)
theorem wdS_X7_takeNew : Cond.selects yX7_takeNew.cls yX7_takeNew yX7_takeNew ∈ TB := TB_p1 (q := (yX7_takeNew, 13)) (List.mem_of_getElem? (i := 13) rfl)
theorem wdS_X7_take : Cond.selects yX7_take.cls yX7_take yX7_take ∈ TB := TB_p1 (q := (yX7_take, 13)) (List.mem_of_getElem? (i := 14) rfl)
theorem wdS_X7_readSlot : Cond.selects yX7_readSlot.cls yX7_readSlot yX7_readSlot ∈ TB := TB_p1 (q := (yX7_readSlot, 13)) (List.mem_of_getElem? (i := 15) rfl)
theorem wdS_X7_numberFault : Cond.selects yX7_numberFault.cls yX7_numberFault yX7_numberFault ∈ TB := TB_p2 (q := (yX7_numberFault, 13)) (List.mem_of_getElem? (i := 0) rfl)
theorem wdS_X7_readFigure : Cond.selects yX7_readFigure.cls yX7_readFigure yX7_readFigure ∈ TB := TB_p2 (q := (yX7_readFigure, 13)) (List.mem_of_getElem? (i := 1) rfl)
theorem wdS_X7_takeKnown : Cond.selects yX7_takeKnown.cls yX7_takeKnown yX7_takeKnown ∈ TB := TB_p2 (q := (yX7_takeKnown, 13)) (List.mem_of_getElem? (i := 2) rfl)
theorem wdS_X7_takeNumber : Cond.selects yX7_takeNumber.cls yX7_takeNumber yX7_takeNumber ∈ TB := TB_p2 (q := (yX7_takeNumber, 13)) (List.mem_of_getElem? (i := 3) rfl)
theorem wdS_X7_readGoals : Cond.selects yX7_readGoals.cls yX7_readGoals yX7_readGoals ∈ TB := TB_p2 (q := (yX7_readGoals, 13)) (List.mem_of_getElem? (i := 4) rfl)
theorem wdS_X7_readGoal : Cond.selects yX7_readGoal.cls yX7_readGoal yX7_readGoal ∈ TB := TB_p2 (q := (yX7_readGoal, 13)) (List.mem_of_getElem? (i := 5) rfl)
theorem wdS_X7_readPart : Cond.selects yX7_readPart.cls yX7_readPart yX7_readPart ∈ TB := TB_p2 (q := (yX7_readPart, 13)) (List.mem_of_getElem? (i := 6) rfl)
theorem wdS_X7_readBlock : Cond.selects yX7_readBlock.cls yX7_readBlock yX7_readBlock ∈ TB := TB_p2 (q := (yX7_readBlock, 13)) (List.mem_of_getElem? (i := 7) rfl)
theorem wdS_X7_nest : Cond.selects yX7_nest.cls yX7_nest yX7_nest ∈ TB := TB_p2 (q := (yX7_nest, 13)) (List.mem_of_getElem? (i := 8) rfl)
theorem wdS_X7_readStatement : Cond.selects yX7_readStatement.cls yX7_readStatement yX7_readStatement ∈ TB := TB_p2 (q := (yX7_readStatement, 13)) (List.mem_of_getElem? (i := 9) rfl)
theorem wdS_X7_readDo : Cond.selects yX7_readDo.cls yX7_readDo yX7_readDo ∈ TB := TB_p2 (q := (yX7_readDo, 13)) (List.mem_of_getElem? (i := 10) rfl)
theorem wdS_X7_readRepeat : Cond.selects yX7_readRepeat.cls yX7_readRepeat yX7_readRepeat ∈ TB := TB_p2 (q := (yX7_readRepeat, 13)) (List.mem_of_getElem? (i := 11) rfl)
theorem wdS_X7_readUntil : Cond.selects yX7_readUntil.cls yX7_readUntil yX7_readUntil ∈ TB := TB_p2 (q := (yX7_readUntil, 13)) (List.mem_of_getElem? (i := 12) rfl)
theorem wdS_X7_putLook : Cond.selects yX7_putLook.cls yX7_putLook yX7_putLook ∈ TB := TB_p2 (q := (yX7_putLook, 13)) (List.mem_of_getElem? (i := 13) rfl)
theorem wdS_X7_readEither : Cond.selects yX7_readEither.cls yX7_readEither yX7_readEither ∈ TB := TB_p2 (q := (yX7_readEither, 13)) (List.mem_of_getElem? (i := 14) rfl)
theorem wdS_X7_readBoth : Cond.selects yX7_readBoth.cls yX7_readBoth yX7_readBoth ∈ TB := TB_p2 (q := (yX7_readBoth, 13)) (List.mem_of_getElem? (i := 15) rfl)
theorem wdS_X7_readSingle : Cond.selects yX7_readSingle.cls yX7_readSingle yX7_readSingle ∈ TB := TB_p3 (q := (yX7_readSingle, 13)) (List.mem_of_getElem? (i := 0) rfl)
theorem wdS_X7_readTest : Cond.selects yX7_readTest.cls yX7_readTest yX7_readTest ∈ TB := TB_p3 (q := (yX7_readTest, 13)) (List.mem_of_getElem? (i := 1) rfl)
theorem wdS_X7_readNot : Cond.selects yX7_readNot.cls yX7_readNot yX7_readNot ∈ TB := TB_p3 (q := (yX7_readNot, 13)) (List.mem_of_getElem? (i := 2) rfl)
theorem wdS_X7_readGroup : Cond.selects yX7_readGroup.cls yX7_readGroup yX7_readGroup ∈ TB := TB_p3 (q := (yX7_readGroup, 13)) (List.mem_of_getElem? (i := 3) rfl)
theorem wdS_X7_readForms : Cond.selects yX7_readForms.cls yX7_readForms yX7_readForms ∈ TB := TB_p3 (q := (yX7_readForms, 13)) (List.mem_of_getElem? (i := 4) rfl)
theorem wdS_X7_readOne : Cond.selects yX7_readOne.cls yX7_readOne yX7_readOne ∈ TB := TB_p3 (q := (yX7_readOne, 13)) (List.mem_of_getElem? (i := 5) rfl)
theorem wdS_X7_readIf : Cond.selects yX7_readIf.cls yX7_readIf yX7_readIf ∈ TB := TB_p3 (q := (yX7_readIf, 13)) (List.mem_of_getElem? (i := 6) rfl)
theorem wdS_X7_readFor : Cond.selects yX7_readFor.cls yX7_readFor yX7_readFor ∈ TB := TB_p3 (q := (yX7_readFor, 13)) (List.mem_of_getElem? (i := 7) rfl)
theorem wdS_X7_readStep : Cond.selects yX7_readStep.cls yX7_readStep yX7_readStep ∈ TB := TB_p3 (q := (yX7_readStep, 13)) (List.mem_of_getElem? (i := 8) rfl)
theorem wdS_X7_readAllow : Cond.selects yX7_readAllow.cls yX7_readAllow yX7_readAllow ∈ TB := TB_p3 (q := (yX7_readAllow, 13)) (List.mem_of_getElem? (i := 9) rfl)
theorem wdS_X7_revert : Cond.selects yX7_revert.cls yX7_revert yX7_revert ∈ TB := TB_p3 (q := (yX7_revert, 13)) (List.mem_of_getElem? (i := 10) rfl)
theorem wdS_X11_danceAt : Cond.selects yX11_danceAt.cls yX11_danceAt yX11_danceAt ∈ TB := TB_p3 (q := (yX11_danceAt, 17)) (List.mem_of_getElem? (i := 11) rfl)
theorem wdS_X2_membersOf : Cond.selects yX2_membersOf.cls yX2_membersOf yX2_membersOf ∈ TB := TB_p3 (q := (yX2_membersOf, 10)) (List.mem_of_getElem? (i := 12) rfl)
theorem wdS_X1_stayAll : Cond.selects yX1_stayAll.cls yX1_stayAll yX1_stayAll ∈ TB := TB_p3 (q := (yX1_stayAll, 17)) (List.mem_of_getElem? (i := 13) rfl)
theorem wdS_X1_move : Cond.selects yX1_move.cls yX1_move yX1_move ∈ TB := TB_p3 (q := (yX1_move, 17)) (List.mem_of_getElem? (i := 14) rfl)
theorem wdS_X1_blame : Cond.selects yX1_blame.cls yX1_blame yX1_blame ∈ TB := TB_p3 (q := (yX1_blame, 17)) (List.mem_of_getElem? (i := 15) rfl)
theorem wdS_X1_moveCopy : Cond.selects yX1_moveCopy.cls yX1_moveCopy yX1_moveCopy ∈ TB := TB_p4 (q := (yX1_moveCopy, 17)) (List.mem_of_getElem? (i := 0) rfl)
theorem wdS_X1_land : Cond.selects yX1_land.cls yX1_land yX1_land ∈ TB := TB_p4 (q := (yX1_land, 17)) (List.mem_of_getElem? (i := 1) rfl)
theorem wdS_X1_square : Cond.selects yX1_square.cls yX1_square yX1_square ∈ TB := TB_p4 (q := (yX1_square, 17)) (List.mem_of_getElem? (i := 2) rfl)
theorem wdS_X11_noteFailure : Cond.selects yX11_noteFailure.cls yX11_noteFailure yX11_noteFailure ∈ TB := TB_p4 (q := (yX11_noteFailure, 17)) (List.mem_of_getElem? (i := 3) rfl)
theorem wdS_X11_countStep : Cond.selects yX11_countStep.cls yX11_countStep yX11_countStep ∈ TB := TB_p4 (q := (yX11_countStep, 17)) (List.mem_of_getElem? (i := 4) rfl)
theorem wdS_X8_dance : Cond.selects yX8_dance.cls yX8_dance yX8_dance ∈ TB := TB_p4 (q := (yX8_dance, 11)) (List.mem_of_getElem? (i := 5) rfl)
theorem wdS_X8_actsOf : Cond.selects yX8_actsOf.cls yX8_actsOf yX8_actsOf ∈ TB := TB_p4 (q := (yX8_actsOf, 11)) (List.mem_of_getElem? (i := 6) rfl)
theorem wdS_X8_top : Cond.selects yX8_top.cls yX8_top yX8_top ∈ TB := TB_p4 (q := (yX8_top, 11)) (List.mem_of_getElem? (i := 7) rfl)
theorem wdS_X8_count : Cond.selects yX8_count.cls yX8_count yX8_count ∈ TB := TB_p4 (q := (yX8_count, 11)) (List.mem_of_getElem? (i := 8) rfl)
theorem wdS_X8_obey : Cond.selects yX8_obey.cls yX8_obey yX8_obey ∈ TB := TB_p4 (q := (yX8_obey, 11)) (List.mem_of_getElem? (i := 9) rfl)
theorem wdS_X8_push : Cond.selects yX8_push.cls yX8_push yX8_push ∈ TB := TB_p4 (q := (yX8_push, 11)) (List.mem_of_getElem? (i := 10) rfl)
theorem wdS_X8_pop : Cond.selects yX8_pop.cls yX8_pop yX8_pop ∈ TB := TB_p4 (q := (yX8_pop, 11)) (List.mem_of_getElem? (i := 11) rfl)
theorem wdS_X8_leaveIf : Cond.selects yX8_leaveIf.cls yX8_leaveIf yX8_leaveIf ∈ TB := TB_p4 (q := (yX8_leaveIf, 11)) (List.mem_of_getElem? (i := 12) rfl)
theorem wdS_X9_pack : Cond.selects yX9_pack.cls yX9_pack yX9_pack ∈ TB := TB_p4 (q := (yX9_pack, 18)) (List.mem_of_getElem? (i := 13) rfl)
theorem wdS_X9_meet : Cond.selects yX9_meet.cls yX9_meet yX9_meet ∈ TB := TB_p4 (q := (yX9_meet, 18)) (List.mem_of_getElem? (i := 14) rfl)
theorem wdS_X9_placeOfKey : Cond.selects yX9_placeOfKey.cls yX9_placeOfKey yX9_placeOfKey ∈ TB := TB_p4 (q := (yX9_placeOfKey, 18)) (List.mem_of_getElem? (i := 15) rfl)
theorem wdS_X9_findRows : Cond.selects yX9_findRows.cls yX9_findRows yX9_findRows ∈ TB := TB_p5 (q := (yX9_findRows, 18)) (List.mem_of_getElem? (i := 0) rfl)
theorem wdS_X9_countWays : Cond.selects yX9_countWays.cls yX9_countWays yX9_countWays ∈ TB := TB_p5 (q := (yX9_countWays, 18)) (List.mem_of_getElem? (i := 1) rfl)
theorem wdS_X9_onward : Cond.selects yX9_onward.cls yX9_onward yX9_onward ∈ TB := TB_p5 (q := (yX9_onward, 18)) (List.mem_of_getElem? (i := 2) rfl)
theorem wdS_X9_widen : Cond.selects yX9_widen.cls yX9_widen yX9_widen ∈ TB := TB_p5 (q := (yX9_widen, 18)) (List.mem_of_getElem? (i := 3) rfl)
theorem wdS_X9_unpack : Cond.selects yX9_unpack.cls yX9_unpack yX9_unpack ∈ TB := TB_p5 (q := (yX9_unpack, 18)) (List.mem_of_getElem? (i := 4) rfl)
theorem wdS_X12_begins : Cond.selects yX12_begins.cls yX12_begins yX12_begins ∈ TB := TB_p5 (q := (yX12_begins, 116)) (List.mem_of_getElem? (i := 5) rfl)
theorem wdS_X12_stands : Cond.selects yX12_stands.cls yX12_stands yX12_stands ∈ TB := TB_p5 (q := (yX12_stands, 116)) (List.mem_of_getElem? (i := 6) rfl)
theorem wdS_X12_marks : Cond.selects yX12_marks.cls yX12_marks yX12_marks ∈ TB := TB_p5 (q := (yX12_marks, 116)) (List.mem_of_getElem? (i := 7) rfl)
theorem wdS_X12_opensText : Cond.selects yX12_opensText.cls yX12_opensText yX12_opensText ∈ TB := TB_p5 (q := (yX12_opensText, 116)) (List.mem_of_getElem? (i := 8) rfl)
theorem wdS_X12_next : Cond.selects yX12_next.cls yX12_next yX12_next ∈ TB := TB_p5 (q := (yX12_next, 116)) (List.mem_of_getElem? (i := 9) rfl)
theorem wdS_X12_byteAt : Cond.selects yX12_byteAt.cls yX12_byteAt yX12_byteAt ∈ TB := TB_p5 (q := (yX12_byteAt, 116)) (List.mem_of_getElem? (i := 10) rfl)
theorem wdS_X12_keyAt : Cond.selects yX12_keyAt.cls yX12_keyAt yX12_keyAt ∈ TB := TB_p5 (q := (yX12_keyAt, 116)) (List.mem_of_getElem? (i := 11) rfl)
theorem wdS_X12_isKey : Cond.selects yX12_isKey.cls yX12_isKey yX12_isKey ∈ TB := TB_p5 (q := (yX12_isKey, 116)) (List.mem_of_getElem? (i := 12) rfl)
theorem wdS_X12_form : Cond.selects yX12_form.cls yX12_form yX12_form ∈ TB := TB_p5 (q := (yX12_form, 116)) (List.mem_of_getElem? (i := 13) rfl)
theorem wdS_X12_wrong : Cond.selects yX12_wrong.cls yX12_wrong yX12_wrong ∈ TB := TB_p5 (q := (yX12_wrong, 116)) (List.mem_of_getElem? (i := 14) rfl)
theorem wdS_X12_newName : Cond.selects yX12_newName.cls yX12_newName yX12_newName ∈ TB := TB_p5 (q := (yX12_newName, 116)) (List.mem_of_getElem? (i := 15) rfl)
theorem wdS_X12_nameAt : Cond.selects yX12_nameAt.cls yX12_nameAt yX12_nameAt ∈ TB := TB_p6 (q := (yX12_nameAt, 116)) (List.mem_of_getElem? (i := 0) rfl)
theorem wdS_X12_takes : Cond.selects yX12_takes.cls yX12_takes yX12_takes ∈ TB := TB_p6 (q := (yX12_takes, 116)) (List.mem_of_getElem? (i := 1) rfl)
theorem wdS_X12_sign : Cond.selects yX12_sign.cls yX12_sign yX12_sign ∈ TB := TB_p6 (q := (yX12_sign, 116)) (List.mem_of_getElem? (i := 2) rfl)
theorem wdS_X12_isSign : Cond.selects yX12_isSign.cls yX12_isSign yX12_isSign ∈ TB := TB_p6 (q := (yX12_isSign, 116)) (List.mem_of_getElem? (i := 3) rfl)
theorem wdS_X12_slot : Cond.selects yX12_slot.cls yX12_slot yX12_slot ∈ TB := TB_p6 (q := (yX12_slot, 116)) (List.mem_of_getElem? (i := 4) rfl)
theorem wdS_X12_tell : Cond.selects yX12_tell.cls yX12_tell yX12_tell ∈ TB := TB_p6 (q := (yX12_tell, 116)) (List.mem_of_getElem? (i := 5) rfl)
theorem wdS_X12_figure : Cond.selects yX12_figure.cls yX12_figure yX12_figure ∈ TB := TB_p6 (q := (yX12_figure, 116)) (List.mem_of_getElem? (i := 6) rfl)
theorem wdS_X12_key : Cond.selects yX12_key.cls yX12_key yX12_key ∈ TB := TB_p6 (q := (yX12_key, 116)) (List.mem_of_getElem? (i := 7) rfl)
theorem wdS_X12_knownName : Cond.selects yX12_knownName.cls yX12_knownName yX12_knownName ∈ TB := TB_p6 (q := (yX12_knownName, 116)) (List.mem_of_getElem? (i := 8) rfl)
theorem wdS_X12_number : Cond.selects yX12_number.cls yX12_number yX12_number ∈ TB := TB_p6 (q := (yX12_number, 116)) (List.mem_of_getElem? (i := 9) rfl)
theorem wdS_X12_part : Cond.selects yX12_part.cls yX12_part yX12_part ∈ TB := TB_p6 (q := (yX12_part, 116)) (List.mem_of_getElem? (i := 10) rfl)
theorem wdS_X12_block : Cond.selects yX12_block.cls yX12_block yX12_block ∈ TB := TB_p6 (q := (yX12_block, 116)) (List.mem_of_getElem? (i := 11) rfl)
theorem wdS_X12_opensBy : Cond.selects yX12_opensBy.cls yX12_opensBy yX12_opensBy ∈ TB := TB_p6 (q := (yX12_opensBy, 116)) (List.mem_of_getElem? (i := 12) rfl)
theorem wdS_X12_opens : Cond.selects yX12_opens.cls yX12_opens yX12_opens ∈ TB := TB_p6 (q := (yX12_opens, 116)) (List.mem_of_getElem? (i := 13) rfl)
theorem wdS_X12_statement : Cond.selects yX12_statement.cls yX12_statement yX12_statement ∈ TB := TB_p6 (q := (yX12_statement, 116)) (List.mem_of_getElem? (i := 14) rfl)
theorem wdS_X12_condition : Cond.selects yX12_condition.cls yX12_condition yX12_condition ∈ TB := TB_p6 (q := (yX12_condition, 116)) (List.mem_of_getElem? (i := 15) rfl)
theorem wdS_X12_conditionAnd : Cond.selects yX12_conditionAnd.cls yX12_conditionAnd yX12_conditionAnd ∈ TB := TB_p7 (q := (yX12_conditionAnd, 116)) (List.mem_of_getElem? (i := 0) rfl)
theorem wdS_X12_conditionOne : Cond.selects yX12_conditionOne.cls yX12_conditionOne yX12_conditionOne ∈ TB := TB_p7 (q := (yX12_conditionOne, 116)) (List.mem_of_getElem? (i := 1) rfl)
theorem wdS_X12_closesBy : Cond.selects yX12_closesBy.cls yX12_closesBy yX12_closesBy ∈ TB := TB_p7 (q := (yX12_closesBy, 116)) (List.mem_of_getElem? (i := 2) rfl)
theorem wdS_X12_whoText : Cond.selects yX12_whoText.cls yX12_whoText yX12_whoText ∈ TB := TB_p7 (q := (yX12_whoText, 116)) (List.mem_of_getElem? (i := 3) rfl)
theorem wdS_X12_whoAnd : Cond.selects yX12_whoAnd.cls yX12_whoAnd yX12_whoAnd ∈ TB := TB_p7 (q := (yX12_whoAnd, 116)) (List.mem_of_getElem? (i := 4) rfl)
theorem wdS_X12_whoOne : Cond.selects yX12_whoOne.cls yX12_whoOne yX12_whoOne ∈ TB := TB_p7 (q := (yX12_whoOne, 116)) (List.mem_of_getElem? (i := 5) rfl)
theorem wdS_X12_stepText : Cond.selects yX12_stepText.cls yX12_stepText yX12_stepText ∈ TB := TB_p7 (q := (yX12_stepText, 116)) (List.mem_of_getElem? (i := 6) rfl)
theorem wdS_X12_allow : Cond.selects yX12_allow.cls yX12_allow yX12_allow ∈ TB := TB_p7 (q := (yX12_allow, 116)) (List.mem_of_getElem? (i := 7) rfl)
theorem wdS_X12_writes : Cond.selects yX12_writes.cls yX12_writes yX12_writes ∈ TB := TB_p7 (q := (yX12_writes, 116)) (List.mem_of_getElem? (i := 8) rfl)
theorem wdS_X12_everybody : Cond.selects yX12_everybody.cls yX12_everybody yX12_everybody ∈ TB := TB_p7 (q := (yX12_everybody, 116)) (List.mem_of_getElem? (i := 9) rfl)
theorem wdS_X12_dances : Cond.selects yX12_dances.cls yX12_dances yX12_dances ∈ TB := TB_p7 (q := (yX12_dances, 116)) (List.mem_of_getElem? (i := 10) rfl)
theorem wdS_X12_reckons : Cond.selects yX12_reckons.cls yX12_reckons yX12_reckons ∈ TB := TB_p7 (q := (yX12_reckons, 116)) (List.mem_of_getElem? (i := 11) rfl)
theorem wdS_X12_readWho : Cond.selects yX12_readWho.cls yX12_readWho yX12_readWho ∈ TB := TB_p7 (q := (yX12_readWho, 116)) (List.mem_of_getElem? (i := 12) rfl)
theorem wdS_X12_readAnd : Cond.selects yX12_readAnd.cls yX12_readAnd yX12_readAnd ∈ TB := TB_p7 (q := (yX12_readAnd, 116)) (List.mem_of_getElem? (i := 13) rfl)
theorem wdS_X12_readOne : Cond.selects yX12_readOne.cls yX12_readOne yX12_readOne ∈ TB := TB_p7 (q := (yX12_readOne, 116)) (List.mem_of_getElem? (i := 14) rfl)
theorem wdS_X12_greedy : Cond.selects yX12_greedy.cls yX12_greedy yX12_greedy ∈ TB := TB_p7 (q := (yX12_greedy, 116)) (List.mem_of_getElem? (i := 15) rfl)
theorem wdS_X12_sort : Cond.selects yX12_sort.cls yX12_sort yX12_sort ∈ TB := TB_p8 (q := (yX12_sort, 116)) (List.mem_of_getElem? (i := 0) rfl)
theorem wdS_X12_isBefore : Cond.selects yX12_isBefore.cls yX12_isBefore yX12_isBefore ∈ TB := TB_p8 (q := (yX12_isBefore, 116)) (List.mem_of_getElem? (i := 1) rfl)
theorem wdS_X12_fits : Cond.selects yX12_fits.cls yX12_fits yX12_fits ∈ TB := TB_p8 (q := (yX12_fits, 116)) (List.mem_of_getElem? (i := 2) rfl)
theorem wdS_X12_whoAt : Cond.selects yX12_whoAt.cls yX12_whoAt yX12_whoAt ∈ TB := TB_p8 (q := (yX12_whoAt, 116)) (List.mem_of_getElem? (i := 3) rfl)
theorem wdS_X12_ofCopy : Cond.selects yX12_ofCopy.cls yX12_ofCopy yX12_ofCopy ∈ TB := TB_p8 (q := (yX12_ofCopy, 116)) (List.mem_of_getElem? (i := 4) rfl)
theorem wdS_X12_fails : Cond.selects yX12_fails.cls yX12_fails yX12_fails ∈ TB := TB_p8 (q := (yX12_fails, 116)) (List.mem_of_getElem? (i := 5) rfl)
theorem wdS_X12_parted : Cond.selects yX12_parted.cls yX12_parted yX12_parted ∈ TB := TB_p8 (q := (yX12_parted, 116)) (List.mem_of_getElem? (i := 6) rfl)
theorem wdS_X12_firstOf : Cond.selects yX12_firstOf.cls yX12_firstOf yX12_firstOf ∈ TB := TB_p8 (q := (yX12_firstOf, 116)) (List.mem_of_getElem? (i := 7) rfl)
theorem wdS_X12_moves : Cond.selects yX12_moves.cls yX12_moves yX12_moves ∈ TB := TB_p8 (q := (yX12_moves, 116)) (List.mem_of_getElem? (i := 8) rfl)
theorem wdS_X12_notes : Cond.selects yX12_notes.cls yX12_notes yX12_notes ∈ TB := TB_p8 (q := (yX12_notes, 116)) (List.mem_of_getElem? (i := 9) rfl)
theorem wdS_X12_settles : Cond.selects yX12_settles.cls yX12_settles yX12_settles ∈ TB := TB_p8 (q := (yX12_settles, 116)) (List.mem_of_getElem? (i := 10) rfl)
theorem wdS_X12_rank : Cond.selects yX12_rank.cls yX12_rank yX12_rank ∈ TB := TB_p8 (q := (yX12_rank, 116)) (List.mem_of_getElem? (i := 11) rfl)
theorem wdS_X12_keeps : Cond.selects yX12_keeps.cls yX12_keeps yX12_keeps ∈ TB := TB_p8 (q := (yX12_keeps, 116)) (List.mem_of_getElem? (i := 12) rfl)
theorem wdS_X12_starts : Cond.selects yX12_starts.cls yX12_starts yX12_starts ∈ TB := TB_p8 (q := (yX12_starts, 116)) (List.mem_of_getElem? (i := 13) rfl)
theorem wdS_X12_enters : Cond.selects yX12_enters.cls yX12_enters yX12_enters ∈ TB := TB_p8 (q := (yX12_enters, 116)) (List.mem_of_getElem? (i := 14) rfl)
theorem wdS_X12_goesToStep : Cond.selects yX12_goesToStep.cls yX12_goesToStep yX12_goesToStep ∈ TB := TB_p8 (q := (yX12_goesToStep, 116)) (List.mem_of_getElem? (i := 15) rfl)
theorem wdS_X12_closes : Cond.selects yX12_closes.cls yX12_closes yX12_closes ∈ TB := TB_p9 (q := (yX12_closes, 116)) (List.mem_of_getElem? (i := 0) rfl)
theorem wdS_X12_actsOf : Cond.selects yX12_actsOf.cls yX12_actsOf yX12_actsOf ∈ TB := TB_p9 (q := (yX12_actsOf, 116)) (List.mem_of_getElem? (i := 1) rfl)
theorem wdS_X12_acted : Cond.selects yX12_acted.cls yX12_acted yX12_acted ∈ TB := TB_p9 (q := (yX12_acted, 116)) (List.mem_of_getElem? (i := 2) rfl)
theorem wdS_X12_readCondition : Cond.selects yX12_readCondition.cls yX12_readCondition yX12_readCondition ∈ TB := TB_p9 (q := (yX12_readCondition, 116)) (List.mem_of_getElem? (i := 3) rfl)
theorem wdS_X12_readConditionAnd : Cond.selects yX12_readConditionAnd.cls yX12_readConditionAnd yX12_readConditionAnd ∈ TB := TB_p9 (q := (yX12_readConditionAnd, 116)) (List.mem_of_getElem? (i := 4) rfl)
theorem wdS_X12_readConditionOne : Cond.selects yX12_readConditionOne.cls yX12_readConditionOne yX12_readConditionOne ∈ TB := TB_p9 (q := (yX12_readConditionOne, 116)) (List.mem_of_getElem? (i := 5) rfl)
theorem wdS_X12_isHome : Cond.selects yX12_isHome.cls yX12_isHome yX12_isHome ∈ TB := TB_p9 (q := (yX12_isHome, 116)) (List.mem_of_getElem? (i := 6) rfl)
theorem wdS_X12_enters_ : Cond.selects yX12_enters_.cls yX12_enters_ yX12_enters_ ∈ TB := TB_p9 (q := (yX12_enters_, 116)) (List.mem_of_getElem? (i := 7) rfl)
theorem wdS_X12_savesFloor : Cond.selects yX12_savesFloor.cls yX12_savesFloor yX12_savesFloor ∈ TB := TB_p9 (q := (yX12_savesFloor, 116)) (List.mem_of_getElem? (i := 8) rfl)
theorem wdS_X12_searches : Cond.selects yX12_searches.cls yX12_searches yX12_searches ∈ TB := TB_p9 (q := (yX12_searches, 116)) (List.mem_of_getElem? (i := 9) rfl)
theorem wdS_X12_meets : Cond.selects yX12_meets.cls yX12_meets yX12_meets ∈ TB := TB_p9 (q := (yX12_meets, 116)) (List.mem_of_getElem? (i := 10) rfl)
theorem wdS_X12_packed : Cond.selects yX12_packed.cls yX12_packed yX12_packed ∈ TB := TB_p9 (q := (yX12_packed, 116)) (List.mem_of_getElem? (i := 11) rfl)
theorem wdS_X12_isAim : Cond.selects yX12_isAim.cls yX12_isAim yX12_isAim ∈ TB := TB_p9 (q := (yX12_isAim, 116)) (List.mem_of_getElem? (i := 12) rfl)
theorem wdS_X12_levelBehind : Cond.selects yX12_levelBehind.cls yX12_levelBehind yX12_levelBehind ∈ TB := TB_p9 (q := (yX12_levelBehind, 116)) (List.mem_of_getElem? (i := 13) rfl)
theorem wdS_X12_showsState : Cond.selects yX12_showsState.cls yX12_showsState yX12_showsState ∈ TB := TB_p9 (q := (yX12_showsState, 116)) (List.mem_of_getElem? (i := 14) rfl)
theorem wdS_X12_stateAtHand : Cond.selects yX12_stateAtHand.cls yX12_stateAtHand yX12_stateAtHand ∈ TB := TB_p9 (q := (yX12_stateAtHand, 116)) (List.mem_of_getElem? (i := 15) rfl)
theorem wdS_X12_givesFloor : Cond.selects yX12_givesFloor.cls yX12_givesFloor yX12_givesFloor ∈ TB := TB_p10 (q := (yX12_givesFloor, 116)) (List.mem_of_getElem? (i := 0) rfl)
theorem wdS_X12_priceOf : Cond.selects yX12_priceOf.cls yX12_priceOf yX12_priceOf ∈ TB := TB_p10 (q := (yX12_priceOf, 116)) (List.mem_of_getElem? (i := 1) rfl)
theorem wdS_X12_reckonsWays : Cond.selects yX12_reckonsWays.cls yX12_reckonsWays yX12_reckonsWays ∈ TB := TB_p10 (q := (yX12_reckonsWays, 116)) (List.mem_of_getElem? (i := 2) rfl)
theorem wdS_X12_isOnWay : Cond.selects yX12_isOnWay.cls yX12_isOnWay yX12_isOnWay ∈ TB := TB_p10 (q := (yX12_isOnWay, 116)) (List.mem_of_getElem? (i := 3) rfl)
theorem wdS_X12_finds : Cond.selects yX12_finds.cls yX12_finds yX12_finds ∈ TB := TB_p10 (q := (yX12_finds, 116)) (List.mem_of_getElem? (i := 4) rfl)
theorem wdS_X12_dancesOn : Cond.selects yX12_dancesOn.cls yX12_dancesOn yX12_dancesOn ∈ TB := TB_p10 (q := (yX12_dancesOn, 116)) (List.mem_of_getElem? (i := 5) rfl)
theorem wdZ_RL : Cond.initialized RL ∈ TB := TB_1 (List.mem_of_getElem? (i := 0) rfl) rfl
theorem wdZ_RX11 : Cond.initialized RX11 ∈ TB := TB_1 (List.mem_of_getElem? (i := 1) rfl) rfl
theorem wdZ_RX10 : Cond.initialized RX10 ∈ TB := TB_1 (List.mem_of_getElem? (i := 2) rfl) rfl
theorem wdZ_RJ0 : Cond.initialized RJ0 ∈ TB := TB_1 (List.mem_of_getElem? (i := 3) rfl) rfl
theorem wdZ_RJ1 : Cond.initialized RJ1 ∈ TB := TB_1 (List.mem_of_getElem? (i := 4) rfl) rfl
theorem wdZ_RJ3 : Cond.initialized RJ3 ∈ TB := TB_1 (List.mem_of_getElem? (i := 5) rfl) rfl
theorem wdZ_RJ2 : Cond.initialized RJ2 ∈ TB := TB_1 (List.mem_of_getElem? (i := 6) rfl) rfl
theorem wdZ_RX0 : Cond.initialized RX0 ∈ TB := TB_1 (List.mem_of_getElem? (i := 7) rfl) rfl
theorem wdZ_RX6 : Cond.initialized RX6 ∈ TB := TB_1 (List.mem_of_getElem? (i := 8) rfl) rfl
theorem wdZ_RX7 : Cond.initialized RX7 ∈ TB := TB_1 (List.mem_of_getElem? (i := 9) rfl) rfl
theorem wdZ_RX1 : Cond.initialized RX1 ∈ TB := TB_1 (List.mem_of_getElem? (i := 10) rfl) rfl
theorem wdZ_RX2 : Cond.initialized RX2 ∈ TB := TB_1 (List.mem_of_getElem? (i := 11) rfl) rfl
theorem wdZ_RX3 : Cond.initialized RX3 ∈ TB := TB_1 (List.mem_of_getElem? (i := 12) rfl) rfl
theorem wdZ_RX8 : Cond.initialized RX8 ∈ TB := TB_1 (List.mem_of_getElem? (i := 13) rfl) rfl
theorem wdZ_RX4 : Cond.initialized RX4 ∈ TB := TB_1 (List.mem_of_getElem? (i := 14) rfl) rfl
theorem wdZ_RX9 : Cond.initialized RX9 ∈ TB := TB_1 (List.mem_of_getElem? (i := 15) rfl) rfl
theorem wdZ_RJ9 : Cond.initialized RJ9 ∈ TB := TB_1 (List.mem_of_getElem? (i := 16) rfl) rfl
theorem wdZ_RJ7 : Cond.initialized RJ7 ∈ TB := TB_1 (List.mem_of_getElem? (i := 17) rfl) rfl
theorem wdZ_RX12 : Cond.initialized RX12 ∈ TB := TB_1 (List.mem_of_getElem? (i := 18) rfl) rfl
theorem wdZ_RJ11 : Cond.initialized RJ11 ∈ TB := TB_1 (List.mem_of_getElem? (i := 19) rfl) rfl
theorem wdZ_RJ10 : Cond.initialized RJ10 ∈ TB := TB_1 (List.mem_of_getElem? (i := 20) rfl) rfl
theorem wdZ_RJ13 : Cond.initialized RJ13 ∈ TB := TB_1 (List.mem_of_getElem? (i := 21) rfl) rfl
theorem wdZ_RX5 : Cond.initialized RX5 ∈ TB := TB_1 (List.mem_of_getElem? (i := 22) rfl) rfl
theorem wdC_RL_7 : Cond.classLink RL 7 RX11 ∈ TB := TB_1 (List.mem_of_getElem? (i := 23) rfl) rfl
theorem wdI_RX11 : Cond.instantiable RX11 17 ∈ TB := TB_1 (List.mem_of_getElem? (i := 24) rfl) rfl
theorem wdM_RL_9 : Cond.methodLink RL 9 yX11_init ∈ TB := TB_1 (List.mem_of_getElem? (i := 25) rfl) rfl
theorem wdN_X11_init : Cond.instanceMethod yX11_init ∈ TB := TB_1 (List.mem_of_getElem? (i := 26) rfl) rfl
theorem wdK_X11_init : Cond.code yX11_init cX11_init 1 none ∈ TB := TB_1 (List.mem_of_getElem? (i := 27) rfl) rfl
theorem wdM_RX11_1 : Cond.methodLink RX11 1 objectInit ∈ TB := TB_1 (List.mem_of_getElem? (i := 28) rfl) rfl
theorem wd_oi : Cond.instanceMethod objectInit ∈ TB := TB_1 (List.mem_of_getElem? (i := 29) rfl) rfl
theorem wd_oc : Cond.code objectInit ⟨#[0xb1]⟩ 1 none ∈ TB := TB_1 (List.mem_of_getElem? (i := 30) rfl) rfl
theorem wdC_RX11_7 : Cond.classLink RX11 7 RX10 ∈ TB := TB_1 (List.mem_of_getElem? (i := 31) rfl) rfl
theorem wdI_RX10 : Cond.instantiable RX10 8 ∈ TB := TB_1 (List.mem_of_getElem? (i := 32) rfl) rfl
theorem wdM_RX11_9 : Cond.methodLink RX11 9 yX10_init ∈ TB := TB_1 (List.mem_of_getElem? (i := 33) rfl) rfl
theorem wdN_X10_init : Cond.instanceMethod yX10_init ∈ TB := TB_1 (List.mem_of_getElem? (i := 34) rfl) rfl
theorem wdK_X10_init : Cond.code yX10_init cX10_init 5 none ∈ TB := TB_1 (List.mem_of_getElem? (i := 35) rfl) rfl
theorem wdM_RX10_3 : Cond.methodLink RX10 3 objectInit ∈ TB := TB_1 (List.mem_of_getElem? (i := 36) rfl) rfl
theorem wdM_RX10_34 : Cond.methodLink RX10 34 yJ0_length_8abf5 ∈ TB := TB_1 (List.mem_of_getElem? (i := 38) rfl) rfl
theorem wdN_J0_length_8abf5 : Cond.instanceMethod yJ0_length_8abf5 ∈ TB := TB_1 (List.mem_of_getElem? (i := 39) rfl) rfl
theorem wdS_J0_length_8abf5 : Cond.selects yJ0_length_8abf5.cls yJ0_length_8abf5 yJ0_length_8abf5 ∈ TB := TB_1 (List.mem_of_getElem? (i := 40) rfl) rfl
theorem wdK_J0_length_8abf5 : Cond.code yJ0_length_8abf5 cJ0_length_8abf5 1 (some .int) ∈ TB := TB_1 (List.mem_of_getElem? (i := 41) rfl) rfl
theorem wdM_RJ0_335 : Cond.methodLink RJ0 335 yJ0_coder_7d493 ∈ TB := TB_1 (List.mem_of_getElem? (i := 42) rfl) rfl
theorem wdN_J0_coder_7d493 : Cond.instanceMethod yJ0_coder_7d493 ∈ TB := TB_1 (List.mem_of_getElem? (i := 43) rfl) rfl
theorem wdS_J0_coder_7d493 : Cond.selects yJ0_coder_7d493.cls yJ0_coder_7d493 yJ0_coder_7d493 ∈ TB := TB_1 (List.mem_of_getElem? (i := 44) rfl) rfl
theorem wdK_J0_coder_7d493 : Cond.code yJ0_coder_7d493 cJ0_coder_7d493 1 (some .byte) ∈ TB := TB_1 (List.mem_of_getElem? (i := 45) rfl) rfl
theorem wdF_RJ0_38 : Cond.fieldLink RJ0 38 "java/lang/String" "COMPACT_STRINGS" "Z" ∈ TB := TB_1 (List.mem_of_getElem? (i := 46) rfl) rfl
theorem wdM_RX10_40 : Cond.methodLink RX10 40 yJ0_charAt_5068e ∈ TB := TB_1 (List.mem_of_getElem? (i := 48) rfl) rfl
theorem wdN_J0_charAt_5068e : Cond.instanceMethod yJ0_charAt_5068e ∈ TB := TB_1 (List.mem_of_getElem? (i := 49) rfl) rfl
theorem wdS_J0_charAt_5068e : Cond.selects yJ0_charAt_5068e.cls yJ0_charAt_5068e yJ0_charAt_5068e ∈ TB := TB_1 (List.mem_of_getElem? (i := 50) rfl) rfl
theorem wdK_J0_charAt_5068e : Cond.code yJ0_charAt_5068e cJ0_charAt_5068e 2 (some .char) ∈ TB := TB_1 (List.mem_of_getElem? (i := 51) rfl) rfl
theorem wdM_RJ0_492 : Cond.methodLink RJ0 492 yJ0_isLatin1_aae02 ∈ TB := TB_1 (List.mem_of_getElem? (i := 52) rfl) rfl
theorem wdN_J0_isLatin1_aae02 : Cond.instanceMethod yJ0_isLatin1_aae02 ∈ TB := TB_1 (List.mem_of_getElem? (i := 53) rfl) rfl
theorem wdS_J0_isLatin1_aae02 : Cond.selects yJ0_isLatin1_aae02.cls yJ0_isLatin1_aae02 yJ0_isLatin1_aae02 ∈ TB := TB_1 (List.mem_of_getElem? (i := 54) rfl) rfl
theorem wdK_J0_isLatin1_aae02 : Cond.code yJ0_isLatin1_aae02 cJ0_isLatin1_aae02 1 (some .boolean) ∈ TB := TB_1 (List.mem_of_getElem? (i := 55) rfl) rfl
theorem wdM_RJ0_495 : Cond.methodLink RJ0 495 yJ1_charAt_3b067 ∈ TB := TB_1 (List.mem_of_getElem? (i := 56) rfl) rfl
theorem wdT_J1_charAt_3b067 : Cond.static yJ1_charAt_3b067 ∈ TB := TB_1 (List.mem_of_getElem? (i := 57) rfl) rfl
theorem wdK_J1_charAt_3b067 : Cond.code yJ1_charAt_3b067 cJ1_charAt_3b067 2 (some .char) ∈ TB := TB_1 (List.mem_of_getElem? (i := 58) rfl) rfl
theorem wdM_RJ1_9 : Cond.methodLink RJ1 9 yJ0_checkIndex_df160 ∈ TB := TB_1 (List.mem_of_getElem? (i := 59) rfl) rfl
theorem wdT_J0_checkIndex_df160 : Cond.static yJ0_checkIndex_df160 ∈ TB := TB_1 (List.mem_of_getElem? (i := 60) rfl) rfl
theorem wdK_J0_checkIndex_df160 : Cond.code yJ0_checkIndex_df160 cJ0_checkIndex_df160 2 none ∈ TB := TB_1 (List.mem_of_getElem? (i := 61) rfl) rfl
theorem wdF_RJ0_1053 : Cond.fieldLink RJ0 1053 "jdk/internal/util/Preconditions" "SIOOBE_FORMATTER" "Ljava/util/function/BiFunction;" ∈ TB := TB_1 (List.mem_of_getElem? (i := 62) rfl) rfl
theorem wdM_RJ0_1059 : Cond.methodLink RJ0 1059 yJ3_checkIndex_8e157 ∈ TB := TB_1 (List.mem_of_getElem? (i := 64) rfl) rfl
theorem wdT_J3_checkIndex_8e157 : Cond.static yJ3_checkIndex_8e157 ∈ TB := TB_1 (List.mem_of_getElem? (i := 65) rfl) rfl
theorem wdK_J3_checkIndex_8e157 : Cond.code yJ3_checkIndex_8e157 cJ3_checkIndex_8e157 3 (some .int) ∈ TB := TB_1 (List.mem_of_getElem? (i := 66) rfl) rfl
theorem wdM_RJ0_498 : Cond.methodLink RJ0 498 yJ2_charAt_3b067 ∈ TB := TB_1 (List.mem_of_getElem? (i := 67) rfl) rfl
theorem wdT_J2_charAt_3b067 : Cond.static yJ2_charAt_3b067 ∈ TB := TB_1 (List.mem_of_getElem? (i := 68) rfl) rfl
theorem wdK_J2_charAt_3b067 : Cond.code yJ2_charAt_3b067 cJ2_charAt_3b067 2 (some .char) ∈ TB := TB_1 (List.mem_of_getElem? (i := 69) rfl) rfl
theorem wdM_RJ2_67 : Cond.methodLink RJ2 67 yJ2_checkIndex_2214a ∈ TB := TB_1 (List.mem_of_getElem? (i := 70) rfl) rfl
theorem wdT_J2_checkIndex_2214a : Cond.static yJ2_checkIndex_2214a ∈ TB := TB_1 (List.mem_of_getElem? (i := 71) rfl) rfl
theorem wdK_J2_checkIndex_2214a : Cond.code yJ2_checkIndex_2214a cJ2_checkIndex_2214a 2 none ∈ TB := TB_1 (List.mem_of_getElem? (i := 72) rfl) rfl
theorem wdM_RJ2_48 : Cond.methodLink RJ2 48 yJ2_length_9d52b ∈ TB := TB_1 (List.mem_of_getElem? (i := 73) rfl) rfl
theorem wdT_J2_length_9d52b : Cond.static yJ2_length_9d52b ∈ TB := TB_1 (List.mem_of_getElem? (i := 74) rfl) rfl
theorem wdK_J2_length_9d52b : Cond.code yJ2_length_9d52b cJ2_length_9d52b 1 (some .int) ∈ TB := TB_1 (List.mem_of_getElem? (i := 75) rfl) rfl
theorem wdM_RJ2_414 : Cond.methodLink RJ2 414 yJ0_checkIndex_df160 ∈ TB := TB_1 (List.mem_of_getElem? (i := 76) rfl) rfl
theorem wdM_RJ2_71 : Cond.methodLink RJ2 71 yJ2_getChar_3b067 ∈ TB := TB_1 (List.mem_of_getElem? (i := 77) rfl) rfl
theorem wdT_J2_getChar_3b067 : Cond.static yJ2_getChar_3b067 ∈ TB := TB_1 (List.mem_of_getElem? (i := 78) rfl) rfl
theorem wdK_J2_getChar_3b067 : Cond.code yJ2_getChar_3b067 cJ2_getChar_3b067 2 (some .char) ∈ TB := TB_1 (List.mem_of_getElem? (i := 79) rfl) rfl
theorem wdF_RJ2_44 : Cond.fieldLink RJ2 44 "java/lang/StringUTF16" "$assertionsDisabled" "Z" ∈ TB := TB_1 (List.mem_of_getElem? (i := 80) rfl) rfl
theorem wdF_RJ2_59 : Cond.fieldLink RJ2 59 "java/lang/StringUTF16" "HI_BYTE_SHIFT" "I" ∈ TB := TB_1 (List.mem_of_getElem? (i := 82) rfl) rfl
theorem wdF_RJ2_63 : Cond.fieldLink RJ2 63 "java/lang/StringUTF16" "LO_BYTE_SHIFT" "I" ∈ TB := TB_1 (List.mem_of_getElem? (i := 84) rfl) rfl
theorem wdF_RX10_9 : Cond.fieldLink RX10 9 "CallerHall$Tokens" "tape" "[B" ∈ TB := TB_1 (List.mem_of_getElem? (i := 86) rfl) rfl
theorem wdF_RX10_44 : Cond.fieldLink RX10 44 "CallerHall$Tokens" "bytes" "I" ∈ TB := TB_1 (List.mem_of_getElem? (i := 87) rfl) rfl
theorem wdF_RX11_284 : Cond.fieldLink RX11 284 "CallerHall$Tokens" "bytes" "I" ∈ TB := TB_1 (List.mem_of_getElem? (i := 88) rfl) rfl
theorem wdF_RX10_15 : Cond.fieldLink RX10 15 "CallerHall$Tokens" "keywords" "[J" ∈ TB := TB_1 (List.mem_of_getElem? (i := 89) rfl) rfl
theorem wdF_RX10_19 : Cond.fieldLink RX10 19 "CallerHall$Tokens" "kinds" "[I" ∈ TB := TB_1 (List.mem_of_getElem? (i := 90) rfl) rfl
theorem wdF_RX7_84 : Cond.fieldLink RX7 84 "CallerHall$Tokens" "kinds" "[I" ∈ TB := TB_1 (List.mem_of_getElem? (i := 91) rfl) rfl
theorem wdF_RX10_23 : Cond.fieldLink RX10 23 "CallerHall$Tokens" "values" "[I" ∈ TB := TB_1 (List.mem_of_getElem? (i := 92) rfl) rfl
theorem wdF_RX7_87 : Cond.fieldLink RX7 87 "CallerHall$Tokens" "values" "[I" ∈ TB := TB_1 (List.mem_of_getElem? (i := 93) rfl) rfl
theorem wdF_RX10_26 : Cond.fieldLink RX10 26 "CallerHall$Tokens" "starts" "[I" ∈ TB := TB_1 (List.mem_of_getElem? (i := 94) rfl) rfl
theorem wdF_RX10_29 : Cond.fieldLink RX10 29 "CallerHall$Tokens" "letters" "[J" ∈ TB := TB_1 (List.mem_of_getElem? (i := 95) rfl) rfl
theorem wdF_RX7_67 : Cond.fieldLink RX7 67 "CallerHall$Tokens" "letters" "[J" ∈ TB := TB_1 (List.mem_of_getElem? (i := 96) rfl) rfl
theorem wdF_RX10_48 : Cond.fieldLink RX10 48 "CallerHall$Tokens" "count" "I" ∈ TB := TB_1 (List.mem_of_getElem? (i := 97) rfl) rfl
theorem wdF_RX7_124 : Cond.fieldLink RX7 124 "CallerHall$Tokens" "count" "I" ∈ TB := TB_1 (List.mem_of_getElem? (i := 98) rfl) rfl
theorem wdY_X10_0 : u_lay RX10 TX10 0 ∈ TB := TB_1 (List.mem_of_getElem? (i := 99) rfl) rfl
theorem wdY_X10_1 : u_lay RX10 TX10 1 ∈ TB := TB_1 (List.mem_of_getElem? (i := 101) rfl) rfl
theorem wdY_X10_2 : u_lay RX10 TX10 2 ∈ TB := TB_1 (List.mem_of_getElem? (i := 103) rfl) rfl
theorem wdY_X10_3 : u_lay RX10 TX10 3 ∈ TB := TB_1 (List.mem_of_getElem? (i := 105) rfl) rfl
theorem wdY_X10_4 : u_lay RX10 TX10 4 ∈ TB := TB_1 (List.mem_of_getElem? (i := 107) rfl) rfl
theorem wdY_X10_5 : u_lay RX10 TX10 5 ∈ TB := TB_1 (List.mem_of_getElem? (i := 109) rfl) rfl
theorem wdY_X10_6 : u_lay RX10 TX10 6 ∈ TB := TB_1 (List.mem_of_getElem? (i := 111) rfl) rfl
theorem wdY_X10_7 : u_lay RX10 TX10 7 ∈ TB := TB_1 (List.mem_of_getElem? (i := 113) rfl) rfl
theorem wdA_byte : Cond.arrayClass .byte ∈ TB := TB_1 (List.mem_of_getElem? (i := 116) rfl) rfl
theorem wdA_long : Cond.arrayClass .long ∈ TB := TB_1 (List.mem_of_getElem? (i := 117) rfl) rfl
theorem wdA_int : Cond.arrayClass .int ∈ TB := TB_1 (List.mem_of_getElem? (i := 118) rfl) rfl
theorem wdC_RX11_16 : Cond.classLink RX11 16 RX0 ∈ TB := TB_1 (List.mem_of_getElem? (i := 119) rfl) rfl
theorem wdI_RX0 : Cond.instantiable RX0 20 ∈ TB := TB_1 (List.mem_of_getElem? (i := 120) rfl) rfl
theorem wdN_X0_init : Cond.instanceMethod yX0_init ∈ TB := TB_1 (List.mem_of_getElem? (i := 122) rfl) rfl
theorem wdK_X0_init : Cond.code yX0_init cX0_init 1 none ∈ TB := TB_1 (List.mem_of_getElem? (i := 123) rfl) rfl
theorem wdM_RX0_3 : Cond.methodLink RX0 3 objectInit ∈ TB := TB_1 (List.mem_of_getElem? (i := 124) rfl) rfl
theorem wdC_RX0_9 : Cond.classLink RX0 9 RX6 ∈ TB := TB_1 (List.mem_of_getElem? (i := 125) rfl) rfl
theorem wdI_RX6 : Cond.instantiable RX6 3 ∈ TB := TB_1 (List.mem_of_getElem? (i := 126) rfl) rfl
theorem wdM_RX0_11 : Cond.methodLink RX0 11 yX6_init ∈ TB := TB_1 (List.mem_of_getElem? (i := 127) rfl) rfl
theorem wdN_X6_init : Cond.instanceMethod yX6_init ∈ TB := TB_1 (List.mem_of_getElem? (i := 128) rfl) rfl
theorem wdK_X6_init : Cond.code yX6_init cX6_init 2 none ∈ TB := TB_1 (List.mem_of_getElem? (i := 129) rfl) rfl
theorem wdM_RX6_3 : Cond.methodLink RX6 3 objectInit ∈ TB := TB_1 (List.mem_of_getElem? (i := 130) rfl) rfl
theorem wdF_RX6_15 : Cond.fieldLink RX6 15 "CallerHall$Names" "letters" "[J" ∈ TB := TB_1 (List.mem_of_getElem? (i := 131) rfl) rfl
theorem wdF_RX6_9 : Cond.fieldLink RX6 9 "CallerHall$Names" "most" "I" ∈ TB := TB_1 (List.mem_of_getElem? (i := 132) rfl) rfl
theorem wdF_RX6_19 : Cond.fieldLink RX6 19 "CallerHall$Names" "size" "I" ∈ TB := TB_1 (List.mem_of_getElem? (i := 133) rfl) rfl
theorem wdF_RX7_107 : Cond.fieldLink RX7 107 "CallerHall$Names" "size" "I" ∈ TB := TB_1 (List.mem_of_getElem? (i := 134) rfl) rfl
theorem wdF_RX11_168 : Cond.fieldLink RX11 168 "CallerHall$Names" "size" "I" ∈ TB := TB_1 (List.mem_of_getElem? (i := 135) rfl) rfl
theorem wdY_X6_0 : u_lay RX6 TX6 0 ∈ TB := TB_1 (List.mem_of_getElem? (i := 136) rfl) rfl
theorem wdY_X6_1 : u_lay RX6 TX6 1 ∈ TB := TB_1 (List.mem_of_getElem? (i := 138) rfl) rfl
theorem wdY_X6_2 : u_lay RX6 TX6 2 ∈ TB := TB_1 (List.mem_of_getElem? (i := 140) rfl) rfl
theorem wdF_RX0_14 : Cond.fieldLink RX0 14 "CallerHall$Book" "forms" "LCallerHall$Names;" ∈ TB := TB_1 (List.mem_of_getElem? (i := 143) rfl) rfl
theorem wdF_RX7_103 : Cond.fieldLink RX7 103 "CallerHall$Book" "forms" "LCallerHall$Names;" ∈ TB := TB_1 (List.mem_of_getElem? (i := 144) rfl) rfl
theorem wdF_RX11_275 : Cond.fieldLink RX11 275 "CallerHall$Book" "forms" "LCallerHall$Names;" ∈ TB := TB_1 (List.mem_of_getElem? (i := 145) rfl) rfl
theorem wdF_RX0_20 : Cond.fieldLink RX0 20 "CallerHall$Book" "figures" "LCallerHall$Names;" ∈ TB := TB_1 (List.mem_of_getElem? (i := 146) rfl) rfl
theorem wdF_RX7_110 : Cond.fieldLink RX7 110 "CallerHall$Book" "figures" "LCallerHall$Names;" ∈ TB := TB_1 (List.mem_of_getElem? (i := 147) rfl) rfl
theorem wdF_RX11_278 : Cond.fieldLink RX11 278 "CallerHall$Book" "figures" "LCallerHall$Names;" ∈ TB := TB_1 (List.mem_of_getElem? (i := 148) rfl) rfl
theorem wdF_RX0_23 : Cond.fieldLink RX0 23 "CallerHall$Book" "parts" "LCallerHall$Names;" ∈ TB := TB_1 (List.mem_of_getElem? (i := 149) rfl) rfl
theorem wdF_RX7_113 : Cond.fieldLink RX7 113 "CallerHall$Book" "parts" "LCallerHall$Names;" ∈ TB := TB_1 (List.mem_of_getElem? (i := 150) rfl) rfl
theorem wdF_RX11_164 : Cond.fieldLink RX11 164 "CallerHall$Book" "parts" "LCallerHall$Names;" ∈ TB := TB_1 (List.mem_of_getElem? (i := 151) rfl) rfl
theorem wdF_RX0_26 : Cond.fieldLink RX0 26 "CallerHall$Book" "slots" "[I" ∈ TB := TB_1 (List.mem_of_getElem? (i := 152) rfl) rfl
theorem wdF_RX2_49 : Cond.fieldLink RX2 49 "CallerHall$Book" "slots" "[I" ∈ TB := TB_1 (List.mem_of_getElem? (i := 153) rfl) rfl
theorem wdF_RX1_209 : Cond.fieldLink RX1 209 "CallerHall$Book" "slots" "[I" ∈ TB := TB_1 (List.mem_of_getElem? (i := 154) rfl) rfl
theorem wdF_RX7_150 : Cond.fieldLink RX7 150 "CallerHall$Book" "slots" "[I" ∈ TB := TB_1 (List.mem_of_getElem? (i := 155) rfl) rfl
theorem wdF_RX0_30 : Cond.fieldLink RX0 30 "CallerHall$Book" "slotX" "[I" ∈ TB := TB_1 (List.mem_of_getElem? (i := 156) rfl) rfl
theorem wdF_RX2_38 : Cond.fieldLink RX2 38 "CallerHall$Book" "slotX" "[I" ∈ TB := TB_1 (List.mem_of_getElem? (i := 157) rfl) rfl
theorem wdF_RX1_203 : Cond.fieldLink RX1 203 "CallerHall$Book" "slotX" "[I" ∈ TB := TB_1 (List.mem_of_getElem? (i := 158) rfl) rfl
theorem wdF_RX0_33 : Cond.fieldLink RX0 33 "CallerHall$Book" "slotY" "[I" ∈ TB := TB_1 (List.mem_of_getElem? (i := 159) rfl) rfl
theorem wdF_RX2_46 : Cond.fieldLink RX2 46 "CallerHall$Book" "slotY" "[I" ∈ TB := TB_1 (List.mem_of_getElem? (i := 160) rfl) rfl
theorem wdF_RX1_206 : Cond.fieldLink RX1 206 "CallerHall$Book" "slotY" "[I" ∈ TB := TB_1 (List.mem_of_getElem? (i := 161) rfl) rfl
theorem wdF_RX0_36 : Cond.fieldLink RX0 36 "CallerHall$Book" "slotLook" "[I" ∈ TB := TB_1 (List.mem_of_getElem? (i := 162) rfl) rfl
theorem wdF_RX2_56 : Cond.fieldLink RX2 56 "CallerHall$Book" "slotLook" "[I" ∈ TB := TB_1 (List.mem_of_getElem? (i := 163) rfl) rfl
theorem wdF_RX0_39 : Cond.fieldLink RX0 39 "CallerHall$Book" "figureForm" "[I" ∈ TB := TB_1 (List.mem_of_getElem? (i := 164) rfl) rfl
theorem wdF_RX1_181 : Cond.fieldLink RX1 181 "CallerHall$Book" "figureForm" "[I" ∈ TB := TB_1 (List.mem_of_getElem? (i := 165) rfl) rfl
theorem wdF_RX7_168 : Cond.fieldLink RX7 168 "CallerHall$Book" "figureForm" "[I" ∈ TB := TB_1 (List.mem_of_getElem? (i := 166) rfl) rfl
theorem wdF_RX0_42 : Cond.fieldLink RX0 42 "CallerHall$Book" "figureCounts" "[I" ∈ TB := TB_1 (List.mem_of_getElem? (i := 167) rfl) rfl
theorem wdF_RX1_146 : Cond.fieldLink RX1 146 "CallerHall$Book" "figureCounts" "[I" ∈ TB := TB_1 (List.mem_of_getElem? (i := 168) rfl) rfl
theorem wdF_RX7_175 : Cond.fieldLink RX7 175 "CallerHall$Book" "figureCounts" "[I" ∈ TB := TB_1 (List.mem_of_getElem? (i := 169) rfl) rfl
theorem wdF_RX0_45 : Cond.fieldLink RX0 45 "CallerHall$Book" "figurePrice" "[I" ∈ TB := TB_1 (List.mem_of_getElem? (i := 170) rfl) rfl
theorem wdF_RX7_178 : Cond.fieldLink RX7 178 "CallerHall$Book" "figurePrice" "[I" ∈ TB := TB_1 (List.mem_of_getElem? (i := 171) rfl) rfl
theorem wdF_RX0_48 : Cond.fieldLink RX0 48 "CallerHall$Book" "toX" "[I" ∈ TB := TB_1 (List.mem_of_getElem? (i := 172) rfl) rfl
theorem wdF_RX1_216 : Cond.fieldLink RX1 216 "CallerHall$Book" "toX" "[I" ∈ TB := TB_1 (List.mem_of_getElem? (i := 173) rfl) rfl
theorem wdF_RX7_187 : Cond.fieldLink RX7 187 "CallerHall$Book" "toX" "[I" ∈ TB := TB_1 (List.mem_of_getElem? (i := 174) rfl) rfl
theorem wdF_RX0_51 : Cond.fieldLink RX0 51 "CallerHall$Book" "toY" "[I" ∈ TB := TB_1 (List.mem_of_getElem? (i := 175) rfl) rfl
theorem wdF_RX1_219 : Cond.fieldLink RX1 219 "CallerHall$Book" "toY" "[I" ∈ TB := TB_1 (List.mem_of_getElem? (i := 176) rfl) rfl
theorem wdF_RX7_190 : Cond.fieldLink RX7 190 "CallerHall$Book" "toY" "[I" ∈ TB := TB_1 (List.mem_of_getElem? (i := 177) rfl) rfl
theorem wdF_RX0_54 : Cond.fieldLink RX0 54 "CallerHall$Book" "toTurn" "[I" ∈ TB := TB_1 (List.mem_of_getElem? (i := 178) rfl) rfl
theorem wdF_RX1_229 : Cond.fieldLink RX1 229 "CallerHall$Book" "toTurn" "[I" ∈ TB := TB_1 (List.mem_of_getElem? (i := 179) rfl) rfl
theorem wdF_RX7_193 : Cond.fieldLink RX7 193 "CallerHall$Book" "toTurn" "[I" ∈ TB := TB_1 (List.mem_of_getElem? (i := 180) rfl) rfl
theorem wdF_RX0_57 : Cond.fieldLink RX0 57 "CallerHall$Book" "partStart" "[I" ∈ TB := TB_1 (List.mem_of_getElem? (i := 181) rfl) rfl
theorem wdF_RX8_37 : Cond.fieldLink RX8 37 "CallerHall$Book" "partStart" "[I" ∈ TB := TB_1 (List.mem_of_getElem? (i := 182) rfl) rfl
theorem wdF_RX7_202 : Cond.fieldLink RX7 202 "CallerHall$Book" "partStart" "[I" ∈ TB := TB_1 (List.mem_of_getElem? (i := 183) rfl) rfl
theorem wdF_RX0_60 : Cond.fieldLink RX0 60 "CallerHall$Book" "allowStart" "[I" ∈ TB := TB_1 (List.mem_of_getElem? (i := 184) rfl) rfl
theorem wdF_RX9_117 : Cond.fieldLink RX9 117 "CallerHall$Book" "allowStart" "[I" ∈ TB := TB_1 (List.mem_of_getElem? (i := 185) rfl) rfl
theorem wdF_RX11_214 : Cond.fieldLink RX11 214 "CallerHall$Book" "allowStart" "[I" ∈ TB := TB_1 (List.mem_of_getElem? (i := 186) rfl) rfl
theorem wdF_RX0_63 : Cond.fieldLink RX0 63 "CallerHall$Book" "allowPrice" "[I" ∈ TB := TB_1 (List.mem_of_getElem? (i := 187) rfl) rfl
theorem wdF_RX9_154 : Cond.fieldLink RX9 154 "CallerHall$Book" "allowPrice" "[I" ∈ TB := TB_1 (List.mem_of_getElem? (i := 188) rfl) rfl
theorem wdF_RX9_77 : Cond.fieldLink RX9 77 "CallerHall$Book" "allows" "I" ∈ TB := TB_1 (List.mem_of_getElem? (i := 189) rfl) rfl
theorem wdF_RX7_116 : Cond.fieldLink RX7 116 "CallerHall$Book" "allows" "I" ∈ TB := TB_1 (List.mem_of_getElem? (i := 190) rfl) rfl
theorem wdF_RX0_84 : Cond.fieldLink RX0 84 "CallerHall$Book" "allows" "I" ∈ TB := TB_1 (List.mem_of_getElem? (i := 191) rfl) rfl
theorem wdF_RX11_211 : Cond.fieldLink RX11 211 "CallerHall$Book" "allows" "I" ∈ TB := TB_1 (List.mem_of_getElem? (i := 192) rfl) rfl
theorem wdF_RX0_66 : Cond.fieldLink RX0 66 "CallerHall$Book" "code" "[I" ∈ TB := TB_1 (List.mem_of_getElem? (i := 193) rfl) rfl
theorem wdF_RX0_69 : Cond.fieldLink RX0 69 "CallerHall$Book" "length" "I" ∈ TB := TB_1 (List.mem_of_getElem? (i := 194) rfl) rfl
theorem wdF_RX1_53 : Cond.fieldLink RX1 53 "CallerHall$Book" "length" "I" ∈ TB := TB_1 (List.mem_of_getElem? (i := 195) rfl) rfl
theorem wdF_RX11_128 : Cond.fieldLink RX11 128 "CallerHall$Book" "length" "I" ∈ TB := TB_1 (List.mem_of_getElem? (i := 196) rfl) rfl
theorem wdF_RX7_119 : Cond.fieldLink RX7 119 "CallerHall$Book" "length" "I" ∈ TB := TB_1 (List.mem_of_getElem? (i := 197) rfl) rfl
theorem wdF_RX7_122 : Cond.fieldLink RX7 122 "CallerHall$Book" "tokens" "I" ∈ TB := TB_1 (List.mem_of_getElem? (i := 198) rfl) rfl
theorem wdF_RX11_287 : Cond.fieldLink RX11 287 "CallerHall$Book" "tokens" "I" ∈ TB := TB_1 (List.mem_of_getElem? (i := 199) rfl) rfl
theorem wdY_X0_0 : u_lay RX0 TX0 0 ∈ TB := TB_1 (List.mem_of_getElem? (i := 200) rfl) rfl
theorem wdY_X0_1 : u_lay RX0 TX0 1 ∈ TB := TB_1 (List.mem_of_getElem? (i := 202) rfl) rfl
theorem wdY_X0_2 : u_lay RX0 TX0 2 ∈ TB := TB_1 (List.mem_of_getElem? (i := 204) rfl) rfl
theorem wdY_X0_3 : u_lay RX0 TX0 3 ∈ TB := TB_1 (List.mem_of_getElem? (i := 206) rfl) rfl
theorem wdY_X0_4 : u_lay RX0 TX0 4 ∈ TB := TB_1 (List.mem_of_getElem? (i := 208) rfl) rfl
theorem wdY_X0_5 : u_lay RX0 TX0 5 ∈ TB := TB_1 (List.mem_of_getElem? (i := 210) rfl) rfl
theorem wdY_X0_6 : u_lay RX0 TX0 6 ∈ TB := TB_1 (List.mem_of_getElem? (i := 212) rfl) rfl
theorem wdY_X0_7 : u_lay RX0 TX0 7 ∈ TB := TB_1 (List.mem_of_getElem? (i := 214) rfl) rfl
theorem wdY_X0_8 : u_lay RX0 TX0 8 ∈ TB := TB_1 (List.mem_of_getElem? (i := 216) rfl) rfl
theorem wdY_X0_9 : u_lay RX0 TX0 9 ∈ TB := TB_1 (List.mem_of_getElem? (i := 218) rfl) rfl
theorem wdY_X0_10 : u_lay RX0 TX0 10 ∈ TB := TB_1 (List.mem_of_getElem? (i := 220) rfl) rfl
theorem wdY_X0_11 : u_lay RX0 TX0 11 ∈ TB := TB_1 (List.mem_of_getElem? (i := 222) rfl) rfl
theorem wdY_X0_12 : u_lay RX0 TX0 12 ∈ TB := TB_1 (List.mem_of_getElem? (i := 224) rfl) rfl
theorem wdY_X0_13 : u_lay RX0 TX0 13 ∈ TB := TB_1 (List.mem_of_getElem? (i := 226) rfl) rfl
theorem wdY_X0_14 : u_lay RX0 TX0 14 ∈ TB := TB_1 (List.mem_of_getElem? (i := 228) rfl) rfl
theorem wdY_X0_15 : u_lay RX0 TX0 15 ∈ TB := TB_1 (List.mem_of_getElem? (i := 230) rfl) rfl
theorem wdY_X0_16 : u_lay RX0 TX0 16 ∈ TB := TB_1 (List.mem_of_getElem? (i := 232) rfl) rfl
theorem wdY_X0_17 : u_lay RX0 TX0 17 ∈ TB := TB_1 (List.mem_of_getElem? (i := 234) rfl) rfl
theorem wdY_X0_18 : u_lay RX0 TX0 18 ∈ TB := TB_1 (List.mem_of_getElem? (i := 236) rfl) rfl
theorem wdY_X0_19 : u_lay RX0 TX0 19 ∈ TB := TB_1 (List.mem_of_getElem? (i := 238) rfl) rfl
theorem wdC_RX11_23 : Cond.classLink RX11 23 RX7 ∈ TB := TB_2 (List.mem_of_getElem? (i := 1) rfl) rfl
theorem wdI_RX7 : Cond.instantiable RX7 13 ∈ TB := TB_2 (List.mem_of_getElem? (i := 2) rfl) rfl
theorem wdM_RX11_25 : Cond.methodLink RX11 25 yX7_init ∈ TB := TB_2 (List.mem_of_getElem? (i := 3) rfl) rfl
theorem wdN_X7_init : Cond.instanceMethod yX7_init ∈ TB := TB_2 (List.mem_of_getElem? (i := 4) rfl) rfl
theorem wdK_X7_init : Cond.code yX7_init cX7_init 3 none ∈ TB := TB_2 (List.mem_of_getElem? (i := 5) rfl) rfl
theorem wdM_RX7_3 : Cond.methodLink RX7 3 objectInit ∈ TB := TB_2 (List.mem_of_getElem? (i := 6) rfl) rfl
theorem wdF_RX7_15 : Cond.fieldLink RX7 15 "CallerHall$Parser" "tokens" "LCallerHall$Tokens;" ∈ TB := TB_2 (List.mem_of_getElem? (i := 7) rfl) rfl
theorem wdF_RX7_19 : Cond.fieldLink RX7 19 "CallerHall$Parser" "book" "LCallerHall$Book;" ∈ TB := TB_2 (List.mem_of_getElem? (i := 8) rfl) rfl
theorem wdF_RX7_77 : Cond.fieldLink RX7 77 "CallerHall$Parser" "next" "I" ∈ TB := TB_2 (List.mem_of_getElem? (i := 9) rfl) rfl
theorem wdF_RX7_29 : Cond.fieldLink RX7 29 "CallerHall$Parser" "kind" "I" ∈ TB := TB_2 (List.mem_of_getElem? (i := 10) rfl) rfl
theorem wdF_RX7_90 : Cond.fieldLink RX7 90 "CallerHall$Parser" "value" "I" ∈ TB := TB_2 (List.mem_of_getElem? (i := 11) rfl) rfl
theorem wdF_RX11_118 : Cond.fieldLink RX11 118 "CallerHall$Parser" "wrongBy" "I" ∈ TB := TB_2 (List.mem_of_getElem? (i := 12) rfl) rfl
theorem wdF_RX7_93 : Cond.fieldLink RX7 93 "CallerHall$Parser" "wrongBy" "I" ∈ TB := TB_2 (List.mem_of_getElem? (i := 13) rfl) rfl
theorem wdF_RX7_96 : Cond.fieldLink RX7 96 "CallerHall$Parser" "nested" "I" ∈ TB := TB_2 (List.mem_of_getElem? (i := 14) rfl) rfl
theorem wdF_RX7_99 : Cond.fieldLink RX7 99 "CallerHall$Parser" "counted" "Z" ∈ TB := TB_2 (List.mem_of_getElem? (i := 15) rfl) rfl
theorem wdF_RX7_130 : Cond.fieldLink RX7 130 "CallerHall$Parser" "number" "I" ∈ TB := TB_2 (List.mem_of_getElem? (i := 16) rfl) rfl
theorem wdF_RX7_137 : Cond.fieldLink RX7 137 "CallerHall$Parser" "index" "I" ∈ TB := TB_2 (List.mem_of_getElem? (i := 17) rfl) rfl
theorem wdF_RX7_244 : Cond.fieldLink RX7 244 "CallerHall$Parser" "looks" "I" ∈ TB := TB_2 (List.mem_of_getElem? (i := 18) rfl) rfl
theorem wdF_RX7_205 : Cond.fieldLink RX7 205 "CallerHall$Parser" "price" "I" ∈ TB := TB_2 (List.mem_of_getElem? (i := 19) rfl) rfl
theorem wdF_RX7_9 : Cond.fieldLink RX7 9 "CallerHall$Parser" "saved" "[I" ∈ TB := TB_2 (List.mem_of_getElem? (i := 20) rfl) rfl
theorem wdY_X7_0 : u_lay RX7 TX7 0 ∈ TB := TB_2 (List.mem_of_getElem? (i := 21) rfl) rfl
theorem wdY_X7_1 : u_lay RX7 TX7 1 ∈ TB := TB_2 (List.mem_of_getElem? (i := 23) rfl) rfl
theorem wdY_X7_2 : u_lay RX7 TX7 2 ∈ TB := TB_2 (List.mem_of_getElem? (i := 25) rfl) rfl
theorem wdY_X7_3 : u_lay RX7 TX7 3 ∈ TB := TB_2 (List.mem_of_getElem? (i := 27) rfl) rfl
theorem wdY_X7_4 : u_lay RX7 TX7 4 ∈ TB := TB_2 (List.mem_of_getElem? (i := 29) rfl) rfl
theorem wdY_X7_5 : u_lay RX7 TX7 5 ∈ TB := TB_2 (List.mem_of_getElem? (i := 31) rfl) rfl
theorem wdY_X7_6 : u_lay RX7 TX7 6 ∈ TB := TB_2 (List.mem_of_getElem? (i := 33) rfl) rfl
theorem wdY_X7_7 : u_lay RX7 TX7 7 ∈ TB := TB_2 (List.mem_of_getElem? (i := 35) rfl) rfl
theorem wdY_X7_8 : u_lay RX7 TX7 8 ∈ TB := TB_2 (List.mem_of_getElem? (i := 37) rfl) rfl
theorem wdY_X7_9 : u_lay RX7 TX7 9 ∈ TB := TB_2 (List.mem_of_getElem? (i := 39) rfl) rfl
theorem wdY_X7_10 : u_lay RX7 TX7 10 ∈ TB := TB_2 (List.mem_of_getElem? (i := 41) rfl) rfl
theorem wdY_X7_11 : u_lay RX7 TX7 11 ∈ TB := TB_2 (List.mem_of_getElem? (i := 43) rfl) rfl
theorem wdY_X7_12 : u_lay RX7 TX7 12 ∈ TB := TB_2 (List.mem_of_getElem? (i := 45) rfl) rfl
theorem wdC_RX11_32 : Cond.classLink RX11 32 RX1 ∈ TB := TB_2 (List.mem_of_getElem? (i := 48) rfl) rfl
theorem wdI_RX1 : Cond.instantiable RX1 17 ∈ TB := TB_2 (List.mem_of_getElem? (i := 49) rfl) rfl
theorem wdM_RX11_34 : Cond.methodLink RX11 34 yX1_init ∈ TB := TB_2 (List.mem_of_getElem? (i := 50) rfl) rfl
theorem wdN_X1_init : Cond.instanceMethod yX1_init ∈ TB := TB_2 (List.mem_of_getElem? (i := 51) rfl) rfl
theorem wdK_X1_init : Cond.code yX1_init cX1_init 2 none ∈ TB := TB_2 (List.mem_of_getElem? (i := 52) rfl) rfl
theorem wdM_RX1_3 : Cond.methodLink RX1 3 objectInit ∈ TB := TB_2 (List.mem_of_getElem? (i := 53) rfl) rfl
theorem wdC_RX1_44 : Cond.classLink RX1 44 RX2 ∈ TB := TB_2 (List.mem_of_getElem? (i := 54) rfl) rfl
theorem wdI_RX2 : Cond.instantiable RX2 10 ∈ TB := TB_2 (List.mem_of_getElem? (i := 55) rfl) rfl
theorem wdM_RX1_46 : Cond.methodLink RX1 46 yX2_init ∈ TB := TB_2 (List.mem_of_getElem? (i := 56) rfl) rfl
theorem wdN_X2_init : Cond.instanceMethod yX2_init ∈ TB := TB_2 (List.mem_of_getElem? (i := 57) rfl) rfl
theorem wdK_X2_init : Cond.code yX2_init cX2_init 2 none ∈ TB := TB_2 (List.mem_of_getElem? (i := 58) rfl) rfl
theorem wdM_RX2_3 : Cond.methodLink RX2 3 objectInit ∈ TB := TB_2 (List.mem_of_getElem? (i := 59) rfl) rfl
theorem wdF_RX2_29 : Cond.fieldLink RX2 29 "CallerHall$Copies" "book" "LCallerHall$Book;" ∈ TB := TB_2 (List.mem_of_getElem? (i := 60) rfl) rfl
theorem wdF_RX2_9 : Cond.fieldLink RX2 9 "CallerHall$Copies" "slotOf" "[B" ∈ TB := TB_2 (List.mem_of_getElem? (i := 61) rfl) rfl
theorem wdF_RX2_15 : Cond.fieldLink RX2 15 "CallerHall$Copies" "known" "[B" ∈ TB := TB_2 (List.mem_of_getElem? (i := 62) rfl) rfl
theorem wdF_RX2_62 : Cond.fieldLink RX2 62 "CallerHall$Copies" "knownFloor" "LCallerHall$Floor;" ∈ TB := TB_2 (List.mem_of_getElem? (i := 63) rfl) rfl
theorem wdF_RX2_70 : Cond.fieldLink RX2 70 "CallerHall$Copies" "knownVersion" "I" ∈ TB := TB_2 (List.mem_of_getElem? (i := 64) rfl) rfl
theorem wdF_RX2_73 : Cond.fieldLink RX2 73 "CallerHall$Copies" "knownScope" "J" ∈ TB := TB_2 (List.mem_of_getElem? (i := 65) rfl) rfl
theorem wdF_RX2_18 : Cond.fieldLink RX2 18 "CallerHall$Copies" "firsts" "[I" ∈ TB := TB_2 (List.mem_of_getElem? (i := 66) rfl) rfl
theorem wdF_RX2_22 : Cond.fieldLink RX2 22 "CallerHall$Copies" "chosen" "[I" ∈ TB := TB_2 (List.mem_of_getElem? (i := 67) rfl) rfl
theorem wdF_RX2_25 : Cond.fieldLink RX2 25 "CallerHall$Copies" "members" "[J" ∈ TB := TB_2 (List.mem_of_getElem? (i := 68) rfl) rfl
theorem wdF_RX2_99 : Cond.fieldLink RX2 99 "CallerHall$Copies" "parted" "I" ∈ TB := TB_2 (List.mem_of_getElem? (i := 69) rfl) rfl
theorem wdF_RX1_187 : Cond.fieldLink RX1 187 "CallerHall$Copies" "parted" "I" ∈ TB := TB_2 (List.mem_of_getElem? (i := 70) rfl) rfl
theorem wdY_X2_0 : u_lay RX2 TX2 0 ∈ TB := TB_2 (List.mem_of_getElem? (i := 71) rfl) rfl
theorem wdY_X2_1 : u_lay RX2 TX2 1 ∈ TB := TB_2 (List.mem_of_getElem? (i := 73) rfl) rfl
theorem wdY_X2_2 : u_lay RX2 TX2 2 ∈ TB := TB_2 (List.mem_of_getElem? (i := 75) rfl) rfl
theorem wdY_X2_3 : u_lay RX2 TX2 3 ∈ TB := TB_2 (List.mem_of_getElem? (i := 77) rfl) rfl
theorem wdY_X2_4 : u_lay RX2 TX2 4 ∈ TB := TB_2 (List.mem_of_getElem? (i := 79) rfl) rfl
theorem wdY_X2_5 : u_lay RX2 TX2 5 ∈ TB := TB_2 (List.mem_of_getElem? (i := 81) rfl) rfl
theorem wdY_X2_6 : u_lay RX2 TX2 6 ∈ TB := TB_2 (List.mem_of_getElem? (i := 83) rfl) rfl
theorem wdY_X2_7 : u_lay RX2 TX2 7 ∈ TB := TB_2 (List.mem_of_getElem? (i := 85) rfl) rfl
theorem wdY_X2_8 : u_lay RX2 TX2 8 ∈ TB := TB_2 (List.mem_of_getElem? (i := 87) rfl) rfl
theorem wdY_X2_9 : u_lay RX2 TX2 9 ∈ TB := TB_2 (List.mem_of_getElem? (i := 89) rfl) rfl
theorem wdF_RX1_40 : Cond.fieldLink RX1 40 "CallerHall$Caller" "book" "LCallerHall$Book;" ∈ TB := TB_2 (List.mem_of_getElem? (i := 92) rfl) rfl
theorem wdF_RX1_49 : Cond.fieldLink RX1 49 "CallerHall$Caller" "copies" "LCallerHall$Copies;" ∈ TB := TB_2 (List.mem_of_getElem? (i := 93) rfl) rfl
theorem wdF_RX1_11 : Cond.fieldLink RX1 11 "CallerHall$Caller" "values" "[J" ∈ TB := TB_2 (List.mem_of_getElem? (i := 94) rfl) rfl
theorem wdF_RX1_15 : Cond.fieldLink RX1 15 "CallerHall$Caller" "who" "[J" ∈ TB := TB_2 (List.mem_of_getElem? (i := 95) rfl) rfl
theorem wdF_RX1_18 : Cond.fieldLink RX1 18 "CallerHall$Caller" "figures" "[I" ∈ TB := TB_2 (List.mem_of_getElem? (i := 96) rfl) rfl
theorem wdF_RX1_22 : Cond.fieldLink RX1 22 "CallerHall$Caller" "x" "[I" ∈ TB := TB_2 (List.mem_of_getElem? (i := 97) rfl) rfl
theorem wdF_RX1_25 : Cond.fieldLink RX1 25 "CallerHall$Caller" "y" "[I" ∈ TB := TB_2 (List.mem_of_getElem? (i := 98) rfl) rfl
theorem wdF_RX1_28 : Cond.fieldLink RX1 28 "CallerHall$Caller" "turns" "[I" ∈ TB := TB_2 (List.mem_of_getElem? (i := 99) rfl) rfl
theorem wdF_RX1_31 : Cond.fieldLink RX1 31 "CallerHall$Caller" "codes" "[I" ∈ TB := TB_2 (List.mem_of_getElem? (i := 100) rfl) rfl
theorem wdF_RX9_130 : Cond.fieldLink RX9 130 "CallerHall$Caller" "codes" "[I" ∈ TB := TB_2 (List.mem_of_getElem? (i := 101) rfl) rfl
theorem wdF_RX1_34 : Cond.fieldLink RX1 34 "CallerHall$Caller" "ranks" "[I" ∈ TB := TB_2 (List.mem_of_getElem? (i := 102) rfl) rfl
theorem wdF_RX1_37 : Cond.fieldLink RX1 37 "CallerHall$Caller" "landed" "[I" ∈ TB := TB_2 (List.mem_of_getElem? (i := 103) rfl) rfl
theorem wdF_RX1_235 : Cond.fieldLink RX1 235 "CallerHall$Caller" "stamp" "I" ∈ TB := TB_2 (List.mem_of_getElem? (i := 104) rfl) rfl
theorem wdF_RX8_88 : Cond.fieldLink RX8 88 "CallerHall$Caller" "behind" "I" ∈ TB := TB_2 (List.mem_of_getElem? (i := 105) rfl) rfl
theorem wdF_RX1_129 : Cond.fieldLink RX1 129 "CallerHall$Caller" "behind" "I" ∈ TB := TB_2 (List.mem_of_getElem? (i := 106) rfl) rfl
theorem wdF_RX1_136 : Cond.fieldLink RX1 136 "CallerHall$Caller" "beats" "I" ∈ TB := TB_2 (List.mem_of_getElem? (i := 107) rfl) rfl
theorem wdF_RX11_296 : Cond.fieldLink RX11 296 "CallerHall$Caller" "beats" "I" ∈ TB := TB_2 (List.mem_of_getElem? (i := 108) rfl) rfl
theorem wdF_RX1_143 : Cond.fieldLink RX1 143 "CallerHall$Caller" "why" "I" ∈ TB := TB_2 (List.mem_of_getElem? (i := 109) rfl) rfl
theorem wdF_RX11_297 : Cond.fieldLink RX11 297 "CallerHall$Caller" "why" "I" ∈ TB := TB_2 (List.mem_of_getElem? (i := 110) rfl) rfl
theorem wdF_RX1_167 : Cond.fieldLink RX1 167 "CallerHall$Caller" "whom" "I" ∈ TB := TB_2 (List.mem_of_getElem? (i := 111) rfl) rfl
theorem wdF_RX11_300 : Cond.fieldLink RX11 300 "CallerHall$Caller" "whom" "I" ∈ TB := TB_2 (List.mem_of_getElem? (i := 112) rfl) rfl
theorem wdF_RX1_170 : Cond.fieldLink RX1 170 "CallerHall$Caller" "other" "I" ∈ TB := TB_2 (List.mem_of_getElem? (i := 113) rfl) rfl
theorem wdF_RX11_303 : Cond.fieldLink RX11 303 "CallerHall$Caller" "other" "I" ∈ TB := TB_2 (List.mem_of_getElem? (i := 114) rfl) rfl
theorem wdY_X1_0 : u_lay RX1 TX1 0 ∈ TB := TB_2 (List.mem_of_getElem? (i := 115) rfl) rfl
theorem wdY_X1_1 : u_lay RX1 TX1 1 ∈ TB := TB_2 (List.mem_of_getElem? (i := 117) rfl) rfl
theorem wdY_X1_2 : u_lay RX1 TX1 2 ∈ TB := TB_2 (List.mem_of_getElem? (i := 119) rfl) rfl
theorem wdY_X1_3 : u_lay RX1 TX1 3 ∈ TB := TB_2 (List.mem_of_getElem? (i := 121) rfl) rfl
theorem wdY_X1_4 : u_lay RX1 TX1 4 ∈ TB := TB_2 (List.mem_of_getElem? (i := 123) rfl) rfl
theorem wdY_X1_5 : u_lay RX1 TX1 5 ∈ TB := TB_2 (List.mem_of_getElem? (i := 125) rfl) rfl
theorem wdY_X1_6 : u_lay RX1 TX1 6 ∈ TB := TB_2 (List.mem_of_getElem? (i := 127) rfl) rfl
theorem wdY_X1_7 : u_lay RX1 TX1 7 ∈ TB := TB_2 (List.mem_of_getElem? (i := 129) rfl) rfl
theorem wdY_X1_8 : u_lay RX1 TX1 8 ∈ TB := TB_2 (List.mem_of_getElem? (i := 131) rfl) rfl
theorem wdY_X1_9 : u_lay RX1 TX1 9 ∈ TB := TB_2 (List.mem_of_getElem? (i := 133) rfl) rfl
theorem wdY_X1_10 : u_lay RX1 TX1 10 ∈ TB := TB_2 (List.mem_of_getElem? (i := 135) rfl) rfl
theorem wdY_X1_11 : u_lay RX1 TX1 11 ∈ TB := TB_2 (List.mem_of_getElem? (i := 137) rfl) rfl
theorem wdY_X1_12 : u_lay RX1 TX1 12 ∈ TB := TB_2 (List.mem_of_getElem? (i := 139) rfl) rfl
theorem wdY_X1_13 : u_lay RX1 TX1 13 ∈ TB := TB_2 (List.mem_of_getElem? (i := 141) rfl) rfl
theorem wdY_X1_14 : u_lay RX1 TX1 14 ∈ TB := TB_2 (List.mem_of_getElem? (i := 143) rfl) rfl
theorem wdY_X1_15 : u_lay RX1 TX1 15 ∈ TB := TB_2 (List.mem_of_getElem? (i := 145) rfl) rfl
theorem wdY_X1_16 : u_lay RX1 TX1 16 ∈ TB := TB_2 (List.mem_of_getElem? (i := 147) rfl) rfl
theorem wdC_RX11_41 : Cond.classLink RX11 41 RX3 ∈ TB := TB_2 (List.mem_of_getElem? (i := 150) rfl) rfl
theorem wdI_RX3 : Cond.instantiable RX3 10 ∈ TB := TB_2 (List.mem_of_getElem? (i := 151) rfl) rfl
theorem wdN_X3_init : Cond.instanceMethod yX3_init ∈ TB := TB_2 (List.mem_of_getElem? (i := 153) rfl) rfl
theorem wdK_X3_init : Cond.code yX3_init cX3_init 1 none ∈ TB := TB_2 (List.mem_of_getElem? (i := 154) rfl) rfl
theorem wdM_RX3_3 : Cond.methodLink RX3 3 objectInit ∈ TB := TB_2 (List.mem_of_getElem? (i := 155) rfl) rfl
theorem wdF_RX3_9 : Cond.fieldLink RX3 9 "CallerHall$Floor" "x" "[I" ∈ TB := TB_2 (List.mem_of_getElem? (i := 156) rfl) rfl
theorem wdF_RX2_33 : Cond.fieldLink RX2 33 "CallerHall$Floor" "x" "[I" ∈ TB := TB_2 (List.mem_of_getElem? (i := 157) rfl) rfl
theorem wdF_RX1_162 : Cond.fieldLink RX1 162 "CallerHall$Floor" "x" "[I" ∈ TB := TB_2 (List.mem_of_getElem? (i := 158) rfl) rfl
theorem wdF_RX11_259 : Cond.fieldLink RX11 259 "CallerHall$Floor" "x" "[I" ∈ TB := TB_2 (List.mem_of_getElem? (i := 159) rfl) rfl
theorem wdF_RX3_15 : Cond.fieldLink RX3 15 "CallerHall$Floor" "y" "[I" ∈ TB := TB_2 (List.mem_of_getElem? (i := 160) rfl) rfl
theorem wdF_RX2_43 : Cond.fieldLink RX2 43 "CallerHall$Floor" "y" "[I" ∈ TB := TB_2 (List.mem_of_getElem? (i := 161) rfl) rfl
theorem wdF_RX1_163 : Cond.fieldLink RX1 163 "CallerHall$Floor" "y" "[I" ∈ TB := TB_2 (List.mem_of_getElem? (i := 162) rfl) rfl
theorem wdF_RX11_262 : Cond.fieldLink RX11 262 "CallerHall$Floor" "y" "[I" ∈ TB := TB_2 (List.mem_of_getElem? (i := 163) rfl) rfl
theorem wdF_RX3_18 : Cond.fieldLink RX3 18 "CallerHall$Floor" "facing" "[I" ∈ TB := TB_2 (List.mem_of_getElem? (i := 164) rfl) rfl
theorem wdF_RX2_59 : Cond.fieldLink RX2 59 "CallerHall$Floor" "facing" "[I" ∈ TB := TB_2 (List.mem_of_getElem? (i := 165) rfl) rfl
theorem wdF_RX1_164 : Cond.fieldLink RX1 164 "CallerHall$Floor" "facing" "[I" ∈ TB := TB_2 (List.mem_of_getElem? (i := 166) rfl) rfl
theorem wdF_RX11_265 : Cond.fieldLink RX11 265 "CallerHall$Floor" "facing" "[I" ∈ TB := TB_2 (List.mem_of_getElem? (i := 167) rfl) rfl
theorem wdF_RX3_21 : Cond.fieldLink RX3 21 "CallerHall$Floor" "turned" "[I" ∈ TB := TB_2 (List.mem_of_getElem? (i := 168) rfl) rfl
theorem wdF_RX5_25 : Cond.fieldLink RX5 25 "CallerHall$Floor" "turned" "[I" ∈ TB := TB_2 (List.mem_of_getElem? (i := 169) rfl) rfl
theorem wdF_RX1_155 : Cond.fieldLink RX1 155 "CallerHall$Floor" "turned" "[I" ∈ TB := TB_2 (List.mem_of_getElem? (i := 170) rfl) rfl
theorem wdF_RX11_268 : Cond.fieldLink RX11 268 "CallerHall$Floor" "turned" "[I" ∈ TB := TB_2 (List.mem_of_getElem? (i := 171) rfl) rfl
theorem wdF_RX3_24 : Cond.fieldLink RX3 24 "CallerHall$Floor" "home" "[I" ∈ TB := TB_2 (List.mem_of_getElem? (i := 172) rfl) rfl
theorem wdF_RX1_99 : Cond.fieldLink RX1 99 "CallerHall$Floor" "home" "[I" ∈ TB := TB_2 (List.mem_of_getElem? (i := 173) rfl) rfl
theorem wdF_RX11_252 : Cond.fieldLink RX11 252 "CallerHall$Floor" "home" "[I" ∈ TB := TB_2 (List.mem_of_getElem? (i := 174) rfl) rfl
theorem wdF_RX3_27 : Cond.fieldLink RX3 27 "CallerHall$Floor" "order" "[I" ∈ TB := TB_2 (List.mem_of_getElem? (i := 175) rfl) rfl
theorem wdF_RX2_86 : Cond.fieldLink RX2 86 "CallerHall$Floor" "order" "[I" ∈ TB := TB_2 (List.mem_of_getElem? (i := 176) rfl) rfl
theorem wdF_RX1_193 : Cond.fieldLink RX1 193 "CallerHall$Floor" "order" "[I" ∈ TB := TB_2 (List.mem_of_getElem? (i := 177) rfl) rfl
theorem wdF_RX3_30 : Cond.fieldLink RX3 30 "CallerHall$Floor" "facers" "[J" ∈ TB := TB_2 (List.mem_of_getElem? (i := 178) rfl) rfl
theorem wdF_RX1_122 : Cond.fieldLink RX1 122 "CallerHall$Floor" "facers" "[J" ∈ TB := TB_2 (List.mem_of_getElem? (i := 179) rfl) rfl
theorem wdF_RX3_34 : Cond.fieldLink RX3 34 "CallerHall$Floor" "seats" "[B" ∈ TB := TB_2 (List.mem_of_getElem? (i := 180) rfl) rfl
theorem wdF_RX5_19 : Cond.fieldLink RX5 19 "CallerHall$Floor" "size" "I" ∈ TB := TB_2 (List.mem_of_getElem? (i := 181) rfl) rfl
theorem wdF_RX9_91 : Cond.fieldLink RX9 91 "CallerHall$Floor" "size" "I" ∈ TB := TB_2 (List.mem_of_getElem? (i := 182) rfl) rfl
theorem wdF_RX2_83 : Cond.fieldLink RX2 83 "CallerHall$Floor" "size" "I" ∈ TB := TB_2 (List.mem_of_getElem? (i := 183) rfl) rfl
theorem wdF_RX3_61 : Cond.fieldLink RX3 61 "CallerHall$Floor" "size" "I" ∈ TB := TB_2 (List.mem_of_getElem? (i := 184) rfl) rfl
theorem wdF_RX1_149 : Cond.fieldLink RX1 149 "CallerHall$Floor" "size" "I" ∈ TB := TB_2 (List.mem_of_getElem? (i := 185) rfl) rfl
theorem wdF_RX11_221 : Cond.fieldLink RX11 221 "CallerHall$Floor" "size" "I" ∈ TB := TB_2 (List.mem_of_getElem? (i := 186) rfl) rfl
theorem wdF_RX2_66 : Cond.fieldLink RX2 66 "CallerHall$Floor" "version" "I" ∈ TB := TB_2 (List.mem_of_getElem? (i := 187) rfl) rfl
theorem wdF_RX3_78 : Cond.fieldLink RX3 78 "CallerHall$Floor" "version" "I" ∈ TB := TB_2 (List.mem_of_getElem? (i := 188) rfl) rfl
theorem wdY_X3_0 : u_lay RX3 TX3 0 ∈ TB := TB_2 (List.mem_of_getElem? (i := 189) rfl) rfl
theorem wdY_X3_1 : u_lay RX3 TX3 1 ∈ TB := TB_2 (List.mem_of_getElem? (i := 191) rfl) rfl
theorem wdY_X3_2 : u_lay RX3 TX3 2 ∈ TB := TB_2 (List.mem_of_getElem? (i := 193) rfl) rfl
theorem wdY_X3_3 : u_lay RX3 TX3 3 ∈ TB := TB_2 (List.mem_of_getElem? (i := 195) rfl) rfl
theorem wdY_X3_4 : u_lay RX3 TX3 4 ∈ TB := TB_2 (List.mem_of_getElem? (i := 197) rfl) rfl
theorem wdY_X3_5 : u_lay RX3 TX3 5 ∈ TB := TB_2 (List.mem_of_getElem? (i := 199) rfl) rfl
theorem wdY_X3_6 : u_lay RX3 TX3 6 ∈ TB := TB_2 (List.mem_of_getElem? (i := 201) rfl) rfl
theorem wdY_X3_7 : u_lay RX3 TX3 7 ∈ TB := TB_2 (List.mem_of_getElem? (i := 203) rfl) rfl
theorem wdY_X3_8 : u_lay RX3 TX3 8 ∈ TB := TB_2 (List.mem_of_getElem? (i := 205) rfl) rfl
theorem wdY_X3_9 : u_lay RX3 TX3 9 ∈ TB := TB_2 (List.mem_of_getElem? (i := 207) rfl) rfl
theorem wdC_RX11_51 : Cond.classLink RX11 51 RX8 ∈ TB := TB_2 (List.mem_of_getElem? (i := 210) rfl) rfl
theorem wdI_RX8 : Cond.instantiable RX8 11 ∈ TB := TB_2 (List.mem_of_getElem? (i := 211) rfl) rfl
theorem wdM_RX11_53 : Cond.methodLink RX11 53 yX8_init ∈ TB := TB_2 (List.mem_of_getElem? (i := 212) rfl) rfl
theorem wdN_X8_init : Cond.instanceMethod yX8_init ∈ TB := TB_2 (List.mem_of_getElem? (i := 213) rfl) rfl
theorem wdK_X8_init : Cond.code yX8_init cX8_init 3 none ∈ TB := TB_2 (List.mem_of_getElem? (i := 214) rfl) rfl
theorem wdM_RX8_3 : Cond.methodLink RX8 3 objectInit ∈ TB := TB_2 (List.mem_of_getElem? (i := 215) rfl) rfl
theorem wdF_RX8_15 : Cond.fieldLink RX8 15 "CallerHall$Run" "book" "LCallerHall$Book;" ∈ TB := TB_2 (List.mem_of_getElem? (i := 216) rfl) rfl
theorem wdF_RX8_19 : Cond.fieldLink RX8 19 "CallerHall$Run" "caller" "LCallerHall$Caller;" ∈ TB := TB_2 (List.mem_of_getElem? (i := 217) rfl) rfl
theorem wdF_RX5_32 : Cond.fieldLink RX5 32 "CallerHall$Run" "live" "Z" ∈ TB := TB_2 (List.mem_of_getElem? (i := 218) rfl) rfl
theorem wdF_RX8_34 : Cond.fieldLink RX8 34 "CallerHall$Run" "live" "Z" ∈ TB := TB_2 (List.mem_of_getElem? (i := 219) rfl) rfl
theorem wdF_RX11_151 : Cond.fieldLink RX11 151 "CallerHall$Run" "live" "Z" ∈ TB := TB_2 (List.mem_of_getElem? (i := 220) rfl) rfl
theorem wdF_RX5_39 : Cond.fieldLink RX5 39 "CallerHall$Run" "place" "I" ∈ TB := TB_2 (List.mem_of_getElem? (i := 221) rfl) rfl
theorem wdF_RX8_43 : Cond.fieldLink RX8 43 "CallerHall$Run" "place" "I" ∈ TB := TB_2 (List.mem_of_getElem? (i := 222) rfl) rfl
theorem wdF_RX5_43 : Cond.fieldLink RX5 43 "CallerHall$Run" "scope" "J" ∈ TB := TB_2 (List.mem_of_getElem? (i := 223) rfl) rfl
theorem wdF_RX8_46 : Cond.fieldLink RX8 46 "CallerHall$Run" "scope" "J" ∈ TB := TB_2 (List.mem_of_getElem? (i := 224) rfl) rfl
theorem wdF_RX8_11 : Cond.fieldLink RX8 11 "CallerHall$Run" "open" "[J" ∈ TB := TB_2 (List.mem_of_getElem? (i := 225) rfl) rfl
theorem wdF_RX5_52 : Cond.fieldLink RX5 52 "CallerHall$Run" "open" "[J" ∈ TB := TB_2 (List.mem_of_getElem? (i := 226) rfl) rfl
theorem wdF_RX5_48 : Cond.fieldLink RX5 48 "CallerHall$Run" "depth" "I" ∈ TB := TB_2 (List.mem_of_getElem? (i := 227) rfl) rfl
theorem wdF_RX8_50 : Cond.fieldLink RX8 50 "CallerHall$Run" "depth" "I" ∈ TB := TB_2 (List.mem_of_getElem? (i := 228) rfl) rfl
theorem wdF_RX8_53 : Cond.fieldLink RX8 53 "CallerHall$Run" "acts" "I" ∈ TB := TB_2 (List.mem_of_getElem? (i := 229) rfl) rfl
theorem wdF_RX8_23 : Cond.fieldLink RX8 23 "CallerHall$Run" "limited" "Z" ∈ TB := TB_2 (List.mem_of_getElem? (i := 230) rfl) rfl
theorem wdF_RX8_27 : Cond.fieldLink RX8 27 "CallerHall$Run" "actsInAll" "I" ∈ TB := TB_2 (List.mem_of_getElem? (i := 231) rfl) rfl
theorem wdF_RX8_31 : Cond.fieldLink RX8 31 "CallerHall$Run" "stepsInAll" "I" ∈ TB := TB_2 (List.mem_of_getElem? (i := 232) rfl) rfl
theorem wdY_X8_0 : u_lay RX8 TX8 0 ∈ TB := TB_2 (List.mem_of_getElem? (i := 233) rfl) rfl
theorem wdY_X8_1 : u_lay RX8 TX8 1 ∈ TB := TB_2 (List.mem_of_getElem? (i := 235) rfl) rfl
theorem wdY_X8_2 : u_lay RX8 TX8 2 ∈ TB := TB_2 (List.mem_of_getElem? (i := 237) rfl) rfl
theorem wdY_X8_3 : u_lay RX8 TX8 3 ∈ TB := TB_2 (List.mem_of_getElem? (i := 239) rfl) rfl
theorem wdY_X8_4 : u_lay RX8 TX8 4 ∈ TB := TB_3 (List.mem_of_getElem? (i := 1) rfl) rfl
theorem wdY_X8_5 : u_lay RX8 TX8 5 ∈ TB := TB_3 (List.mem_of_getElem? (i := 3) rfl) rfl
theorem wdY_X8_6 : u_lay RX8 TX8 6 ∈ TB := TB_3 (List.mem_of_getElem? (i := 5) rfl) rfl
theorem wdY_X8_7 : u_lay RX8 TX8 7 ∈ TB := TB_3 (List.mem_of_getElem? (i := 7) rfl) rfl
theorem wdY_X8_8 : u_lay RX8 TX8 8 ∈ TB := TB_3 (List.mem_of_getElem? (i := 9) rfl) rfl
theorem wdY_X8_9 : u_lay RX8 TX8 9 ∈ TB := TB_3 (List.mem_of_getElem? (i := 11) rfl) rfl
theorem wdY_X8_10 : u_lay RX8 TX8 10 ∈ TB := TB_3 (List.mem_of_getElem? (i := 13) rfl) rfl
theorem wdC_RX11_63 : Cond.classLink RX11 63 RX4 ∈ TB := TB_3 (List.mem_of_getElem? (i := 16) rfl) rfl
theorem wdI_RX4 : Cond.instantiable RX4 3 ∈ TB := TB_3 (List.mem_of_getElem? (i := 17) rfl) rfl
theorem wdN_X4_init : Cond.instanceMethod yX4_init ∈ TB := TB_3 (List.mem_of_getElem? (i := 19) rfl) rfl
theorem wdK_X4_init : Cond.code yX4_init cX4_init 1 none ∈ TB := TB_3 (List.mem_of_getElem? (i := 20) rfl) rfl
theorem wdM_RX4_1 : Cond.methodLink RX4 1 objectInit ∈ TB := TB_3 (List.mem_of_getElem? (i := 21) rfl) rfl
theorem wdC_RX4_9 : Cond.classLink RX4 9 RX5 ∈ TB := TB_3 (List.mem_of_getElem? (i := 22) rfl) rfl
theorem wdF_RX4_11 : Cond.fieldLink RX4 11 "CallerHall$History" "moments" "[LCallerHall$Moment;" ∈ TB := TB_3 (List.mem_of_getElem? (i := 24) rfl) rfl
theorem wdF_RX4_19 : Cond.fieldLink RX4 19 "CallerHall$History" "spare" "I" ∈ TB := TB_3 (List.mem_of_getElem? (i := 25) rfl) rfl
theorem wdF_RX4_15 : Cond.fieldLink RX4 15 "CallerHall$History" "size" "I" ∈ TB := TB_3 (List.mem_of_getElem? (i := 26) rfl) rfl
theorem wdF_RX11_195 : Cond.fieldLink RX11 195 "CallerHall$History" "size" "I" ∈ TB := TB_3 (List.mem_of_getElem? (i := 27) rfl) rfl
theorem wdY_X4_0 : u_lay RX4 TX4 0 ∈ TB := TB_3 (List.mem_of_getElem? (i := 28) rfl) rfl
theorem wdY_X4_1 : u_lay RX4 TX4 1 ∈ TB := TB_3 (List.mem_of_getElem? (i := 30) rfl) rfl
theorem wdY_X4_2 : u_lay RX4 TX4 2 ∈ TB := TB_3 (List.mem_of_getElem? (i := 32) rfl) rfl
theorem wdC_RX11_70 : Cond.classLink RX11 70 RX9 ∈ TB := TB_3 (List.mem_of_getElem? (i := 35) rfl) rfl
theorem wdI_RX9 : Cond.instantiable RX9 18 ∈ TB := TB_3 (List.mem_of_getElem? (i := 36) rfl) rfl
theorem wdM_RX11_72 : Cond.methodLink RX11 72 yX9_init ∈ TB := TB_3 (List.mem_of_getElem? (i := 37) rfl) rfl
theorem wdN_X9_init : Cond.instanceMethod yX9_init ∈ TB := TB_3 (List.mem_of_getElem? (i := 38) rfl) rfl
theorem wdK_X9_init : Cond.code yX9_init cX9_init 4 none ∈ TB := TB_3 (List.mem_of_getElem? (i := 39) rfl) rfl
theorem wdM_RX9_5 : Cond.methodLink RX9 5 objectInit ∈ TB := TB_3 (List.mem_of_getElem? (i := 40) rfl) rfl
theorem wdV_RX9_19 : Cond.constant RX9 19 (64000) ∈ TB := TB_3 (List.mem_of_getElem? (i := 41) rfl) rfl
theorem wdF_RX9_46 : Cond.fieldLink RX9 46 "CallerHall$Search" "book" "LCallerHall$Book;" ∈ TB := TB_3 (List.mem_of_getElem? (i := 42) rfl) rfl
theorem wdF_RX9_50 : Cond.fieldLink RX9 50 "CallerHall$Search" "caller" "LCallerHall$Caller;" ∈ TB := TB_3 (List.mem_of_getElem? (i := 43) rfl) rfl
theorem wdF_RX9_54 : Cond.fieldLink RX9 54 "CallerHall$Search" "floor" "LCallerHall$Floor;" ∈ TB := TB_3 (List.mem_of_getElem? (i := 44) rfl) rfl
theorem wdF_RX9_11 : Cond.fieldLink RX9 11 "CallerHall$Search" "states" "[J" ∈ TB := TB_3 (List.mem_of_getElem? (i := 45) rfl) rfl
theorem wdF_RX9_15 : Cond.fieldLink RX9 15 "CallerHall$Search" "table" "[S" ∈ TB := TB_3 (List.mem_of_getElem? (i := 46) rfl) rfl
theorem wdF_RX9_20 : Cond.fieldLink RX9 20 "CallerHall$Search" "leads" "[S" ∈ TB := TB_3 (List.mem_of_getElem? (i := 47) rfl) rfl
theorem wdF_RX9_23 : Cond.fieldLink RX9 23 "CallerHall$Search" "levels" "[I" ∈ TB := TB_3 (List.mem_of_getElem? (i := 48) rfl) rfl
theorem wdF_RX9_27 : Cond.fieldLink RX9 27 "CallerHall$Search" "ways" "[J" ∈ TB := TB_3 (List.mem_of_getElem? (i := 49) rfl) rfl
theorem wdF_RX9_30 : Cond.fieldLink RX9 30 "CallerHall$Search" "prices" "[I" ∈ TB := TB_3 (List.mem_of_getElem? (i := 50) rfl) rfl
theorem wdF_RX9_33 : Cond.fieldLink RX9 33 "CallerHall$Search" "key" "[J" ∈ TB := TB_3 (List.mem_of_getElem? (i := 51) rfl) rfl
theorem wdF_RX9_36 : Cond.fieldLink RX9 36 "CallerHall$Search" "codes" "[I" ∈ TB := TB_3 (List.mem_of_getElem? (i := 52) rfl) rfl
theorem wdF_RX9_74 : Cond.fieldLink RX9 74 "CallerHall$Search" "size" "I" ∈ TB := TB_3 (List.mem_of_getElem? (i := 53) rfl) rfl
theorem wdF_RX9_82 : Cond.fieldLink RX9 82 "CallerHall$Search" "width" "I" ∈ TB := TB_3 (List.mem_of_getElem? (i := 54) rfl) rfl
theorem wdF_RX9_138 : Cond.fieldLink RX9 138 "CallerHall$Search" "seen" "I" ∈ TB := TB_3 (List.mem_of_getElem? (i := 55) rfl) rfl
theorem wdF_RX11_281 : Cond.fieldLink RX11 281 "CallerHall$Search" "seen" "I" ∈ TB := TB_3 (List.mem_of_getElem? (i := 56) rfl) rfl
theorem wdF_RX9_39 : Cond.fieldLink RX9 39 "CallerHall$Search" "length" "I" ∈ TB := TB_3 (List.mem_of_getElem? (i := 57) rfl) rfl
theorem wdF_RX9_43 : Cond.fieldLink RX9 43 "CallerHall$Search" "chosen" "[I" ∈ TB := TB_3 (List.mem_of_getElem? (i := 58) rfl) rfl
theorem wdF_RX9_58 : Cond.fieldLink RX9 58 "CallerHall$Search" "isChosen" "Z" ∈ TB := TB_3 (List.mem_of_getElem? (i := 59) rfl) rfl
theorem wdF_RX9_62 : Cond.fieldLink RX9 62 "CallerHall$Search" "nextStep" "I" ∈ TB := TB_3 (List.mem_of_getElem? (i := 60) rfl) rfl
theorem wdF_RX11_245 : Cond.fieldLink RX11 245 "CallerHall$Search" "nextStep" "I" ∈ TB := TB_3 (List.mem_of_getElem? (i := 61) rfl) rfl
theorem wdY_X9_0 : u_lay RX9 TX9 0 ∈ TB := TB_3 (List.mem_of_getElem? (i := 62) rfl) rfl
theorem wdY_X9_1 : u_lay RX9 TX9 1 ∈ TB := TB_3 (List.mem_of_getElem? (i := 64) rfl) rfl
theorem wdY_X9_2 : u_lay RX9 TX9 2 ∈ TB := TB_3 (List.mem_of_getElem? (i := 66) rfl) rfl
theorem wdY_X9_3 : u_lay RX9 TX9 3 ∈ TB := TB_3 (List.mem_of_getElem? (i := 68) rfl) rfl
theorem wdY_X9_4 : u_lay RX9 TX9 4 ∈ TB := TB_3 (List.mem_of_getElem? (i := 70) rfl) rfl
theorem wdY_X9_5 : u_lay RX9 TX9 5 ∈ TB := TB_3 (List.mem_of_getElem? (i := 72) rfl) rfl
theorem wdY_X9_6 : u_lay RX9 TX9 6 ∈ TB := TB_3 (List.mem_of_getElem? (i := 74) rfl) rfl
theorem wdY_X9_7 : u_lay RX9 TX9 7 ∈ TB := TB_3 (List.mem_of_getElem? (i := 76) rfl) rfl
theorem wdY_X9_8 : u_lay RX9 TX9 8 ∈ TB := TB_3 (List.mem_of_getElem? (i := 78) rfl) rfl
theorem wdY_X9_9 : u_lay RX9 TX9 9 ∈ TB := TB_3 (List.mem_of_getElem? (i := 80) rfl) rfl
theorem wdY_X9_10 : u_lay RX9 TX9 10 ∈ TB := TB_3 (List.mem_of_getElem? (i := 82) rfl) rfl
theorem wdY_X9_11 : u_lay RX9 TX9 11 ∈ TB := TB_3 (List.mem_of_getElem? (i := 84) rfl) rfl
theorem wdY_X9_12 : u_lay RX9 TX9 12 ∈ TB := TB_3 (List.mem_of_getElem? (i := 86) rfl) rfl
theorem wdY_X9_13 : u_lay RX9 TX9 13 ∈ TB := TB_3 (List.mem_of_getElem? (i := 88) rfl) rfl
theorem wdY_X9_14 : u_lay RX9 TX9 14 ∈ TB := TB_3 (List.mem_of_getElem? (i := 90) rfl) rfl
theorem wdY_X9_15 : u_lay RX9 TX9 15 ∈ TB := TB_3 (List.mem_of_getElem? (i := 92) rfl) rfl
theorem wdY_X9_16 : u_lay RX9 TX9 16 ∈ TB := TB_3 (List.mem_of_getElem? (i := 94) rfl) rfl
theorem wdY_X9_17 : u_lay RX9 TX9 17 ∈ TB := TB_3 (List.mem_of_getElem? (i := 96) rfl) rfl
theorem wdA_short : Cond.arrayClass .short ∈ TB := TB_3 (List.mem_of_getElem? (i := 99) rfl) rfl
theorem wdM_RX11_93 : Cond.methodLink RX11 93 yX3_lay ∈ TB := TB_3 (List.mem_of_getElem? (i := 100) rfl) rfl
theorem wdN_X3_lay : Cond.instanceMethod yX3_lay ∈ TB := TB_3 (List.mem_of_getElem? (i := 101) rfl) rfl
theorem wdS_X3_lay : Cond.selects yX3_lay.cls yX3_lay yX3_lay ∈ TB := TB_3 (List.mem_of_getElem? (i := 102) rfl) rfl
theorem wdK_X3_lay : Cond.code yX3_lay cX3_lay 5 none ∈ TB := TB_3 (List.mem_of_getElem? (i := 103) rfl) rfl
theorem wdM_RX3_48 : Cond.methodLink RX3 48 yJ9_min_7cf53 ∈ TB := TB_3 (List.mem_of_getElem? (i := 104) rfl) rfl
theorem wdT_J9_min_7cf53 : Cond.static yJ9_min_7cf53 ∈ TB := TB_3 (List.mem_of_getElem? (i := 105) rfl) rfl
theorem wdK_J9_min_7cf53 : Cond.code yJ9_min_7cf53 cJ9_min_7cf53 2 (some .int) ∈ TB := TB_3 (List.mem_of_getElem? (i := 106) rfl) rfl
theorem wdM_RX3_54 : Cond.methodLink RX3 54 yX3_startOf ∈ TB := TB_3 (List.mem_of_getElem? (i := 107) rfl) rfl
theorem wdT_X3_startOf : Cond.static yX3_startOf ∈ TB := TB_3 (List.mem_of_getElem? (i := 108) rfl) rfl
theorem wdK_X3_startOf : Cond.code yX3_startOf cX3_startOf 5 (some .int) ∈ TB := TB_3 (List.mem_of_getElem? (i := 109) rfl) rfl
theorem wdF_RX3_38 : Cond.fieldLink RX3 38 "CallerHall$Floor" "SQUARE_X" "[I" ∈ TB := TB_3 (List.mem_of_getElem? (i := 110) rfl) rfl
theorem wdF_RX3_41 : Cond.fieldLink RX3 41 "CallerHall$Floor" "SQUARE_Y" "[I" ∈ TB := TB_3 (List.mem_of_getElem? (i := 112) rfl) rfl
theorem wdM_RX3_44 : Cond.methodLink RX3 44 yX3_codeOf ∈ TB := TB_3 (List.mem_of_getElem? (i := 114) rfl) rfl
theorem wdT_X3_codeOf : Cond.static yX3_codeOf ∈ TB := TB_3 (List.mem_of_getElem? (i := 115) rfl) rfl
theorem wdK_X3_codeOf : Cond.code yX3_codeOf cX3_codeOf 3 (some .int) ∈ TB := TB_3 (List.mem_of_getElem? (i := 116) rfl) rfl
theorem wdM_RX3_57 : Cond.methodLink RX3 57 yX3_place ∈ TB := TB_3 (List.mem_of_getElem? (i := 117) rfl) rfl
theorem wdN_X3_place : Cond.instanceMethod yX3_place ∈ TB := TB_3 (List.mem_of_getElem? (i := 118) rfl) rfl
theorem wdS_X3_place : Cond.selects yX3_place.cls yX3_place yX3_place ∈ TB := TB_3 (List.mem_of_getElem? (i := 119) rfl) rfl
theorem wdK_X3_place : Cond.code yX3_place cX3_place 5 none ∈ TB := TB_3 (List.mem_of_getElem? (i := 120) rfl) rfl
theorem wdM_RX3_65 : Cond.methodLink RX3 65 yX3_codeAt ∈ TB := TB_3 (List.mem_of_getElem? (i := 121) rfl) rfl
theorem wdN_X3_codeAt : Cond.instanceMethod yX3_codeAt ∈ TB := TB_3 (List.mem_of_getElem? (i := 122) rfl) rfl
theorem wdS_X3_codeAt : Cond.selects yX3_codeAt.cls yX3_codeAt yX3_codeAt ∈ TB := TB_3 (List.mem_of_getElem? (i := 123) rfl) rfl
theorem wdK_X3_codeAt : Cond.code yX3_codeAt cX3_codeAt 2 (some .int) ∈ TB := TB_3 (List.mem_of_getElem? (i := 124) rfl) rfl
theorem wdM_RX3_69 : Cond.methodLink RX3 69 yJ7_fill_d0a16 ∈ TB := TB_3 (List.mem_of_getElem? (i := 125) rfl) rfl
theorem wdT_J7_fill_d0a16 : Cond.static yJ7_fill_d0a16 ∈ TB := TB_3 (List.mem_of_getElem? (i := 126) rfl) rfl
theorem wdK_J7_fill_d0a16 : Cond.code yJ7_fill_d0a16 cJ7_fill_d0a16 5 none ∈ TB := TB_3 (List.mem_of_getElem? (i := 127) rfl) rfl
theorem wdM_RX3_75 : Cond.methodLink RX3 75 yX3_sort ∈ TB := TB_3 (List.mem_of_getElem? (i := 128) rfl) rfl
theorem wdN_X3_sort : Cond.instanceMethod yX3_sort ∈ TB := TB_3 (List.mem_of_getElem? (i := 130) rfl) rfl
theorem wdK_X3_sort : Cond.code yX3_sort cX3_sort 4 none ∈ TB := TB_3 (List.mem_of_getElem? (i := 131) rfl) rfl
theorem wdM_RX11_97 : Cond.methodLink RX11 97 yX3_copyCodes ∈ TB := TB_3 (List.mem_of_getElem? (i := 132) rfl) rfl
theorem wdN_X3_copyCodes : Cond.instanceMethod yX3_copyCodes ∈ TB := TB_3 (List.mem_of_getElem? (i := 133) rfl) rfl
theorem wdS_X3_copyCodes : Cond.selects yX3_copyCodes.cls yX3_copyCodes yX3_copyCodes ∈ TB := TB_3 (List.mem_of_getElem? (i := 134) rfl) rfl
theorem wdK_X3_copyCodes : Cond.code yX3_copyCodes cX3_copyCodes 3 none ∈ TB := TB_3 (List.mem_of_getElem? (i := 135) rfl) rfl
theorem wdF_RX11_10 : Cond.fieldLink RX11 10 "CallerHall" "tokens" "LCallerHall$Tokens;" ∈ TB := TB_3 (List.mem_of_getElem? (i := 136) rfl) rfl
theorem wdF_RX11_19 : Cond.fieldLink RX11 19 "CallerHall" "book" "LCallerHall$Book;" ∈ TB := TB_3 (List.mem_of_getElem? (i := 137) rfl) rfl
theorem wdF_RX11_28 : Cond.fieldLink RX11 28 "CallerHall" "parser" "LCallerHall$Parser;" ∈ TB := TB_3 (List.mem_of_getElem? (i := 138) rfl) rfl
theorem wdF_RX11_37 : Cond.fieldLink RX11 37 "CallerHall" "caller" "LCallerHall$Caller;" ∈ TB := TB_3 (List.mem_of_getElem? (i := 139) rfl) rfl
theorem wdF_RX11_44 : Cond.fieldLink RX11 44 "CallerHall" "floor" "LCallerHall$Floor;" ∈ TB := TB_3 (List.mem_of_getElem? (i := 140) rfl) rfl
theorem wdF_RX11_48 : Cond.fieldLink RX11 48 "CallerHall" "trial" "LCallerHall$Floor;" ∈ TB := TB_3 (List.mem_of_getElem? (i := 141) rfl) rfl
theorem wdF_RX11_56 : Cond.fieldLink RX11 56 "CallerHall" "run" "LCallerHall$Run;" ∈ TB := TB_3 (List.mem_of_getElem? (i := 142) rfl) rfl
theorem wdF_RX11_60 : Cond.fieldLink RX11 60 "CallerHall" "trialRun" "LCallerHall$Run;" ∈ TB := TB_3 (List.mem_of_getElem? (i := 143) rfl) rfl
theorem wdF_RX11_66 : Cond.fieldLink RX11 66 "CallerHall" "history" "LCallerHall$History;" ∈ TB := TB_3 (List.mem_of_getElem? (i := 144) rfl) rfl
theorem wdF_RX11_75 : Cond.fieldLink RX11 75 "CallerHall" "search" "LCallerHall$Search;" ∈ TB := TB_3 (List.mem_of_getElem? (i := 145) rfl) rfl
theorem wdF_RX11_79 : Cond.fieldLink RX11 79 "CallerHall" "aim" "[I" ∈ TB := TB_3 (List.mem_of_getElem? (i := 146) rfl) rfl
theorem wdF_RX11_158 : Cond.fieldLink RX11 158 "CallerHall" "beats" "I" ∈ TB := TB_3 (List.mem_of_getElem? (i := 147) rfl) rfl
theorem wdF_RX11_161 : Cond.fieldLink RX11 161 "CallerHall" "steps" "I" ∈ TB := TB_3 (List.mem_of_getElem? (i := 148) rfl) rfl
theorem wdF_RX11_121 : Cond.fieldLink RX11 121 "CallerHall" "textFault" "I" ∈ TB := TB_3 (List.mem_of_getElem? (i := 149) rfl) rfl
theorem wdF_RX11_83 : Cond.fieldLink RX11 83 "CallerHall" "failedFor" "I" ∈ TB := TB_3 (List.mem_of_getElem? (i := 150) rfl) rfl
theorem wdF_RX11_87 : Cond.fieldLink RX11 87 "CallerHall" "failedWho" "I" ∈ TB := TB_3 (List.mem_of_getElem? (i := 151) rfl) rfl
theorem wdF_RX11_90 : Cond.fieldLink RX11 90 "CallerHall" "failedOther" "I" ∈ TB := TB_3 (List.mem_of_getElem? (i := 152) rfl) rfl
theorem wdY_X11_0 : u_lay RX11 TX11 0 ∈ TB := TB_3 (List.mem_of_getElem? (i := 153) rfl) rfl
theorem wdY_X11_1 : u_lay RX11 TX11 1 ∈ TB := TB_3 (List.mem_of_getElem? (i := 155) rfl) rfl
theorem wdY_X11_2 : u_lay RX11 TX11 2 ∈ TB := TB_3 (List.mem_of_getElem? (i := 157) rfl) rfl
theorem wdY_X11_3 : u_lay RX11 TX11 3 ∈ TB := TB_3 (List.mem_of_getElem? (i := 159) rfl) rfl
theorem wdY_X11_4 : u_lay RX11 TX11 4 ∈ TB := TB_3 (List.mem_of_getElem? (i := 161) rfl) rfl
theorem wdY_X11_5 : u_lay RX11 TX11 5 ∈ TB := TB_3 (List.mem_of_getElem? (i := 163) rfl) rfl
theorem wdY_X11_6 : u_lay RX11 TX11 6 ∈ TB := TB_3 (List.mem_of_getElem? (i := 165) rfl) rfl
theorem wdY_X11_7 : u_lay RX11 TX11 7 ∈ TB := TB_3 (List.mem_of_getElem? (i := 167) rfl) rfl
theorem wdY_X11_8 : u_lay RX11 TX11 8 ∈ TB := TB_3 (List.mem_of_getElem? (i := 169) rfl) rfl
theorem wdY_X11_9 : u_lay RX11 TX11 9 ∈ TB := TB_3 (List.mem_of_getElem? (i := 171) rfl) rfl
theorem wdY_X11_10 : u_lay RX11 TX11 10 ∈ TB := TB_3 (List.mem_of_getElem? (i := 173) rfl) rfl
theorem wdY_X11_11 : u_lay RX11 TX11 11 ∈ TB := TB_3 (List.mem_of_getElem? (i := 175) rfl) rfl
theorem wdY_X11_12 : u_lay RX11 TX11 12 ∈ TB := TB_3 (List.mem_of_getElem? (i := 177) rfl) rfl
theorem wdY_X11_13 : u_lay RX11 TX11 13 ∈ TB := TB_3 (List.mem_of_getElem? (i := 179) rfl) rfl
theorem wdY_X11_14 : u_lay RX11 TX11 14 ∈ TB := TB_3 (List.mem_of_getElem? (i := 181) rfl) rfl
theorem wdY_X11_15 : u_lay RX11 TX11 15 ∈ TB := TB_3 (List.mem_of_getElem? (i := 183) rfl) rfl
theorem wdY_X11_16 : u_lay RX11 TX11 16 ∈ TB := TB_3 (List.mem_of_getElem? (i := 185) rfl) rfl
theorem wdM_RL_13 : Cond.methodLink RL 13 yX11_feed ∈ TB := TB_3 (List.mem_of_getElem? (i := 188) rfl) rfl
theorem wdN_X11_feed : Cond.instanceMethod yX11_feed ∈ TB := TB_3 (List.mem_of_getElem? (i := 189) rfl) rfl
theorem wdS_X11_feed : Cond.selects yX11_feed.cls yX11_feed yX11_feed ∈ TB := TB_3 (List.mem_of_getElem? (i := 190) rfl) rfl
theorem wdK_X11_feed : Cond.code yX11_feed cX11_feed 6 (some .boolean) ∈ TB := TB_3 (List.mem_of_getElem? (i := 191) rfl) rfl
theorem wdM_RX11_101 : Cond.methodLink RX11 101 yX10_hasRoom ∈ TB := TB_3 (List.mem_of_getElem? (i := 192) rfl) rfl
theorem wdN_X10_hasRoom : Cond.instanceMethod yX10_hasRoom ∈ TB := TB_3 (List.mem_of_getElem? (i := 193) rfl) rfl
theorem wdS_X10_hasRoom : Cond.selects yX10_hasRoom.cls yX10_hasRoom yX10_hasRoom ∈ TB := TB_3 (List.mem_of_getElem? (i := 194) rfl) rfl
theorem wdK_X10_hasRoom : Cond.code yX10_hasRoom cX10_hasRoom 2 (some .boolean) ∈ TB := TB_3 (List.mem_of_getElem? (i := 195) rfl) rfl
theorem wdM_RX11_105 : Cond.methodLink RX11 105 yX10_append ∈ TB := TB_3 (List.mem_of_getElem? (i := 196) rfl) rfl
theorem wdN_X10_append : Cond.instanceMethod yX10_append ∈ TB := TB_3 (List.mem_of_getElem? (i := 197) rfl) rfl
theorem wdS_X10_append : Cond.selects yX10_append.cls yX10_append yX10_append ∈ TB := TB_3 (List.mem_of_getElem? (i := 198) rfl) rfl
theorem wdK_X10_append : Cond.code yX10_append cX10_append 3 none ∈ TB := TB_3 (List.mem_of_getElem? (i := 199) rfl) rfl
theorem wdM_RL_18 : Cond.methodLink RL 18 yX11_end ∈ TB := TB_3 (List.mem_of_getElem? (i := 200) rfl) rfl
theorem wdN_X11_end : Cond.instanceMethod yX11_end ∈ TB := TB_3 (List.mem_of_getElem? (i := 201) rfl) rfl
theorem wdS_X11_end : Cond.selects yX11_end.cls yX11_end yX11_end ∈ TB := TB_3 (List.mem_of_getElem? (i := 202) rfl) rfl
theorem wdK_X11_end : Cond.code yX11_end cX11_end 2 (some .boolean) ∈ TB := TB_3 (List.mem_of_getElem? (i := 203) rfl) rfl
theorem wdM_RX11_109 : Cond.methodLink RX11 109 yX10_cut ∈ TB := TB_3 (List.mem_of_getElem? (i := 204) rfl) rfl
theorem wdN_X10_cut : Cond.instanceMethod yX10_cut ∈ TB := TB_3 (List.mem_of_getElem? (i := 205) rfl) rfl
theorem wdS_X10_cut : Cond.selects yX10_cut.cls yX10_cut yX10_cut ∈ TB := TB_3 (List.mem_of_getElem? (i := 206) rfl) rfl
theorem wdK_X10_cut : Cond.code yX10_cut cX10_cut 2 (some .boolean) ∈ TB := TB_3 (List.mem_of_getElem? (i := 207) rfl) rfl
theorem wdM_RL_23 : Cond.methodLink RL 23 yX11_load ∈ TB := TB_3 (List.mem_of_getElem? (i := 208) rfl) rfl
theorem wdN_X11_load : Cond.instanceMethod yX11_load ∈ TB := TB_3 (List.mem_of_getElem? (i := 209) rfl) rfl
theorem wdS_X11_load : Cond.selects yX11_load.cls yX11_load yX11_load ∈ TB := TB_3 (List.mem_of_getElem? (i := 210) rfl) rfl
theorem wdK_X11_load : Cond.code yX11_load cX11_load 1 (some .int) ∈ TB := TB_3 (List.mem_of_getElem? (i := 211) rfl) rfl
theorem wdM_RX11_112 : Cond.methodLink RX11 112 yX10_read ∈ TB := TB_3 (List.mem_of_getElem? (i := 212) rfl) rfl
theorem wdN_X10_read : Cond.instanceMethod yX10_read ∈ TB := TB_3 (List.mem_of_getElem? (i := 213) rfl) rfl
theorem wdS_X10_read : Cond.selects yX10_read.cls yX10_read yX10_read ∈ TB := TB_3 (List.mem_of_getElem? (i := 214) rfl) rfl
theorem wdK_X10_read : Cond.code yX10_read cX10_read 3 none ∈ TB := TB_3 (List.mem_of_getElem? (i := 215) rfl) rfl
theorem wdM_RX10_51 : Cond.methodLink RX10 51 yX10_skipBlanks ∈ TB := TB_3 (List.mem_of_getElem? (i := 216) rfl) rfl
theorem wdN_X10_skipBlanks : Cond.instanceMethod yX10_skipBlanks ∈ TB := TB_3 (List.mem_of_getElem? (i := 218) rfl) rfl
theorem wdK_X10_skipBlanks : Cond.code yX10_skipBlanks cX10_skipBlanks 6 (some .int) ∈ TB := TB_3 (List.mem_of_getElem? (i := 219) rfl) rfl
theorem wdM_RX10_62 : Cond.methodLink RX10 62 yX10_byteAt ∈ TB := TB_3 (List.mem_of_getElem? (i := 220) rfl) rfl
theorem wdN_X10_byteAt : Cond.instanceMethod yX10_byteAt ∈ TB := TB_3 (List.mem_of_getElem? (i := 222) rfl) rfl
theorem wdK_X10_byteAt : Cond.code yX10_byteAt cX10_byteAt 2 (some .int) ∈ TB := TB_3 (List.mem_of_getElem? (i := 223) rfl) rfl
theorem wdM_RX10_55 : Cond.methodLink RX10 55 yX10_readToken ∈ TB := TB_3 (List.mem_of_getElem? (i := 224) rfl) rfl
theorem wdN_X10_readToken : Cond.instanceMethod yX10_readToken ∈ TB := TB_3 (List.mem_of_getElem? (i := 226) rfl) rfl
theorem wdK_X10_readToken : Cond.code yX10_readToken cX10_readToken 4 (some .int) ∈ TB := TB_3 (List.mem_of_getElem? (i := 227) rfl) rfl
theorem wdM_RX10_65 : Cond.methodLink RX10 65 yX10_isLetter ∈ TB := TB_3 (List.mem_of_getElem? (i := 228) rfl) rfl
theorem wdT_X10_isLetter : Cond.static yX10_isLetter ∈ TB := TB_3 (List.mem_of_getElem? (i := 229) rfl) rfl
theorem wdK_X10_isLetter : Cond.code yX10_isLetter cX10_isLetter 1 (some .boolean) ∈ TB := TB_3 (List.mem_of_getElem? (i := 230) rfl) rfl
theorem wdM_RX10_69 : Cond.methodLink RX10 69 yX10_readWord ∈ TB := TB_3 (List.mem_of_getElem? (i := 231) rfl) rfl
theorem wdN_X10_readWord : Cond.instanceMethod yX10_readWord ∈ TB := TB_3 (List.mem_of_getElem? (i := 233) rfl) rfl
theorem wdK_X10_readWord : Cond.code yX10_readWord cX10_readWord 4 (some .int) ∈ TB := TB_3 (List.mem_of_getElem? (i := 234) rfl) rfl
theorem wdM_RX10_72 : Cond.methodLink RX10 72 yX10_isDigit ∈ TB := TB_3 (List.mem_of_getElem? (i := 235) rfl) rfl
theorem wdT_X10_isDigit : Cond.static yX10_isDigit ∈ TB := TB_3 (List.mem_of_getElem? (i := 236) rfl) rfl
theorem wdK_X10_isDigit : Cond.code yX10_isDigit cX10_isDigit 1 (some .boolean) ∈ TB := TB_3 (List.mem_of_getElem? (i := 237) rfl) rfl
theorem wdM_RX10_58 : Cond.methodLink RX10 58 yX10_put ∈ TB := TB_3 (List.mem_of_getElem? (i := 238) rfl) rfl
theorem wdN_X10_put : Cond.instanceMethod yX10_put ∈ TB := TB_4 (List.mem_of_getElem? (i := 0) rfl) rfl
theorem wdK_X10_put : Cond.code yX10_put cX10_put 4 none ∈ TB := TB_4 (List.mem_of_getElem? (i := 1) rfl) rfl
theorem wdT_X11_lettersOf : Cond.static yX11_lettersOf ∈ TB := TB_4 (List.mem_of_getElem? (i := 3) rfl) rfl
theorem wdK_X11_lettersOf : Cond.code yX11_lettersOf cX11_lettersOf 6 (some .long) ∈ TB := TB_4 (List.mem_of_getElem? (i := 4) rfl) rfl
theorem wdM_RX10_87 : Cond.methodLink RX10 87 yX10_kindOfWord ∈ TB := TB_4 (List.mem_of_getElem? (i := 5) rfl) rfl
theorem wdN_X10_kindOfWord : Cond.instanceMethod yX10_kindOfWord ∈ TB := TB_4 (List.mem_of_getElem? (i := 7) rfl) rfl
theorem wdK_X10_kindOfWord : Cond.code yX10_kindOfWord cX10_kindOfWord 4 (some .int) ∈ TB := TB_4 (List.mem_of_getElem? (i := 8) rfl) rfl
theorem wdM_RX10_75 : Cond.methodLink RX10 75 yX10_readNumber ∈ TB := TB_4 (List.mem_of_getElem? (i := 9) rfl) rfl
theorem wdN_X10_readNumber : Cond.instanceMethod yX10_readNumber ∈ TB := TB_4 (List.mem_of_getElem? (i := 11) rfl) rfl
theorem wdK_X10_readNumber : Cond.code yX10_readNumber cX10_readNumber 7 (some .int) ∈ TB := TB_4 (List.mem_of_getElem? (i := 12) rfl) rfl
theorem wdM_RX10_80 : Cond.methodLink RX10 80 yJ0_indexOf_0f7a4 ∈ TB := TB_4 (List.mem_of_getElem? (i := 14) rfl) rfl
theorem wdN_J0_indexOf_0f7a4 : Cond.instanceMethod yJ0_indexOf_0f7a4 ∈ TB := TB_4 (List.mem_of_getElem? (i := 15) rfl) rfl
theorem wdS_J0_indexOf_0f7a4 : Cond.selects yJ0_indexOf_0f7a4.cls yJ0_indexOf_0f7a4 yJ0_indexOf_0f7a4 ∈ TB := TB_4 (List.mem_of_getElem? (i := 16) rfl) rfl
theorem wdK_J0_indexOf_0f7a4 : Cond.code yJ0_indexOf_0f7a4 cJ0_indexOf_0f7a4 2 (some .int) ∈ TB := TB_4 (List.mem_of_getElem? (i := 17) rfl) rfl
theorem wdM_RJ0_633 : Cond.methodLink RJ0 633 yJ0_indexOf_7cf53 ∈ TB := TB_4 (List.mem_of_getElem? (i := 18) rfl) rfl
theorem wdN_J0_indexOf_7cf53 : Cond.instanceMethod yJ0_indexOf_7cf53 ∈ TB := TB_4 (List.mem_of_getElem? (i := 19) rfl) rfl
theorem wdS_J0_indexOf_7cf53 : Cond.selects yJ0_indexOf_7cf53.cls yJ0_indexOf_7cf53 yJ0_indexOf_7cf53 ∈ TB := TB_4 (List.mem_of_getElem? (i := 20) rfl) rfl
theorem wdK_J0_indexOf_7cf53 : Cond.code yJ0_indexOf_7cf53 cJ0_indexOf_7cf53 3 (some .int) ∈ TB := TB_4 (List.mem_of_getElem? (i := 21) rfl) rfl
theorem wdM_RJ0_505 : Cond.methodLink RJ0 505 yJ0_length_8abf5 ∈ TB := TB_4 (List.mem_of_getElem? (i := 22) rfl) rfl
theorem wdM_RJ0_637 : Cond.methodLink RJ0 637 yJ1_indexOf_4cfef ∈ TB := TB_4 (List.mem_of_getElem? (i := 23) rfl) rfl
theorem wdT_J1_indexOf_4cfef : Cond.static yJ1_indexOf_4cfef ∈ TB := TB_4 (List.mem_of_getElem? (i := 24) rfl) rfl
theorem wdK_J1_indexOf_4cfef : Cond.code yJ1_indexOf_4cfef cJ1_indexOf_4cfef 4 (some .int) ∈ TB := TB_4 (List.mem_of_getElem? (i := 25) rfl) rfl
theorem wdM_RJ1_88 : Cond.methodLink RJ1 88 yJ1_canEncode_9a6ad ∈ TB := TB_4 (List.mem_of_getElem? (i := 26) rfl) rfl
theorem wdT_J1_canEncode_9a6ad : Cond.static yJ1_canEncode_9a6ad ∈ TB := TB_4 (List.mem_of_getElem? (i := 27) rfl) rfl
theorem wdK_J1_canEncode_9a6ad : Cond.code yJ1_canEncode_9a6ad cJ1_canEncode_9a6ad 1 (some .boolean) ∈ TB := TB_4 (List.mem_of_getElem? (i := 28) rfl) rfl
theorem wdM_RJ1_92 : Cond.methodLink RJ1 92 yJ9_max_7cf53 ∈ TB := TB_4 (List.mem_of_getElem? (i := 29) rfl) rfl
theorem wdT_J9_max_7cf53 : Cond.static yJ9_max_7cf53 ∈ TB := TB_4 (List.mem_of_getElem? (i := 30) rfl) rfl
theorem wdK_J9_max_7cf53 : Cond.code yJ9_max_7cf53 cJ9_max_7cf53 2 (some .int) ∈ TB := TB_4 (List.mem_of_getElem? (i := 31) rfl) rfl
theorem wdM_RJ1_38 : Cond.methodLink RJ1 38 yJ9_min_7cf53 ∈ TB := TB_4 (List.mem_of_getElem? (i := 32) rfl) rfl
theorem wdM_RJ1_95 : Cond.methodLink RJ1 95 yJ1_indexOfChar_4cfef ∈ TB := TB_4 (List.mem_of_getElem? (i := 33) rfl) rfl
theorem wdT_J1_indexOfChar_4cfef : Cond.static yJ1_indexOfChar_4cfef ∈ TB := TB_4 (List.mem_of_getElem? (i := 34) rfl) rfl
theorem wdK_J1_indexOfChar_4cfef : Cond.code yJ1_indexOfChar_4cfef cJ1_indexOfChar_4cfef 6 (some .int) ∈ TB := TB_4 (List.mem_of_getElem? (i := 35) rfl) rfl
theorem wdM_RJ0_640 : Cond.methodLink RJ0 640 yJ2_indexOf_4cfef ∈ TB := TB_4 (List.mem_of_getElem? (i := 36) rfl) rfl
theorem wdT_J2_indexOf_4cfef : Cond.static yJ2_indexOf_4cfef ∈ TB := TB_4 (List.mem_of_getElem? (i := 37) rfl) rfl
theorem wdK_J2_indexOf_4cfef : Cond.code yJ2_indexOf_4cfef cJ2_indexOf_4cfef 4 (some .int) ∈ TB := TB_4 (List.mem_of_getElem? (i := 38) rfl) rfl
theorem wdM_RJ2_224 : Cond.methodLink RJ2 224 yJ9_max_7cf53 ∈ TB := TB_4 (List.mem_of_getElem? (i := 39) rfl) rfl
theorem wdM_RJ2_183 : Cond.methodLink RJ2 183 yJ9_min_7cf53 ∈ TB := TB_4 (List.mem_of_getElem? (i := 40) rfl) rfl
theorem wdV_RJ2_227 : Cond.constant RJ2 227 (65536) ∈ TB := TB_4 (List.mem_of_getElem? (i := 41) rfl) rfl
theorem wdM_RJ2_228 : Cond.methodLink RJ2 228 yJ2_indexOfChar_4cfef ∈ TB := TB_4 (List.mem_of_getElem? (i := 42) rfl) rfl
theorem wdT_J2_indexOfChar_4cfef : Cond.static yJ2_indexOfChar_4cfef ∈ TB := TB_4 (List.mem_of_getElem? (i := 43) rfl) rfl
theorem wdK_J2_indexOfChar_4cfef : Cond.code yJ2_indexOfChar_4cfef cJ2_indexOfChar_4cfef 4 (some .int) ∈ TB := TB_4 (List.mem_of_getElem? (i := 44) rfl) rfl
theorem wdM_RJ2_96 : Cond.methodLink RJ2 96 yJ2_checkBoundsBeginEnd_d044e ∈ TB := TB_4 (List.mem_of_getElem? (i := 45) rfl) rfl
theorem wdT_J2_checkBoundsBeginEnd_d044e : Cond.static yJ2_checkBoundsBeginEnd_d044e ∈ TB := TB_4 (List.mem_of_getElem? (i := 46) rfl) rfl
theorem wdK_J2_checkBoundsBeginEnd_d044e : Cond.code yJ2_checkBoundsBeginEnd_d044e cJ2_checkBoundsBeginEnd_d044e 3 none ∈ TB := TB_4 (List.mem_of_getElem? (i := 47) rfl) rfl
theorem wdM_RJ2_241 : Cond.methodLink RJ2 241 yJ0_checkBoundsBeginEnd_23922 ∈ TB := TB_4 (List.mem_of_getElem? (i := 48) rfl) rfl
theorem wdT_J0_checkBoundsBeginEnd_23922 : Cond.static yJ0_checkBoundsBeginEnd_23922 ∈ TB := TB_4 (List.mem_of_getElem? (i := 49) rfl) rfl
theorem wdK_J0_checkBoundsBeginEnd_23922 : Cond.code yJ0_checkBoundsBeginEnd_23922 cJ0_checkBoundsBeginEnd_23922 3 none ∈ TB := TB_4 (List.mem_of_getElem? (i := 50) rfl) rfl
theorem wdM_RJ0_1062 : Cond.methodLink RJ0 1062 yJ3_checkFromToIndex_8c36e ∈ TB := TB_4 (List.mem_of_getElem? (i := 51) rfl) rfl
theorem wdT_J3_checkFromToIndex_8c36e : Cond.static yJ3_checkFromToIndex_8c36e ∈ TB := TB_4 (List.mem_of_getElem? (i := 52) rfl) rfl
theorem wdK_J3_checkFromToIndex_8c36e : Cond.code yJ3_checkFromToIndex_8c36e cJ3_checkFromToIndex_8c36e 4 (some .int) ∈ TB := TB_4 (List.mem_of_getElem? (i := 53) rfl) rfl
theorem wdM_RJ2_244 : Cond.methodLink RJ2 244 yJ2_indexOfCharUnsafe_4cfef ∈ TB := TB_4 (List.mem_of_getElem? (i := 54) rfl) rfl
theorem wdT_J2_indexOfCharUnsafe_4cfef : Cond.static yJ2_indexOfCharUnsafe_4cfef ∈ TB := TB_4 (List.mem_of_getElem? (i := 55) rfl) rfl
theorem wdK_J2_indexOfCharUnsafe_4cfef : Cond.code yJ2_indexOfCharUnsafe_4cfef cJ2_indexOfCharUnsafe_4cfef 5 (some .int) ∈ TB := TB_4 (List.mem_of_getElem? (i := 56) rfl) rfl
theorem wdM_RJ2_232 : Cond.methodLink RJ2 232 yJ2_indexOfSupplementary_4cfef ∈ TB := TB_4 (List.mem_of_getElem? (i := 57) rfl) rfl
theorem wdT_J2_indexOfSupplementary_4cfef : Cond.static yJ2_indexOfSupplementary_4cfef ∈ TB := TB_4 (List.mem_of_getElem? (i := 58) rfl) rfl
theorem wdK_J2_indexOfSupplementary_4cfef : Cond.code yJ2_indexOfSupplementary_4cfef cJ2_indexOfSupplementary_4cfef 7 (some .int) ∈ TB := TB_4 (List.mem_of_getElem? (i := 59) rfl) rfl
theorem wdM_RJ2_164 : Cond.methodLink RJ2 164 yJ11_isValidCodePoint_9a6ad ∈ TB := TB_4 (List.mem_of_getElem? (i := 60) rfl) rfl
theorem wdT_J11_isValidCodePoint_9a6ad : Cond.static yJ11_isValidCodePoint_9a6ad ∈ TB := TB_4 (List.mem_of_getElem? (i := 61) rfl) rfl
theorem wdK_J11_isValidCodePoint_9a6ad : Cond.code yJ11_isValidCodePoint_9a6ad cJ11_isValidCodePoint_9a6ad 2 (some .boolean) ∈ TB := TB_4 (List.mem_of_getElem? (i := 62) rfl) rfl
theorem wdM_RJ2_157 : Cond.methodLink RJ2 157 yJ11_highSurrogate_5068e ∈ TB := TB_4 (List.mem_of_getElem? (i := 63) rfl) rfl
theorem wdT_J11_highSurrogate_5068e : Cond.static yJ11_highSurrogate_5068e ∈ TB := TB_4 (List.mem_of_getElem? (i := 64) rfl) rfl
theorem wdK_J11_highSurrogate_5068e : Cond.code yJ11_highSurrogate_5068e cJ11_highSurrogate_5068e 1 (some .char) ∈ TB := TB_4 (List.mem_of_getElem? (i := 65) rfl) rfl
theorem wdV_RJ11_110 : Cond.constant RJ11 110 (55232) ∈ TB := TB_4 (List.mem_of_getElem? (i := 66) rfl) rfl
theorem wdM_RJ2_161 : Cond.methodLink RJ2 161 yJ11_lowSurrogate_5068e ∈ TB := TB_4 (List.mem_of_getElem? (i := 67) rfl) rfl
theorem wdT_J11_lowSurrogate_5068e : Cond.static yJ11_lowSurrogate_5068e ∈ TB := TB_4 (List.mem_of_getElem? (i := 68) rfl) rfl
theorem wdK_J11_lowSurrogate_5068e : Cond.code yJ11_lowSurrogate_5068e cJ11_lowSurrogate_5068e 1 (some .char) ∈ TB := TB_4 (List.mem_of_getElem? (i := 69) rfl) rfl
theorem wdV_RJ11_76 : Cond.constant RJ11 76 (56320) ∈ TB := TB_4 (List.mem_of_getElem? (i := 70) rfl) rfl
theorem wdM_RX11_115 : Cond.methodLink RX11 115 yX7_readBook ∈ TB := TB_4 (List.mem_of_getElem? (i := 71) rfl) rfl
theorem wdN_X7_readBook : Cond.instanceMethod yX7_readBook ∈ TB := TB_4 (List.mem_of_getElem? (i := 72) rfl) rfl
theorem wdS_X7_readBook : Cond.selects yX7_readBook.cls yX7_readBook yX7_readBook ∈ TB := TB_4 (List.mem_of_getElem? (i := 73) rfl) rfl
theorem wdK_X7_readBook : Cond.code yX7_readBook cX7_readBook 3 none ∈ TB := TB_4 (List.mem_of_getElem? (i := 74) rfl) rfl
theorem wdM_RX7_23 : Cond.methodLink RX7 23 yX7_save ∈ TB := TB_4 (List.mem_of_getElem? (i := 75) rfl) rfl
theorem wdN_X7_save : Cond.instanceMethod yX7_save ∈ TB := TB_4 (List.mem_of_getElem? (i := 77) rfl) rfl
theorem wdK_X7_save : Cond.code yX7_save cX7_save 1 none ∈ TB := TB_4 (List.mem_of_getElem? (i := 78) rfl) rfl
theorem wdM_RX7_26 : Cond.methodLink RX7 26 yX7_startText ∈ TB := TB_4 (List.mem_of_getElem? (i := 79) rfl) rfl
theorem wdN_X7_startText : Cond.instanceMethod yX7_startText ∈ TB := TB_4 (List.mem_of_getElem? (i := 81) rfl) rfl
theorem wdK_X7_startText : Cond.code yX7_startText cX7_startText 1 none ∈ TB := TB_4 (List.mem_of_getElem? (i := 82) rfl) rfl
theorem wdM_RX7_35 : Cond.methodLink RX7 35 yX7_readForm ∈ TB := TB_4 (List.mem_of_getElem? (i := 83) rfl) rfl
theorem wdN_X7_readForm : Cond.instanceMethod yX7_readForm ∈ TB := TB_4 (List.mem_of_getElem? (i := 85) rfl) rfl
theorem wdK_X7_readForm : Cond.code yX7_readForm cX7_readForm 3 (some .boolean) ∈ TB := TB_4 (List.mem_of_getElem? (i := 86) rfl) rfl
theorem wdM_RX7_140 : Cond.methodLink RX7 140 yX6_isFull ∈ TB := TB_4 (List.mem_of_getElem? (i := 87) rfl) rfl
theorem wdN_X6_isFull : Cond.instanceMethod yX6_isFull ∈ TB := TB_4 (List.mem_of_getElem? (i := 88) rfl) rfl
theorem wdS_X6_isFull : Cond.selects yX6_isFull.cls yX6_isFull yX6_isFull ∈ TB := TB_4 (List.mem_of_getElem? (i := 89) rfl) rfl
theorem wdK_X6_isFull : Cond.code yX6_isFull cX6_isFull 1 (some .boolean) ∈ TB := TB_4 (List.mem_of_getElem? (i := 90) rfl) rfl
theorem wdM_RX7_48 : Cond.methodLink RX7 48 yX7_wrong ∈ TB := TB_4 (List.mem_of_getElem? (i := 91) rfl) rfl
theorem wdN_X7_wrong : Cond.instanceMethod yX7_wrong ∈ TB := TB_4 (List.mem_of_getElem? (i := 93) rfl) rfl
theorem wdK_X7_wrong : Cond.code yX7_wrong cX7_wrong 2 (some .boolean) ∈ TB := TB_4 (List.mem_of_getElem? (i := 94) rfl) rfl
theorem wdM_RX7_127 : Cond.methodLink RX7 127 yX7_pass ∈ TB := TB_4 (List.mem_of_getElem? (i := 95) rfl) rfl
theorem wdN_X7_pass : Cond.instanceMethod yX7_pass ∈ TB := TB_4 (List.mem_of_getElem? (i := 97) rfl) rfl
theorem wdK_X7_pass : Cond.code yX7_pass cX7_pass 2 (some .boolean) ∈ TB := TB_4 (List.mem_of_getElem? (i := 98) rfl) rfl
theorem wdM_RX7_143 : Cond.methodLink RX7 143 yX7_takeNew ∈ TB := TB_4 (List.mem_of_getElem? (i := 99) rfl) rfl
theorem wdN_X7_takeNew : Cond.instanceMethod yX7_takeNew ∈ TB := TB_4 (List.mem_of_getElem? (i := 101) rfl) rfl
theorem wdK_X7_takeNew : Cond.code yX7_takeNew cX7_takeNew 2 (some .boolean) ∈ TB := TB_4 (List.mem_of_getElem? (i := 102) rfl) rfl
theorem wdM_RX7_61 : Cond.methodLink RX7 61 yX0_namesOf ∈ TB := TB_4 (List.mem_of_getElem? (i := 103) rfl) rfl
theorem wdN_X0_namesOf : Cond.instanceMethod yX0_namesOf ∈ TB := TB_4 (List.mem_of_getElem? (i := 104) rfl) rfl
theorem wdS_X0_namesOf : Cond.selects yX0_namesOf.cls yX0_namesOf yX0_namesOf ∈ TB := TB_4 (List.mem_of_getElem? (i := 105) rfl) rfl
theorem wdK_X0_namesOf : Cond.code yX0_namesOf cX0_namesOf 2 (some (.object "CallerHall$Names")) ∈ TB := TB_4 (List.mem_of_getElem? (i := 106) rfl) rfl
theorem wdM_RX7_71 : Cond.methodLink RX7 71 yX6_find ∈ TB := TB_4 (List.mem_of_getElem? (i := 107) rfl) rfl
theorem wdN_X6_find : Cond.instanceMethod yX6_find ∈ TB := TB_4 (List.mem_of_getElem? (i := 108) rfl) rfl
theorem wdS_X6_find : Cond.selects yX6_find.cls yX6_find yX6_find ∈ TB := TB_4 (List.mem_of_getElem? (i := 109) rfl) rfl
theorem wdK_X6_find : Cond.code yX6_find cX6_find 4 (some .int) ∈ TB := TB_4 (List.mem_of_getElem? (i := 110) rfl) rfl
theorem wdM_RX7_146 : Cond.methodLink RX7 146 yX6_add ∈ TB := TB_4 (List.mem_of_getElem? (i := 111) rfl) rfl
theorem wdN_X6_add : Cond.instanceMethod yX6_add ∈ TB := TB_4 (List.mem_of_getElem? (i := 112) rfl) rfl
theorem wdS_X6_add : Cond.selects yX6_add.cls yX6_add yX6_add ∈ TB := TB_4 (List.mem_of_getElem? (i := 113) rfl) rfl
theorem wdK_X6_add : Cond.code yX6_add cX6_add 3 none ∈ TB := TB_4 (List.mem_of_getElem? (i := 114) rfl) rfl
theorem wdM_RX6_22 : Cond.methodLink RX6 22 ⟨"java/lang/System", "arraycopy", "(Ljava/lang/Object;ILjava/lang/Object;II)V"⟩ ∈ TB := TB_4 (List.mem_of_getElem? (i := 115) rfl) rfl
theorem wdM_RX7_58 : Cond.methodLink RX7 58 yX7_take ∈ TB := TB_4 (List.mem_of_getElem? (i := 118) rfl) rfl
theorem wdN_X7_take : Cond.instanceMethod yX7_take ∈ TB := TB_4 (List.mem_of_getElem? (i := 120) rfl) rfl
theorem wdK_X7_take : Cond.code yX7_take cX7_take 2 (some .boolean) ∈ TB := TB_4 (List.mem_of_getElem? (i := 121) rfl) rfl
theorem wdM_RX7_153 : Cond.methodLink RX7 153 yX7_readSlot ∈ TB := TB_4 (List.mem_of_getElem? (i := 122) rfl) rfl
theorem wdN_X7_readSlot : Cond.instanceMethod yX7_readSlot ∈ TB := TB_4 (List.mem_of_getElem? (i := 124) rfl) rfl
theorem wdK_X7_readSlot : Cond.code yX7_readSlot cX7_readSlot 7 (some .boolean) ∈ TB := TB_4 (List.mem_of_getElem? (i := 125) rfl) rfl
theorem wdM_RX7_133 : Cond.methodLink RX7 133 yX7_numberFault ∈ TB := TB_4 (List.mem_of_getElem? (i := 126) rfl) rfl
theorem wdN_X7_numberFault : Cond.instanceMethod yX7_numberFault ∈ TB := TB_4 (List.mem_of_getElem? (i := 128) rfl) rfl
theorem wdK_X7_numberFault : Cond.code yX7_numberFault cX7_numberFault 3 (some .int) ∈ TB := TB_4 (List.mem_of_getElem? (i := 129) rfl) rfl
theorem wdM_RX7_156 : Cond.methodLink RX7 156 yX0_hasSlot ∈ TB := TB_4 (List.mem_of_getElem? (i := 130) rfl) rfl
theorem wdN_X0_hasSlot : Cond.instanceMethod yX0_hasSlot ∈ TB := TB_4 (List.mem_of_getElem? (i := 131) rfl) rfl
theorem wdS_X0_hasSlot : Cond.selects yX0_hasSlot.cls yX0_hasSlot yX0_hasSlot ∈ TB := TB_4 (List.mem_of_getElem? (i := 132) rfl) rfl
theorem wdK_X0_hasSlot : Cond.code yX0_hasSlot cX0_hasSlot 6 (some .boolean) ∈ TB := TB_4 (List.mem_of_getElem? (i := 133) rfl) rfl
theorem wdM_RX7_160 : Cond.methodLink RX7 160 yX0_addSlot ∈ TB := TB_4 (List.mem_of_getElem? (i := 134) rfl) rfl
theorem wdN_X0_addSlot : Cond.instanceMethod yX0_addSlot ∈ TB := TB_4 (List.mem_of_getElem? (i := 135) rfl) rfl
theorem wdS_X0_addSlot : Cond.selects yX0_addSlot.cls yX0_addSlot yX0_addSlot ∈ TB := TB_4 (List.mem_of_getElem? (i := 136) rfl) rfl
theorem wdK_X0_addSlot : Cond.code yX0_addSlot cX0_addSlot 7 none ∈ TB := TB_4 (List.mem_of_getElem? (i := 137) rfl) rfl
theorem wdM_RX0_77 : Cond.methodLink RX0 77 yX0_turnedX ∈ TB := TB_4 (List.mem_of_getElem? (i := 138) rfl) rfl
theorem wdT_X0_turnedX : Cond.static yX0_turnedX ∈ TB := TB_4 (List.mem_of_getElem? (i := 139) rfl) rfl
theorem wdK_X0_turnedX : Cond.code yX0_turnedX cX0_turnedX 3 (some .int) ∈ TB := TB_4 (List.mem_of_getElem? (i := 140) rfl) rfl
theorem wdM_RX0_81 : Cond.methodLink RX0 81 yX0_turnedY ∈ TB := TB_4 (List.mem_of_getElem? (i := 141) rfl) rfl
theorem wdT_X0_turnedY : Cond.static yX0_turnedY ∈ TB := TB_4 (List.mem_of_getElem? (i := 142) rfl) rfl
theorem wdK_X0_turnedY : Cond.code yX0_turnedY cX0_turnedY 3 (some .int) ∈ TB := TB_4 (List.mem_of_getElem? (i := 143) rfl) rfl
theorem wdM_RX7_39 : Cond.methodLink RX7 39 yX7_readFigure ∈ TB := TB_4 (List.mem_of_getElem? (i := 144) rfl) rfl
theorem wdN_X7_readFigure : Cond.instanceMethod yX7_readFigure ∈ TB := TB_4 (List.mem_of_getElem? (i := 146) rfl) rfl
theorem wdK_X7_readFigure : Cond.code yX7_readFigure cX7_readFigure 3 (some .boolean) ∈ TB := TB_4 (List.mem_of_getElem? (i := 147) rfl) rfl
theorem wdM_RX7_164 : Cond.methodLink RX7 164 yX7_takeKnown ∈ TB := TB_4 (List.mem_of_getElem? (i := 148) rfl) rfl
theorem wdN_X7_takeKnown : Cond.instanceMethod yX7_takeKnown ∈ TB := TB_4 (List.mem_of_getElem? (i := 150) rfl) rfl
theorem wdK_X7_takeKnown : Cond.code yX7_takeKnown cX7_takeKnown 2 (some .boolean) ∈ TB := TB_4 (List.mem_of_getElem? (i := 151) rfl) rfl
theorem wdM_RX7_171 : Cond.methodLink RX7 171 yX7_takeNumber ∈ TB := TB_4 (List.mem_of_getElem? (i := 152) rfl) rfl
theorem wdN_X7_takeNumber : Cond.instanceMethod yX7_takeNumber ∈ TB := TB_4 (List.mem_of_getElem? (i := 154) rfl) rfl
theorem wdK_X7_takeNumber : Cond.code yX7_takeNumber cX7_takeNumber 4 (some .boolean) ∈ TB := TB_4 (List.mem_of_getElem? (i := 155) rfl) rfl
theorem wdM_RX7_181 : Cond.methodLink RX7 181 yX7_readGoals ∈ TB := TB_4 (List.mem_of_getElem? (i := 156) rfl) rfl
theorem wdN_X7_readGoals : Cond.instanceMethod yX7_readGoals ∈ TB := TB_4 (List.mem_of_getElem? (i := 158) rfl) rfl
theorem wdK_X7_readGoals : Cond.code yX7_readGoals cX7_readGoals 4 (some .boolean) ∈ TB := TB_4 (List.mem_of_getElem? (i := 159) rfl) rfl
theorem wdM_RX7_184 : Cond.methodLink RX7 184 yX7_readGoal ∈ TB := TB_4 (List.mem_of_getElem? (i := 160) rfl) rfl
theorem wdN_X7_readGoal : Cond.instanceMethod yX7_readGoal ∈ TB := TB_4 (List.mem_of_getElem? (i := 162) rfl) rfl
theorem wdK_X7_readGoal : Cond.code yX7_readGoal cX7_readGoal 2 (some .boolean) ∈ TB := TB_4 (List.mem_of_getElem? (i := 163) rfl) rfl
theorem wdM_RX7_42 : Cond.methodLink RX7 42 yX7_readPart ∈ TB := TB_4 (List.mem_of_getElem? (i := 164) rfl) rfl
theorem wdN_X7_readPart : Cond.instanceMethod yX7_readPart ∈ TB := TB_4 (List.mem_of_getElem? (i := 166) rfl) rfl
theorem wdK_X7_readPart : Cond.code yX7_readPart cX7_readPart 3 (some .boolean) ∈ TB := TB_4 (List.mem_of_getElem? (i := 167) rfl) rfl
theorem wdM_RX7_196 : Cond.methodLink RX7 196 yX7_readBlock ∈ TB := TB_4 (List.mem_of_getElem? (i := 168) rfl) rfl
theorem wdN_X7_readBlock : Cond.instanceMethod yX7_readBlock ∈ TB := TB_4 (List.mem_of_getElem? (i := 170) rfl) rfl
theorem wdK_X7_readBlock : Cond.code yX7_readBlock cX7_readBlock 2 (some .boolean) ∈ TB := TB_4 (List.mem_of_getElem? (i := 171) rfl) rfl
theorem wdM_RX7_212 : Cond.methodLink RX7 212 yX7_nest ∈ TB := TB_4 (List.mem_of_getElem? (i := 172) rfl) rfl
theorem wdN_X7_nest : Cond.instanceMethod yX7_nest ∈ TB := TB_4 (List.mem_of_getElem? (i := 174) rfl) rfl
theorem wdK_X7_nest : Cond.code yX7_nest cX7_nest 1 (some .boolean) ∈ TB := TB_4 (List.mem_of_getElem? (i := 175) rfl) rfl
theorem wdM_RX7_215 : Cond.methodLink RX7 215 yX7_readStatement ∈ TB := TB_4 (List.mem_of_getElem? (i := 176) rfl) rfl
theorem wdN_X7_readStatement : Cond.instanceMethod yX7_readStatement ∈ TB := TB_4 (List.mem_of_getElem? (i := 178) rfl) rfl
theorem wdK_X7_readStatement : Cond.code yX7_readStatement cX7_readStatement 1 (some .boolean) ∈ TB := TB_4 (List.mem_of_getElem? (i := 179) rfl) rfl
theorem wdM_RX7_218 : Cond.methodLink RX7 218 yX7_readDo ∈ TB := TB_4 (List.mem_of_getElem? (i := 180) rfl) rfl
theorem wdN_X7_readDo : Cond.instanceMethod yX7_readDo ∈ TB := TB_4 (List.mem_of_getElem? (i := 182) rfl) rfl
theorem wdK_X7_readDo : Cond.code yX7_readDo cX7_readDo 1 (some .boolean) ∈ TB := TB_4 (List.mem_of_getElem? (i := 183) rfl) rfl
theorem wdM_RX7_199 : Cond.methodLink RX7 199 yX0_put ∈ TB := TB_4 (List.mem_of_getElem? (i := 184) rfl) rfl
theorem wdN_X0_put : Cond.instanceMethod yX0_put ∈ TB := TB_4 (List.mem_of_getElem? (i := 185) rfl) rfl
theorem wdS_X0_put : Cond.selects yX0_put.cls yX0_put yX0_put ∈ TB := TB_4 (List.mem_of_getElem? (i := 186) rfl) rfl
theorem wdK_X0_put : Cond.code yX0_put cX0_put 4 (some .int) ∈ TB := TB_4 (List.mem_of_getElem? (i := 187) rfl) rfl
theorem wdM_RX7_221 : Cond.methodLink RX7 221 yX7_readRepeat ∈ TB := TB_4 (List.mem_of_getElem? (i := 188) rfl) rfl
theorem wdN_X7_readRepeat : Cond.instanceMethod yX7_readRepeat ∈ TB := TB_4 (List.mem_of_getElem? (i := 190) rfl) rfl
theorem wdK_X7_readRepeat : Cond.code yX7_readRepeat cX7_readRepeat 2 (some .boolean) ∈ TB := TB_4 (List.mem_of_getElem? (i := 191) rfl) rfl
theorem wdM_RX7_233 : Cond.methodLink RX7 233 yX0_patch ∈ TB := TB_4 (List.mem_of_getElem? (i := 192) rfl) rfl
theorem wdN_X0_patch : Cond.instanceMethod yX0_patch ∈ TB := TB_4 (List.mem_of_getElem? (i := 193) rfl) rfl
theorem wdS_X0_patch : Cond.selects yX0_patch.cls yX0_patch yX0_patch ∈ TB := TB_4 (List.mem_of_getElem? (i := 194) rfl) rfl
theorem wdK_X0_patch : Cond.code yX0_patch cX0_patch 3 none ∈ TB := TB_4 (List.mem_of_getElem? (i := 195) rfl) rfl
theorem wdM_RX0_73 : Cond.methodLink RX0 73 yX0_kindAt ∈ TB := TB_4 (List.mem_of_getElem? (i := 196) rfl) rfl
theorem wdN_X0_kindAt : Cond.instanceMethod yX0_kindAt ∈ TB := TB_4 (List.mem_of_getElem? (i := 197) rfl) rfl
theorem wdS_X0_kindAt : Cond.selects yX0_kindAt.cls yX0_kindAt yX0_kindAt ∈ TB := TB_4 (List.mem_of_getElem? (i := 198) rfl) rfl
theorem wdK_X0_kindAt : Cond.code yX0_kindAt cX0_kindAt 2 (some .int) ∈ TB := TB_4 (List.mem_of_getElem? (i := 199) rfl) rfl
theorem wdM_RX7_224 : Cond.methodLink RX7 224 yX7_readUntil ∈ TB := TB_4 (List.mem_of_getElem? (i := 200) rfl) rfl
theorem wdN_X7_readUntil : Cond.instanceMethod yX7_readUntil ∈ TB := TB_4 (List.mem_of_getElem? (i := 202) rfl) rfl
theorem wdK_X7_readUntil : Cond.code yX7_readUntil cX7_readUntil 5 (some .boolean) ∈ TB := TB_4 (List.mem_of_getElem? (i := 203) rfl) rfl
theorem wdM_RX7_236 : Cond.methodLink RX7 236 yX7_putLook ∈ TB := TB_4 (List.mem_of_getElem? (i := 204) rfl) rfl
theorem wdN_X7_putLook : Cond.instanceMethod yX7_putLook ∈ TB := TB_4 (List.mem_of_getElem? (i := 206) rfl) rfl
theorem wdK_X7_putLook : Cond.code yX7_putLook cX7_putLook 1 (some .int) ∈ TB := TB_4 (List.mem_of_getElem? (i := 207) rfl) rfl
theorem wdM_RX7_240 : Cond.methodLink RX7 240 yX7_readEither ∈ TB := TB_4 (List.mem_of_getElem? (i := 208) rfl) rfl
theorem wdN_X7_readEither : Cond.instanceMethod yX7_readEither ∈ TB := TB_4 (List.mem_of_getElem? (i := 210) rfl) rfl
theorem wdK_X7_readEither : Cond.code yX7_readEither cX7_readEither 3 (some .boolean) ∈ TB := TB_4 (List.mem_of_getElem? (i := 211) rfl) rfl
theorem wdM_RX7_247 : Cond.methodLink RX7 247 yX7_readBoth ∈ TB := TB_4 (List.mem_of_getElem? (i := 212) rfl) rfl
theorem wdN_X7_readBoth : Cond.instanceMethod yX7_readBoth ∈ TB := TB_4 (List.mem_of_getElem? (i := 214) rfl) rfl
theorem wdK_X7_readBoth : Cond.code yX7_readBoth cX7_readBoth 3 (some .boolean) ∈ TB := TB_4 (List.mem_of_getElem? (i := 215) rfl) rfl
theorem wdM_RX7_250 : Cond.methodLink RX7 250 yX7_readSingle ∈ TB := TB_4 (List.mem_of_getElem? (i := 216) rfl) rfl
theorem wdN_X7_readSingle : Cond.instanceMethod yX7_readSingle ∈ TB := TB_4 (List.mem_of_getElem? (i := 218) rfl) rfl
theorem wdK_X7_readSingle : Cond.code yX7_readSingle cX7_readSingle 2 (some .boolean) ∈ TB := TB_4 (List.mem_of_getElem? (i := 219) rfl) rfl
theorem wdM_RX7_253 : Cond.methodLink RX7 253 yX7_readTest ∈ TB := TB_4 (List.mem_of_getElem? (i := 220) rfl) rfl
theorem wdN_X7_readTest : Cond.instanceMethod yX7_readTest ∈ TB := TB_4 (List.mem_of_getElem? (i := 222) rfl) rfl
theorem wdK_X7_readTest : Cond.code yX7_readTest cX7_readTest 1 (some .boolean) ∈ TB := TB_4 (List.mem_of_getElem? (i := 223) rfl) rfl
theorem wdM_RX7_259 : Cond.methodLink RX7 259 yX7_readNot ∈ TB := TB_4 (List.mem_of_getElem? (i := 224) rfl) rfl
theorem wdN_X7_readNot : Cond.instanceMethod yX7_readNot ∈ TB := TB_4 (List.mem_of_getElem? (i := 226) rfl) rfl
theorem wdK_X7_readNot : Cond.code yX7_readNot cX7_readNot 2 (some .boolean) ∈ TB := TB_4 (List.mem_of_getElem? (i := 227) rfl) rfl
theorem wdM_RX7_262 : Cond.methodLink RX7 262 yX7_readGroup ∈ TB := TB_4 (List.mem_of_getElem? (i := 228) rfl) rfl
theorem wdN_X7_readGroup : Cond.instanceMethod yX7_readGroup ∈ TB := TB_4 (List.mem_of_getElem? (i := 230) rfl) rfl
theorem wdK_X7_readGroup : Cond.code yX7_readGroup cX7_readGroup 2 (some .boolean) ∈ TB := TB_4 (List.mem_of_getElem? (i := 231) rfl) rfl
theorem wdM_RX7_265 : Cond.methodLink RX7 265 yX7_readForms ∈ TB := TB_4 (List.mem_of_getElem? (i := 232) rfl) rfl
theorem wdN_X7_readForms : Cond.instanceMethod yX7_readForms ∈ TB := TB_4 (List.mem_of_getElem? (i := 234) rfl) rfl
theorem wdK_X7_readForms : Cond.code yX7_readForms cX7_readForms 2 (some .boolean) ∈ TB := TB_4 (List.mem_of_getElem? (i := 235) rfl) rfl
theorem wdM_RX7_256 : Cond.methodLink RX7 256 yX7_readOne ∈ TB := TB_4 (List.mem_of_getElem? (i := 236) rfl) rfl
theorem wdN_X7_readOne : Cond.instanceMethod yX7_readOne ∈ TB := TB_4 (List.mem_of_getElem? (i := 238) rfl) rfl
theorem wdK_X7_readOne : Cond.code yX7_readOne cX7_readOne 4 (some .boolean) ∈ TB := TB_4 (List.mem_of_getElem? (i := 239) rfl) rfl
theorem wdM_RX7_227 : Cond.methodLink RX7 227 yX7_readIf ∈ TB := TB_5 (List.mem_of_getElem? (i := 0) rfl) rfl
theorem wdN_X7_readIf : Cond.instanceMethod yX7_readIf ∈ TB := TB_5 (List.mem_of_getElem? (i := 2) rfl) rfl
theorem wdK_X7_readIf : Cond.code yX7_readIf cX7_readIf 4 (some .boolean) ∈ TB := TB_5 (List.mem_of_getElem? (i := 3) rfl) rfl
theorem wdM_RX7_230 : Cond.methodLink RX7 230 yX7_readFor ∈ TB := TB_5 (List.mem_of_getElem? (i := 4) rfl) rfl
theorem wdN_X7_readFor : Cond.instanceMethod yX7_readFor ∈ TB := TB_5 (List.mem_of_getElem? (i := 6) rfl) rfl
theorem wdK_X7_readFor : Cond.code yX7_readFor cX7_readFor 2 (some .boolean) ∈ TB := TB_5 (List.mem_of_getElem? (i := 7) rfl) rfl
theorem wdM_RX7_55 : Cond.methodLink RX7 55 yX7_readStep ∈ TB := TB_5 (List.mem_of_getElem? (i := 8) rfl) rfl
theorem wdN_X7_readStep : Cond.instanceMethod yX7_readStep ∈ TB := TB_5 (List.mem_of_getElem? (i := 10) rfl) rfl
theorem wdK_X7_readStep : Cond.code yX7_readStep cX7_readStep 2 (some .boolean) ∈ TB := TB_5 (List.mem_of_getElem? (i := 11) rfl) rfl
theorem wdM_RX7_45 : Cond.methodLink RX7 45 yX7_readAllow ∈ TB := TB_5 (List.mem_of_getElem? (i := 12) rfl) rfl
theorem wdN_X7_readAllow : Cond.instanceMethod yX7_readAllow ∈ TB := TB_5 (List.mem_of_getElem? (i := 14) rfl) rfl
theorem wdK_X7_readAllow : Cond.code yX7_readAllow cX7_readAllow 2 (some .boolean) ∈ TB := TB_5 (List.mem_of_getElem? (i := 15) rfl) rfl
theorem wdM_RX7_208 : Cond.methodLink RX7 208 yX0_addAllow ∈ TB := TB_5 (List.mem_of_getElem? (i := 16) rfl) rfl
theorem wdN_X0_addAllow : Cond.instanceMethod yX0_addAllow ∈ TB := TB_5 (List.mem_of_getElem? (i := 17) rfl) rfl
theorem wdS_X0_addAllow : Cond.selects yX0_addAllow.cls yX0_addAllow yX0_addAllow ∈ TB := TB_5 (List.mem_of_getElem? (i := 18) rfl) rfl
theorem wdK_X0_addAllow : Cond.code yX0_addAllow cX0_addAllow 3 none ∈ TB := TB_5 (List.mem_of_getElem? (i := 19) rfl) rfl
theorem wdM_RX7_52 : Cond.methodLink RX7 52 yX7_revert ∈ TB := TB_5 (List.mem_of_getElem? (i := 20) rfl) rfl
theorem wdN_X7_revert : Cond.instanceMethod yX7_revert ∈ TB := TB_5 (List.mem_of_getElem? (i := 22) rfl) rfl
theorem wdK_X7_revert : Cond.code yX7_revert cX7_revert 1 none ∈ TB := TB_5 (List.mem_of_getElem? (i := 23) rfl) rfl
theorem wdM_RX11_124 : Cond.methodLink RX11 124 yX7_wrongPlace ∈ TB := TB_5 (List.mem_of_getElem? (i := 24) rfl) rfl
theorem wdN_X7_wrongPlace : Cond.instanceMethod yX7_wrongPlace ∈ TB := TB_5 (List.mem_of_getElem? (i := 25) rfl) rfl
theorem wdS_X7_wrongPlace : Cond.selects yX7_wrongPlace.cls yX7_wrongPlace yX7_wrongPlace ∈ TB := TB_5 (List.mem_of_getElem? (i := 26) rfl) rfl
theorem wdK_X7_wrongPlace : Cond.code yX7_wrongPlace cX7_wrongPlace 1 (some .int) ∈ TB := TB_5 (List.mem_of_getElem? (i := 27) rfl) rfl
theorem wdM_RX7_80 : Cond.methodLink RX7 80 yX10_startOf ∈ TB := TB_5 (List.mem_of_getElem? (i := 28) rfl) rfl
theorem wdN_X10_startOf : Cond.instanceMethod yX10_startOf ∈ TB := TB_5 (List.mem_of_getElem? (i := 29) rfl) rfl
theorem wdS_X10_startOf : Cond.selects yX10_startOf.cls yX10_startOf yX10_startOf ∈ TB := TB_5 (List.mem_of_getElem? (i := 30) rfl) rfl
theorem wdK_X10_startOf : Cond.code yX10_startOf cX10_startOf 2 (some .int) ∈ TB := TB_5 (List.mem_of_getElem? (i := 31) rfl) rfl
theorem wdM_RL_28 : Cond.methodLink RL 28 yX11_call ∈ TB := TB_5 (List.mem_of_getElem? (i := 32) rfl) rfl
theorem wdN_X11_call : Cond.instanceMethod yX11_call ∈ TB := TB_5 (List.mem_of_getElem? (i := 33) rfl) rfl
theorem wdS_X11_call : Cond.selects yX11_call.cls yX11_call yX11_call ∈ TB := TB_5 (List.mem_of_getElem? (i := 34) rfl) rfl
theorem wdK_X11_call : Cond.code yX11_call cX11_call 3 (some .int) ∈ TB := TB_5 (List.mem_of_getElem? (i := 35) rfl) rfl
theorem wdM_RX11_131 : Cond.methodLink RX11 131 yX7_readCall ∈ TB := TB_5 (List.mem_of_getElem? (i := 36) rfl) rfl
theorem wdN_X7_readCall : Cond.instanceMethod yX7_readCall ∈ TB := TB_5 (List.mem_of_getElem? (i := 37) rfl) rfl
theorem wdS_X7_readCall : Cond.selects yX7_readCall.cls yX7_readCall yX7_readCall ∈ TB := TB_5 (List.mem_of_getElem? (i := 38) rfl) rfl
theorem wdK_X7_readCall : Cond.code yX7_readCall cX7_readCall 1 none ∈ TB := TB_5 (List.mem_of_getElem? (i := 39) rfl) rfl
theorem wdM_RX11_134 : Cond.methodLink RX11 134 yX11_danceAt ∈ TB := TB_5 (List.mem_of_getElem? (i := 40) rfl) rfl
theorem wdN_X11_danceAt : Cond.instanceMethod yX11_danceAt ∈ TB := TB_5 (List.mem_of_getElem? (i := 42) rfl) rfl
theorem wdK_X11_danceAt : Cond.code yX11_danceAt cX11_danceAt 3 (some .int) ∈ TB := TB_5 (List.mem_of_getElem? (i := 43) rfl) rfl
theorem wdM_RX11_173 : Cond.methodLink RX11 173 yX3_everybody ∈ TB := TB_5 (List.mem_of_getElem? (i := 44) rfl) rfl
theorem wdN_X3_everybody : Cond.instanceMethod yX3_everybody ∈ TB := TB_5 (List.mem_of_getElem? (i := 45) rfl) rfl
theorem wdS_X3_everybody : Cond.selects yX3_everybody.cls yX3_everybody yX3_everybody ∈ TB := TB_5 (List.mem_of_getElem? (i := 46) rfl) rfl
theorem wdK_X3_everybody : Cond.code yX3_everybody cX3_everybody 1 (some .long) ∈ TB := TB_5 (List.mem_of_getElem? (i := 47) rfl) rfl
theorem wdL_RX3_81 : Cond.constantLong RX3 81 (-1) ∈ TB := TB_5 (List.mem_of_getElem? (i := 48) rfl) rfl
theorem wdM_RX11_217 : Cond.methodLink RX11 217 yX1_attempt ∈ TB := TB_5 (List.mem_of_getElem? (i := 49) rfl) rfl
theorem wdN_X1_attempt : Cond.instanceMethod yX1_attempt ∈ TB := TB_5 (List.mem_of_getElem? (i := 50) rfl) rfl
theorem wdS_X1_attempt : Cond.selects yX1_attempt.cls yX1_attempt yX1_attempt ∈ TB := TB_5 (List.mem_of_getElem? (i := 51) rfl) rfl
theorem wdK_X1_attempt : Cond.code yX1_attempt cX1_attempt 10 (some .int) ∈ TB := TB_5 (List.mem_of_getElem? (i := 52) rfl) rfl
theorem wdM_RX1_59 : Cond.methodLink RX1 59 yX0_kindAt ∈ TB := TB_5 (List.mem_of_getElem? (i := 53) rfl) rfl
theorem wdM_RX1_125 : Cond.methodLink RX1 125 yX1_evaluate ∈ TB := TB_5 (List.mem_of_getElem? (i := 54) rfl) rfl
theorem wdN_X1_evaluate : Cond.instanceMethod yX1_evaluate ∈ TB := TB_5 (List.mem_of_getElem? (i := 55) rfl) rfl
theorem wdS_X1_evaluate : Cond.selects yX1_evaluate.cls yX1_evaluate yX1_evaluate ∈ TB := TB_5 (List.mem_of_getElem? (i := 56) rfl) rfl
theorem wdK_X1_evaluate : Cond.code yX1_evaluate cX1_evaluate 10 (some .int) ∈ TB := TB_5 (List.mem_of_getElem? (i := 57) rfl) rfl
theorem wdM_RX1_63 : Cond.methodLink RX1 63 yX0_valueAt ∈ TB := TB_5 (List.mem_of_getElem? (i := 58) rfl) rfl
theorem wdN_X0_valueAt : Cond.instanceMethod yX0_valueAt ∈ TB := TB_5 (List.mem_of_getElem? (i := 59) rfl) rfl
theorem wdS_X0_valueAt : Cond.selects yX0_valueAt.cls yX0_valueAt yX0_valueAt ∈ TB := TB_5 (List.mem_of_getElem? (i := 60) rfl) rfl
theorem wdK_X0_valueAt : Cond.code yX0_valueAt cX0_valueAt 2 (some .int) ∈ TB := TB_5 (List.mem_of_getElem? (i := 61) rfl) rfl
theorem wdM_RX1_66 : Cond.methodLink RX1 66 yJ9_max_7cf53 ∈ TB := TB_5 (List.mem_of_getElem? (i := 62) rfl) rfl
theorem wdM_RX1_72 : Cond.methodLink RX1 72 yX1_joined ∈ TB := TB_5 (List.mem_of_getElem? (i := 63) rfl) rfl
theorem wdT_X1_joined : Cond.static yX1_joined ∈ TB := TB_5 (List.mem_of_getElem? (i := 64) rfl) rfl
theorem wdK_X1_joined : Cond.code yX1_joined cX1_joined 5 (some .long) ∈ TB := TB_5 (List.mem_of_getElem? (i := 65) rfl) rfl
theorem wdL_RX1_76 : Cond.constantLong RX1 76 (-1) ∈ TB := TB_5 (List.mem_of_getElem? (i := 66) rfl) rfl
theorem wdM_RX1_78 : Cond.methodLink RX1 78 yJ13_bitCount_95d88 ∈ TB := TB_5 (List.mem_of_getElem? (i := 67) rfl) rfl
theorem wdT_J13_bitCount_95d88 : Cond.static yJ13_bitCount_95d88 ∈ TB := TB_5 (List.mem_of_getElem? (i := 68) rfl) rfl
theorem wdK_J13_bitCount_95d88 : Cond.code yJ13_bitCount_95d88 cJ13_bitCount_95d88 2 (some .int) ∈ TB := TB_5 (List.mem_of_getElem? (i := 69) rfl) rfl
theorem wdL_RJ13_314 : Cond.constantLong RJ13 314 (6148914691236517205) ∈ TB := TB_5 (List.mem_of_getElem? (i := 70) rfl) rfl
theorem wdL_RJ13_316 : Cond.constantLong RJ13 316 (3689348814741910323) ∈ TB := TB_5 (List.mem_of_getElem? (i := 71) rfl) rfl
theorem wdL_RJ13_318 : Cond.constantLong RJ13 318 (1085102592571150095) ∈ TB := TB_5 (List.mem_of_getElem? (i := 72) rfl) rfl
theorem wdM_RX1_84 : Cond.methodLink RX1 84 yX2_part ∈ TB := TB_5 (List.mem_of_getElem? (i := 73) rfl) rfl
theorem wdN_X2_part : Cond.instanceMethod yX2_part ∈ TB := TB_5 (List.mem_of_getElem? (i := 74) rfl) rfl
theorem wdS_X2_part : Cond.selects yX2_part.cls yX2_part yX2_part ∈ TB := TB_5 (List.mem_of_getElem? (i := 75) rfl) rfl
theorem wdK_X2_part : Cond.code yX2_part cX2_part 12 (some .int) ∈ TB := TB_5 (List.mem_of_getElem? (i := 76) rfl) rfl
theorem wdM_RX2_102 : Cond.methodLink RX2 102 yJ13_bitCount_95d88 ∈ TB := TB_5 (List.mem_of_getElem? (i := 77) rfl) rfl
theorem wdM_RX2_108 : Cond.methodLink RX2 108 yX3_firstOf ∈ TB := TB_5 (List.mem_of_getElem? (i := 78) rfl) rfl
theorem wdN_X3_firstOf : Cond.instanceMethod yX3_firstOf ∈ TB := TB_5 (List.mem_of_getElem? (i := 79) rfl) rfl
theorem wdS_X3_firstOf : Cond.selects yX3_firstOf.cls yX3_firstOf yX3_firstOf ∈ TB := TB_5 (List.mem_of_getElem? (i := 80) rfl) rfl
theorem wdK_X3_firstOf : Cond.code yX3_firstOf cX3_firstOf 5 (some .int) ∈ TB := TB_5 (List.mem_of_getElem? (i := 81) rfl) rfl
theorem wdM_RX2_89 : Cond.methodLink RX2 89 yX2_membersOf ∈ TB := TB_5 (List.mem_of_getElem? (i := 82) rfl) rfl
theorem wdN_X2_membersOf : Cond.instanceMethod yX2_membersOf ∈ TB := TB_5 (List.mem_of_getElem? (i := 84) rfl) rfl
theorem wdK_X2_membersOf : Cond.code yX2_membersOf cX2_membersOf 19 (some .long) ∈ TB := TB_5 (List.mem_of_getElem? (i := 85) rfl) rfl
theorem wdM_RX2_52 : Cond.methodLink RX2 52 yX3_whoIsAt ∈ TB := TB_5 (List.mem_of_getElem? (i := 86) rfl) rfl
theorem wdN_X3_whoIsAt : Cond.instanceMethod yX3_whoIsAt ∈ TB := TB_5 (List.mem_of_getElem? (i := 87) rfl) rfl
theorem wdS_X3_whoIsAt : Cond.selects yX3_whoIsAt.cls yX3_whoIsAt yX3_whoIsAt ∈ TB := TB_5 (List.mem_of_getElem? (i := 88) rfl) rfl
theorem wdK_X3_whoIsAt : Cond.code yX3_whoIsAt cX3_whoIsAt 3 (some .int) ∈ TB := TB_5 (List.mem_of_getElem? (i := 89) rfl) rfl
theorem wdL_RX2_93 : Cond.constantLong RX2 93 (-1) ∈ TB := TB_5 (List.mem_of_getElem? (i := 90) rfl) rfl
theorem wdM_RX1_88 : Cond.methodLink RX1 88 yJ9_min_7cf53 ∈ TB := TB_5 (List.mem_of_getElem? (i := 91) rfl) rfl
theorem wdM_RX1_91 : Cond.methodLink RX1 91 yX2_findGreedy ∈ TB := TB_5 (List.mem_of_getElem? (i := 92) rfl) rfl
theorem wdN_X2_findGreedy : Cond.instanceMethod yX2_findGreedy ∈ TB := TB_5 (List.mem_of_getElem? (i := 93) rfl) rfl
theorem wdS_X2_findGreedy : Cond.selects yX2_findGreedy.cls yX2_findGreedy yX2_findGreedy ∈ TB := TB_5 (List.mem_of_getElem? (i := 94) rfl) rfl
theorem wdK_X2_findGreedy : Cond.code yX2_findGreedy cX2_findGreedy 15 none ∈ TB := TB_5 (List.mem_of_getElem? (i := 95) rfl) rfl
theorem wdM_RX2_77 : Cond.methodLink RX2 77 yJ7_fill_031fb ∈ TB := TB_5 (List.mem_of_getElem? (i := 96) rfl) rfl
theorem wdT_J7_fill_031fb : Cond.static yJ7_fill_031fb ∈ TB := TB_5 (List.mem_of_getElem? (i := 97) rfl) rfl
theorem wdK_J7_fill_031fb : Cond.code yJ7_fill_031fb cJ7_fill_031fb 4 none ∈ TB := TB_5 (List.mem_of_getElem? (i := 98) rfl) rfl
theorem wdM_RX2_95 : Cond.methodLink RX2 95 yX2_whoIsIn ∈ TB := TB_5 (List.mem_of_getElem? (i := 99) rfl) rfl
theorem wdN_X2_whoIsIn : Cond.instanceMethod yX2_whoIsIn ∈ TB := TB_5 (List.mem_of_getElem? (i := 100) rfl) rfl
theorem wdS_X2_whoIsIn : Cond.selects yX2_whoIsIn.cls yX2_whoIsIn yX2_whoIsIn ∈ TB := TB_5 (List.mem_of_getElem? (i := 101) rfl) rfl
theorem wdK_X2_whoIsIn : Cond.code yX2_whoIsIn cX2_whoIsIn 8 (some .int) ∈ TB := TB_5 (List.mem_of_getElem? (i := 102) rfl) rfl
theorem wdM_RX1_95 : Cond.methodLink RX1 95 yX2_inGreedy ∈ TB := TB_5 (List.mem_of_getElem? (i := 103) rfl) rfl
theorem wdN_X2_inGreedy : Cond.instanceMethod yX2_inGreedy ∈ TB := TB_5 (List.mem_of_getElem? (i := 104) rfl) rfl
theorem wdS_X2_inGreedy : Cond.selects yX2_inGreedy.cls yX2_inGreedy yX2_inGreedy ∈ TB := TB_5 (List.mem_of_getElem? (i := 105) rfl) rfl
theorem wdK_X2_inGreedy : Cond.code yX2_inGreedy cX2_inGreedy 8 (some .long) ∈ TB := TB_5 (List.mem_of_getElem? (i := 106) rfl) rfl
theorem wdM_RX1_104 : Cond.methodLink RX1 104 yX3_isAt ∈ TB := TB_5 (List.mem_of_getElem? (i := 107) rfl) rfl
theorem wdN_X3_isAt : Cond.instanceMethod yX3_isAt ∈ TB := TB_5 (List.mem_of_getElem? (i := 108) rfl) rfl
theorem wdS_X3_isAt : Cond.selects yX3_isAt.cls yX3_isAt yX3_isAt ∈ TB := TB_5 (List.mem_of_getElem? (i := 109) rfl) rfl
theorem wdK_X3_isAt : Cond.code yX3_isAt cX3_isAt 3 (some .boolean) ∈ TB := TB_5 (List.mem_of_getElem? (i := 110) rfl) rfl
theorem wdM_RX1_108 : Cond.methodLink RX1 108 yX1_plainly ∈ TB := TB_5 (List.mem_of_getElem? (i := 111) rfl) rfl
theorem wdT_X1_plainly : Cond.static yX1_plainly ∈ TB := TB_5 (List.mem_of_getElem? (i := 112) rfl) rfl
theorem wdK_X1_plainly : Cond.code yX1_plainly cX1_plainly 3 (some .long) ∈ TB := TB_5 (List.mem_of_getElem? (i := 113) rfl) rfl
theorem wdL_RX1_112 : Cond.constantLong RX1 112 (6148914691236517205) ∈ TB := TB_5 (List.mem_of_getElem? (i := 114) rfl) rfl
theorem wdL_RX1_114 : Cond.constantLong RX1 114 (-6148914691236517206) ∈ TB := TB_5 (List.mem_of_getElem? (i := 115) rfl) rfl
theorem wdL_RX1_116 : Cond.constantLong RX1 116 (3689348814741910323) ∈ TB := TB_5 (List.mem_of_getElem? (i := 116) rfl) rfl
theorem wdL_RX1_118 : Cond.constantLong RX1 118 (-3689348814741910324) ∈ TB := TB_5 (List.mem_of_getElem? (i := 117) rfl) rfl
theorem wdL_RX1_120 : Cond.constantLong RX1 120 (3) ∈ TB := TB_5 (List.mem_of_getElem? (i := 118) rfl) rfl
theorem wdM_RX1_132 : Cond.methodLink RX1 132 yX1_stayAll ∈ TB := TB_5 (List.mem_of_getElem? (i := 119) rfl) rfl
theorem wdN_X1_stayAll : Cond.instanceMethod yX1_stayAll ∈ TB := TB_5 (List.mem_of_getElem? (i := 121) rfl) rfl
theorem wdK_X1_stayAll : Cond.code yX1_stayAll cX1_stayAll 3 none ∈ TB := TB_5 (List.mem_of_getElem? (i := 122) rfl) rfl
theorem wdM_RX1_139 : Cond.methodLink RX1 139 yX1_move ∈ TB := TB_5 (List.mem_of_getElem? (i := 123) rfl) rfl
theorem wdN_X1_move : Cond.instanceMethod yX1_move ∈ TB := TB_5 (List.mem_of_getElem? (i := 125) rfl) rfl
theorem wdK_X1_move : Cond.code yX1_move cX1_move 10 (some .boolean) ∈ TB := TB_5 (List.mem_of_getElem? (i := 126) rfl) rfl
theorem wdM_RX1_173 : Cond.methodLink RX1 173 yX1_blame ∈ TB := TB_5 (List.mem_of_getElem? (i := 127) rfl) rfl
theorem wdN_X1_blame : Cond.instanceMethod yX1_blame ∈ TB := TB_5 (List.mem_of_getElem? (i := 129) rfl) rfl
theorem wdK_X1_blame : Cond.code yX1_blame cX1_blame 4 (some .boolean) ∈ TB := TB_5 (List.mem_of_getElem? (i := 130) rfl) rfl
theorem wdM_RX1_177 : Cond.methodLink RX1 177 yX1_leastOf ∈ TB := TB_5 (List.mem_of_getElem? (i := 131) rfl) rfl
theorem wdT_X1_leastOf : Cond.static yX1_leastOf ∈ TB := TB_5 (List.mem_of_getElem? (i := 132) rfl) rfl
theorem wdK_X1_leastOf : Cond.code yX1_leastOf cX1_leastOf 4 (some .int) ∈ TB := TB_5 (List.mem_of_getElem? (i := 133) rfl) rfl
theorem wdM_RX1_184 : Cond.methodLink RX1 184 yX3_firstDancerOf ∈ TB := TB_5 (List.mem_of_getElem? (i := 134) rfl) rfl
theorem wdN_X3_firstDancerOf : Cond.instanceMethod yX3_firstDancerOf ∈ TB := TB_5 (List.mem_of_getElem? (i := 135) rfl) rfl
theorem wdS_X3_firstDancerOf : Cond.selects yX3_firstDancerOf.cls yX3_firstDancerOf yX3_firstDancerOf ∈ TB := TB_5 (List.mem_of_getElem? (i := 136) rfl) rfl
theorem wdK_X3_firstDancerOf : Cond.code yX3_firstDancerOf cX3_firstDancerOf 4 (some .int) ∈ TB := TB_5 (List.mem_of_getElem? (i := 137) rfl) rfl
theorem wdM_RX3_83 : Cond.methodLink RX3 83 yX3_firstOf ∈ TB := TB_5 (List.mem_of_getElem? (i := 138) rfl) rfl
theorem wdM_RX1_190 : Cond.methodLink RX1 190 yX2_copyAt ∈ TB := TB_5 (List.mem_of_getElem? (i := 139) rfl) rfl
theorem wdN_X2_copyAt : Cond.instanceMethod yX2_copyAt ∈ TB := TB_5 (List.mem_of_getElem? (i := 140) rfl) rfl
theorem wdS_X2_copyAt : Cond.selects yX2_copyAt.cls yX2_copyAt yX2_copyAt ∈ TB := TB_5 (List.mem_of_getElem? (i := 141) rfl) rfl
theorem wdK_X2_copyAt : Cond.code yX2_copyAt cX2_copyAt 2 (some .int) ∈ TB := TB_5 (List.mem_of_getElem? (i := 142) rfl) rfl
theorem wdM_RX1_196 : Cond.methodLink RX1 196 yX2_firstAt ∈ TB := TB_5 (List.mem_of_getElem? (i := 143) rfl) rfl
theorem wdN_X2_firstAt : Cond.instanceMethod yX2_firstAt ∈ TB := TB_5 (List.mem_of_getElem? (i := 144) rfl) rfl
theorem wdS_X2_firstAt : Cond.selects yX2_firstAt.cls yX2_firstAt yX2_firstAt ∈ TB := TB_5 (List.mem_of_getElem? (i := 145) rfl) rfl
theorem wdK_X2_firstAt : Cond.code yX2_firstAt cX2_firstAt 2 (some .int) ∈ TB := TB_5 (List.mem_of_getElem? (i := 146) rfl) rfl
theorem wdM_RX1_199 : Cond.methodLink RX1 199 yX1_moveCopy ∈ TB := TB_5 (List.mem_of_getElem? (i := 147) rfl) rfl
theorem wdN_X1_moveCopy : Cond.instanceMethod yX1_moveCopy ∈ TB := TB_5 (List.mem_of_getElem? (i := 149) rfl) rfl
theorem wdK_X1_moveCopy : Cond.code yX1_moveCopy cX1_moveCopy 13 none ∈ TB := TB_5 (List.mem_of_getElem? (i := 150) rfl) rfl
theorem wdM_RX1_212 : Cond.methodLink RX1 212 yX2_whoIsIn ∈ TB := TB_5 (List.mem_of_getElem? (i := 151) rfl) rfl
theorem wdM_RX1_222 : Cond.methodLink RX1 222 yX0_turnedX ∈ TB := TB_5 (List.mem_of_getElem? (i := 152) rfl) rfl
theorem wdM_RX1_226 : Cond.methodLink RX1 226 yX0_turnedY ∈ TB := TB_5 (List.mem_of_getElem? (i := 153) rfl) rfl
theorem wdM_RX1_152 : Cond.methodLink RX1 152 yX1_land ∈ TB := TB_5 (List.mem_of_getElem? (i := 154) rfl) rfl
theorem wdN_X1_land : Cond.instanceMethod yX1_land ∈ TB := TB_5 (List.mem_of_getElem? (i := 156) rfl) rfl
theorem wdK_X1_land : Cond.code yX1_land cX1_land 5 (some .int) ∈ TB := TB_5 (List.mem_of_getElem? (i := 157) rfl) rfl
theorem wdM_RX1_232 : Cond.methodLink RX1 232 yX1_square ∈ TB := TB_5 (List.mem_of_getElem? (i := 158) rfl) rfl
theorem wdN_X1_square : Cond.instanceMethod yX1_square ∈ TB := TB_5 (List.mem_of_getElem? (i := 160) rfl) rfl
theorem wdK_X1_square : Cond.code yX1_square cX1_square 8 none ∈ TB := TB_5 (List.mem_of_getElem? (i := 161) rfl) rfl
theorem wdM_RX1_238 : Cond.methodLink RX1 238 yX3_codeOf ∈ TB := TB_5 (List.mem_of_getElem? (i := 162) rfl) rfl
theorem wdM_RX11_192 : Cond.methodLink RX11 192 yX11_noteFailure ∈ TB := TB_5 (List.mem_of_getElem? (i := 163) rfl) rfl
theorem wdN_X11_noteFailure : Cond.instanceMethod yX11_noteFailure ∈ TB := TB_5 (List.mem_of_getElem? (i := 165) rfl) rfl
theorem wdK_X11_noteFailure : Cond.code yX11_noteFailure cX11_noteFailure 1 none ∈ TB := TB_5 (List.mem_of_getElem? (i := 166) rfl) rfl
theorem wdM_RX11_181 : Cond.methodLink RX11 181 yX4_note ∈ TB := TB_5 (List.mem_of_getElem? (i := 167) rfl) rfl
theorem wdN_X4_note : Cond.instanceMethod yX4_note ∈ TB := TB_5 (List.mem_of_getElem? (i := 168) rfl) rfl
theorem wdS_X4_note : Cond.selects yX4_note.cls yX4_note yX4_note ∈ TB := TB_5 (List.mem_of_getElem? (i := 169) rfl) rfl
theorem wdK_X4_note : Cond.code yX4_note cX4_note 6 none ∈ TB := TB_5 (List.mem_of_getElem? (i := 170) rfl) rfl
theorem wdI_RX5 : Cond.instantiable RX5 8 ∈ TB := TB_5 (List.mem_of_getElem? (i := 171) rfl) rfl
theorem wdN_X5_init : Cond.instanceMethod yX5_init ∈ TB := TB_5 (List.mem_of_getElem? (i := 173) rfl) rfl
theorem wdK_X5_init : Cond.code yX5_init cX5_init 1 none ∈ TB := TB_5 (List.mem_of_getElem? (i := 174) rfl) rfl
theorem wdM_RX5_3 : Cond.methodLink RX5 3 objectInit ∈ TB := TB_5 (List.mem_of_getElem? (i := 175) rfl) rfl
theorem wdF_RX5_9 : Cond.fieldLink RX5 9 "CallerHall$Moment" "dancers" "[I" ∈ TB := TB_5 (List.mem_of_getElem? (i := 176) rfl) rfl
theorem wdF_RX5_38 : Cond.fieldLink RX5 38 "CallerHall$Moment" "live" "Z" ∈ TB := TB_5 (List.mem_of_getElem? (i := 177) rfl) rfl
theorem wdF_RX5_42 : Cond.fieldLink RX5 42 "CallerHall$Moment" "place" "I" ∈ TB := TB_5 (List.mem_of_getElem? (i := 178) rfl) rfl
theorem wdF_RX5_47 : Cond.fieldLink RX5 47 "CallerHall$Moment" "scope" "J" ∈ TB := TB_5 (List.mem_of_getElem? (i := 179) rfl) rfl
theorem wdF_RX5_15 : Cond.fieldLink RX5 15 "CallerHall$Moment" "open" "[J" ∈ TB := TB_5 (List.mem_of_getElem? (i := 180) rfl) rfl
theorem wdF_RX5_51 : Cond.fieldLink RX5 51 "CallerHall$Moment" "depth" "I" ∈ TB := TB_5 (List.mem_of_getElem? (i := 181) rfl) rfl
theorem wdF_RX4_27 : Cond.fieldLink RX4 27 "CallerHall$Moment" "beats" "I" ∈ TB := TB_5 (List.mem_of_getElem? (i := 182) rfl) rfl
theorem wdF_RX11_206 : Cond.fieldLink RX11 206 "CallerHall$Moment" "beats" "I" ∈ TB := TB_5 (List.mem_of_getElem? (i := 183) rfl) rfl
theorem wdF_RX4_30 : Cond.fieldLink RX4 30 "CallerHall$Moment" "steps" "I" ∈ TB := TB_5 (List.mem_of_getElem? (i := 184) rfl) rfl
theorem wdF_RX11_207 : Cond.fieldLink RX11 207 "CallerHall$Moment" "steps" "I" ∈ TB := TB_5 (List.mem_of_getElem? (i := 185) rfl) rfl
theorem wdY_X5_0 : u_lay RX5 TX5 0 ∈ TB := TB_5 (List.mem_of_getElem? (i := 186) rfl) rfl
theorem wdY_X5_1 : u_lay RX5 TX5 1 ∈ TB := TB_5 (List.mem_of_getElem? (i := 188) rfl) rfl
theorem wdY_X5_2 : u_lay RX5 TX5 2 ∈ TB := TB_5 (List.mem_of_getElem? (i := 190) rfl) rfl
theorem wdY_X5_3 : u_lay RX5 TX5 3 ∈ TB := TB_5 (List.mem_of_getElem? (i := 192) rfl) rfl
theorem wdY_X5_4 : u_lay RX5 TX5 4 ∈ TB := TB_5 (List.mem_of_getElem? (i := 194) rfl) rfl
theorem wdY_X5_5 : u_lay RX5 TX5 5 ∈ TB := TB_5 (List.mem_of_getElem? (i := 196) rfl) rfl
theorem wdY_X5_6 : u_lay RX5 TX5 6 ∈ TB := TB_5 (List.mem_of_getElem? (i := 198) rfl) rfl
theorem wdY_X5_7 : u_lay RX5 TX5 7 ∈ TB := TB_5 (List.mem_of_getElem? (i := 200) rfl) rfl
theorem wdM_RX4_23 : Cond.methodLink RX4 23 yX5_note ∈ TB := TB_5 (List.mem_of_getElem? (i := 203) rfl) rfl
theorem wdN_X5_note : Cond.instanceMethod yX5_note ∈ TB := TB_5 (List.mem_of_getElem? (i := 204) rfl) rfl
theorem wdS_X5_note : Cond.selects yX5_note.cls yX5_note yX5_note ∈ TB := TB_5 (List.mem_of_getElem? (i := 205) rfl) rfl
theorem wdK_X5_note : Cond.code yX5_note cX5_note 4 none ∈ TB := TB_5 (List.mem_of_getElem? (i := 206) rfl) rfl
theorem wdM_RX5_28 : Cond.methodLink RX5 28 yX3_codeAt ∈ TB := TB_5 (List.mem_of_getElem? (i := 207) rfl) rfl
theorem wdM_RX5_53 : Cond.methodLink RX5 53 ⟨"java/lang/System", "arraycopy", "(Ljava/lang/Object;ILjava/lang/Object;II)V"⟩ ∈ TB := TB_5 (List.mem_of_getElem? (i := 208) rfl) rfl
theorem wdM_RX11_289 : Cond.methodLink RX11 289 yX1_settle ∈ TB := TB_5 (List.mem_of_getElem? (i := 209) rfl) rfl
theorem wdN_X1_settle : Cond.instanceMethod yX1_settle ∈ TB := TB_5 (List.mem_of_getElem? (i := 210) rfl) rfl
theorem wdS_X1_settle : Cond.selects yX1_settle.cls yX1_settle yX1_settle ∈ TB := TB_5 (List.mem_of_getElem? (i := 211) rfl) rfl
theorem wdK_X1_settle : Cond.code yX1_settle cX1_settle 3 none ∈ TB := TB_5 (List.mem_of_getElem? (i := 212) rfl) rfl
theorem wdM_RX1_158 : Cond.methodLink RX1 158 yX3_place ∈ TB := TB_5 (List.mem_of_getElem? (i := 213) rfl) rfl
theorem wdM_RX11_189 : Cond.methodLink RX11 189 yX11_countStep ∈ TB := TB_5 (List.mem_of_getElem? (i := 214) rfl) rfl
theorem wdN_X11_countStep : Cond.instanceMethod yX11_countStep ∈ TB := TB_5 (List.mem_of_getElem? (i := 216) rfl) rfl
theorem wdK_X11_countStep : Cond.code yX11_countStep cX11_countStep 1 none ∈ TB := TB_5 (List.mem_of_getElem? (i := 217) rfl) rfl
theorem wdM_RX11_293 : Cond.methodLink RX11 293 yX4_keep ∈ TB := TB_5 (List.mem_of_getElem? (i := 218) rfl) rfl
theorem wdN_X4_keep : Cond.instanceMethod yX4_keep ∈ TB := TB_5 (List.mem_of_getElem? (i := 219) rfl) rfl
theorem wdS_X4_keep : Cond.selects yX4_keep.cls yX4_keep yX4_keep ∈ TB := TB_5 (List.mem_of_getElem? (i := 220) rfl) rfl
theorem wdK_X4_keep : Cond.code yX4_keep cX4_keep 1 none ∈ TB := TB_5 (List.mem_of_getElem? (i := 221) rfl) rfl
theorem wdM_RX4_33 : Cond.methodLink RX4 33 yJ9_min_7cf53 ∈ TB := TB_5 (List.mem_of_getElem? (i := 222) rfl) rfl
theorem wdM_RL_32 : Cond.methodLink RL 32 yX11_fault ∈ TB := TB_5 (List.mem_of_getElem? (i := 223) rfl) rfl
theorem wdN_X11_fault : Cond.instanceMethod yX11_fault ∈ TB := TB_5 (List.mem_of_getElem? (i := 224) rfl) rfl
theorem wdS_X11_fault : Cond.selects yX11_fault.cls yX11_fault yX11_fault ∈ TB := TB_5 (List.mem_of_getElem? (i := 225) rfl) rfl
theorem wdK_X11_fault : Cond.code yX11_fault cX11_fault 1 (some .int) ∈ TB := TB_5 (List.mem_of_getElem? (i := 226) rfl) rfl
theorem wdM_RL_36 : Cond.methodLink RL 36 yX11_named ∈ TB := TB_5 (List.mem_of_getElem? (i := 227) rfl) rfl
theorem wdN_X11_named : Cond.instanceMethod yX11_named ∈ TB := TB_5 (List.mem_of_getElem? (i := 228) rfl) rfl
theorem wdS_X11_named : Cond.selects yX11_named.cls yX11_named yX11_named ∈ TB := TB_5 (List.mem_of_getElem? (i := 229) rfl) rfl
theorem wdK_X11_named : Cond.code yX11_named cX11_named 2 (some .int) ∈ TB := TB_5 (List.mem_of_getElem? (i := 230) rfl) rfl
theorem wdM_RX11_138 : Cond.methodLink RX11 138 yX7_readName ∈ TB := TB_5 (List.mem_of_getElem? (i := 231) rfl) rfl
theorem wdN_X7_readName : Cond.instanceMethod yX7_readName ∈ TB := TB_5 (List.mem_of_getElem? (i := 232) rfl) rfl
theorem wdS_X7_readName : Cond.selects yX7_readName.cls yX7_readName yX7_readName ∈ TB := TB_5 (List.mem_of_getElem? (i := 233) rfl) rfl
theorem wdK_X7_readName : Cond.code yX7_readName cX7_readName 1 none ∈ TB := TB_5 (List.mem_of_getElem? (i := 234) rfl) rfl
theorem wdM_RX11_141 : Cond.methodLink RX11 141 yX7_numberOfName ∈ TB := TB_5 (List.mem_of_getElem? (i := 235) rfl) rfl
theorem wdN_X7_numberOfName : Cond.instanceMethod yX7_numberOfName ∈ TB := TB_5 (List.mem_of_getElem? (i := 236) rfl) rfl
theorem wdS_X7_numberOfName : Cond.selects yX7_numberOfName.cls yX7_numberOfName yX7_numberOfName ∈ TB := TB_5 (List.mem_of_getElem? (i := 237) rfl) rfl
theorem wdK_X7_numberOfName : Cond.code yX7_numberOfName cX7_numberOfName 2 (some .int) ∈ TB := TB_5 (List.mem_of_getElem? (i := 238) rfl) rfl
theorem wdM_RL_41 : Cond.methodLink RL 41 yX11_set ∈ TB := TB_5 (List.mem_of_getElem? (i := 239) rfl) rfl
theorem wdN_X11_set : Cond.instanceMethod yX11_set ∈ TB := TB_6 (List.mem_of_getElem? (i := 0) rfl) rfl
theorem wdS_X11_set : Cond.selects yX11_set.cls yX11_set yX11_set ∈ TB := TB_6 (List.mem_of_getElem? (i := 1) rfl) rfl
theorem wdK_X11_set : Cond.code yX11_set cX11_set 3 (some .boolean) ∈ TB := TB_6 (List.mem_of_getElem? (i := 2) rfl) rfl
theorem wdM_RX11_144 : Cond.methodLink RX11 144 yX3_isSet ∈ TB := TB_6 (List.mem_of_getElem? (i := 3) rfl) rfl
theorem wdT_X3_isSet : Cond.static yX3_isSet ∈ TB := TB_6 (List.mem_of_getElem? (i := 4) rfl) rfl
theorem wdK_X3_isSet : Cond.code yX3_isSet cX3_isSet 2 (some .boolean) ∈ TB := TB_6 (List.mem_of_getElem? (i := 5) rfl) rfl
theorem wdM_RX11_148 : Cond.methodLink RX11 148 yX4_clear ∈ TB := TB_6 (List.mem_of_getElem? (i := 6) rfl) rfl
theorem wdN_X4_clear : Cond.instanceMethod yX4_clear ∈ TB := TB_6 (List.mem_of_getElem? (i := 7) rfl) rfl
theorem wdS_X4_clear : Cond.selects yX4_clear.cls yX4_clear yX4_clear ∈ TB := TB_6 (List.mem_of_getElem? (i := 8) rfl) rfl
theorem wdK_X4_clear : Cond.code yX4_clear cX4_clear 1 none ∈ TB := TB_6 (List.mem_of_getElem? (i := 9) rfl) rfl
theorem wdM_RX11_155 : Cond.methodLink RX11 155 yX9_forget ∈ TB := TB_6 (List.mem_of_getElem? (i := 10) rfl) rfl
theorem wdN_X9_forget : Cond.instanceMethod yX9_forget ∈ TB := TB_6 (List.mem_of_getElem? (i := 11) rfl) rfl
theorem wdS_X9_forget : Cond.selects yX9_forget.cls yX9_forget yX9_forget ∈ TB := TB_6 (List.mem_of_getElem? (i := 12) rfl) rfl
theorem wdK_X9_forget : Cond.code yX9_forget cX9_forget 1 none ∈ TB := TB_6 (List.mem_of_getElem? (i := 13) rfl) rfl
theorem wdM_RL_46 : Cond.methodLink RL 46 yX11_mark ∈ TB := TB_6 (List.mem_of_getElem? (i := 14) rfl) rfl
theorem wdN_X11_mark : Cond.instanceMethod yX11_mark ∈ TB := TB_6 (List.mem_of_getElem? (i := 15) rfl) rfl
theorem wdS_X11_mark : Cond.selects yX11_mark.cls yX11_mark yX11_mark ∈ TB := TB_6 (List.mem_of_getElem? (i := 16) rfl) rfl
theorem wdK_X11_mark : Cond.code yX11_mark cX11_mark 1 none ∈ TB := TB_6 (List.mem_of_getElem? (i := 17) rfl) rfl
theorem wdM_RL_50 : Cond.methodLink RL 50 yX11_begin ∈ TB := TB_6 (List.mem_of_getElem? (i := 18) rfl) rfl
theorem wdN_X11_begin : Cond.instanceMethod yX11_begin ∈ TB := TB_6 (List.mem_of_getElem? (i := 19) rfl) rfl
theorem wdS_X11_begin : Cond.selects yX11_begin.cls yX11_begin yX11_begin ∈ TB := TB_6 (List.mem_of_getElem? (i := 20) rfl) rfl
theorem wdK_X11_begin : Cond.code yX11_begin cX11_begin 2 (some .boolean) ∈ TB := TB_6 (List.mem_of_getElem? (i := 21) rfl) rfl
theorem wdM_RX11_177 : Cond.methodLink RX11 177 yX8_start ∈ TB := TB_6 (List.mem_of_getElem? (i := 22) rfl) rfl
theorem wdN_X8_start : Cond.instanceMethod yX8_start ∈ TB := TB_6 (List.mem_of_getElem? (i := 23) rfl) rfl
theorem wdS_X8_start : Cond.selects yX8_start.cls yX8_start yX8_start ∈ TB := TB_6 (List.mem_of_getElem? (i := 24) rfl) rfl
theorem wdK_X8_start : Cond.code yX8_start cX8_start 4 none ∈ TB := TB_6 (List.mem_of_getElem? (i := 25) rfl) rfl
theorem wdM_RL_54 : Cond.methodLink RL 54 yX11_step ∈ TB := TB_6 (List.mem_of_getElem? (i := 26) rfl) rfl
theorem wdN_X11_step : Cond.instanceMethod yX11_step ∈ TB := TB_6 (List.mem_of_getElem? (i := 27) rfl) rfl
theorem wdS_X11_step : Cond.selects yX11_step.cls yX11_step yX11_step ∈ TB := TB_6 (List.mem_of_getElem? (i := 28) rfl) rfl
theorem wdK_X11_step : Cond.code yX11_step cX11_step 2 (some .int) ∈ TB := TB_6 (List.mem_of_getElem? (i := 29) rfl) rfl
theorem wdM_RX11_185 : Cond.methodLink RX11 185 yX8_goOn ∈ TB := TB_6 (List.mem_of_getElem? (i := 30) rfl) rfl
theorem wdN_X8_goOn : Cond.instanceMethod yX8_goOn ∈ TB := TB_6 (List.mem_of_getElem? (i := 31) rfl) rfl
theorem wdS_X8_goOn : Cond.selects yX8_goOn.cls yX8_goOn yX8_goOn ∈ TB := TB_6 (List.mem_of_getElem? (i := 32) rfl) rfl
theorem wdK_X8_goOn : Cond.code yX8_goOn cX8_goOn 6 (some .int) ∈ TB := TB_6 (List.mem_of_getElem? (i := 33) rfl) rfl
theorem wdV_RX8_56 : Cond.constant RX8 56 (1000000) ∈ TB := TB_6 (List.mem_of_getElem? (i := 34) rfl) rfl
theorem wdM_RX8_57 : Cond.methodLink RX8 57 yX0_kindAt ∈ TB := TB_6 (List.mem_of_getElem? (i := 35) rfl) rfl
theorem wdM_RX8_61 : Cond.methodLink RX8 61 yX0_valueAt ∈ TB := TB_6 (List.mem_of_getElem? (i := 36) rfl) rfl
theorem wdM_RX8_64 : Cond.methodLink RX8 64 yX8_dance ∈ TB := TB_6 (List.mem_of_getElem? (i := 37) rfl) rfl
theorem wdN_X8_dance : Cond.instanceMethod yX8_dance ∈ TB := TB_6 (List.mem_of_getElem? (i := 39) rfl) rfl
theorem wdK_X8_dance : Cond.code yX8_dance cX8_dance 2 (some .int) ∈ TB := TB_6 (List.mem_of_getElem? (i := 40) rfl) rfl
theorem wdM_RX8_85 : Cond.methodLink RX8 85 yX1_attempt ∈ TB := TB_6 (List.mem_of_getElem? (i := 41) rfl) rfl
theorem wdM_RX8_91 : Cond.methodLink RX8 91 yX1_settle ∈ TB := TB_6 (List.mem_of_getElem? (i := 42) rfl) rfl
theorem wdM_RX8_68 : Cond.methodLink RX8 68 yX8_actsOf ∈ TB := TB_6 (List.mem_of_getElem? (i := 43) rfl) rfl
theorem wdN_X8_actsOf : Cond.instanceMethod yX8_actsOf ∈ TB := TB_6 (List.mem_of_getElem? (i := 45) rfl) rfl
theorem wdK_X8_actsOf : Cond.code yX8_actsOf cX8_actsOf 3 (some .int) ∈ TB := TB_6 (List.mem_of_getElem? (i := 46) rfl) rfl
theorem wdM_RX8_95 : Cond.methodLink RX8 95 yX8_top ∈ TB := TB_6 (List.mem_of_getElem? (i := 47) rfl) rfl
theorem wdN_X8_top : Cond.instanceMethod yX8_top ∈ TB := TB_6 (List.mem_of_getElem? (i := 49) rfl) rfl
theorem wdK_X8_top : Cond.code yX8_top cX8_top 1 (some .long) ∈ TB := TB_6 (List.mem_of_getElem? (i := 50) rfl) rfl
theorem wdM_RX8_72 : Cond.methodLink RX8 72 yX8_count ∈ TB := TB_6 (List.mem_of_getElem? (i := 51) rfl) rfl
theorem wdN_X8_count : Cond.instanceMethod yX8_count ∈ TB := TB_6 (List.mem_of_getElem? (i := 53) rfl) rfl
theorem wdK_X8_count : Cond.code yX8_count cX8_count 2 (some .int) ∈ TB := TB_6 (List.mem_of_getElem? (i := 54) rfl) rfl
theorem wdM_RX8_75 : Cond.methodLink RX8 75 yX1_evaluate ∈ TB := TB_6 (List.mem_of_getElem? (i := 55) rfl) rfl
theorem wdM_RX8_81 : Cond.methodLink RX8 81 yX8_obey ∈ TB := TB_6 (List.mem_of_getElem? (i := 56) rfl) rfl
theorem wdN_X8_obey : Cond.instanceMethod yX8_obey ∈ TB := TB_6 (List.mem_of_getElem? (i := 58) rfl) rfl
theorem wdK_X8_obey : Cond.code yX8_obey cX8_obey 3 none ∈ TB := TB_6 (List.mem_of_getElem? (i := 59) rfl) rfl
theorem wdM_RX8_99 : Cond.methodLink RX8 99 yX8_push ∈ TB := TB_6 (List.mem_of_getElem? (i := 60) rfl) rfl
theorem wdN_X8_push : Cond.instanceMethod yX8_push ∈ TB := TB_6 (List.mem_of_getElem? (i := 62) rfl) rfl
theorem wdK_X8_push : Cond.code yX8_push cX8_push 3 none ∈ TB := TB_6 (List.mem_of_getElem? (i := 63) rfl) rfl
theorem wdM_RX8_103 : Cond.methodLink RX8 103 yX8_pop ∈ TB := TB_6 (List.mem_of_getElem? (i := 64) rfl) rfl
theorem wdN_X8_pop : Cond.instanceMethod yX8_pop ∈ TB := TB_6 (List.mem_of_getElem? (i := 66) rfl) rfl
theorem wdK_X8_pop : Cond.code yX8_pop cX8_pop 3 (some .long) ∈ TB := TB_6 (List.mem_of_getElem? (i := 67) rfl) rfl
theorem wdM_RX8_106 : Cond.methodLink RX8 106 yX8_leaveIf ∈ TB := TB_6 (List.mem_of_getElem? (i := 68) rfl) rfl
theorem wdN_X8_leaveIf : Cond.instanceMethod yX8_leaveIf ∈ TB := TB_6 (List.mem_of_getElem? (i := 70) rfl) rfl
theorem wdK_X8_leaveIf : Cond.code yX8_leaveIf cX8_leaveIf 3 none ∈ TB := TB_6 (List.mem_of_getElem? (i := 71) rfl) rfl
theorem wdM_RX8_110 : Cond.methodLink RX8 110 yX1_value ∈ TB := TB_6 (List.mem_of_getElem? (i := 72) rfl) rfl
theorem wdN_X1_value : Cond.instanceMethod yX1_value ∈ TB := TB_6 (List.mem_of_getElem? (i := 73) rfl) rfl
theorem wdS_X1_value : Cond.selects yX1_value.cls yX1_value yX1_value ∈ TB := TB_6 (List.mem_of_getElem? (i := 74) rfl) rfl
theorem wdK_X1_value : Cond.code yX1_value cX1_value 1 (some .long) ∈ TB := TB_6 (List.mem_of_getElem? (i := 75) rfl) rfl
theorem wdM_RL_58 : Cond.methodLink RL 58 yX11_back ∈ TB := TB_6 (List.mem_of_getElem? (i := 76) rfl) rfl
theorem wdN_X11_back : Cond.instanceMethod yX11_back ∈ TB := TB_6 (List.mem_of_getElem? (i := 77) rfl) rfl
theorem wdS_X11_back : Cond.selects yX11_back.cls yX11_back yX11_back ∈ TB := TB_6 (List.mem_of_getElem? (i := 78) rfl) rfl
theorem wdK_X11_back : Cond.code yX11_back cX11_back 3 (some .boolean) ∈ TB := TB_6 (List.mem_of_getElem? (i := 79) rfl) rfl
theorem wdM_RX11_196 : Cond.methodLink RX11 196 yX4_latest ∈ TB := TB_6 (List.mem_of_getElem? (i := 80) rfl) rfl
theorem wdN_X4_latest : Cond.instanceMethod yX4_latest ∈ TB := TB_6 (List.mem_of_getElem? (i := 81) rfl) rfl
theorem wdS_X4_latest : Cond.selects yX4_latest.cls yX4_latest yX4_latest ∈ TB := TB_6 (List.mem_of_getElem? (i := 82) rfl) rfl
theorem wdK_X4_latest : Cond.code yX4_latest cX4_latest 2 (some (.object "CallerHall$Moment")) ∈ TB := TB_6 (List.mem_of_getElem? (i := 83) rfl) rfl
theorem wdM_RX11_200 : Cond.methodLink RX11 200 yX5_restore ∈ TB := TB_6 (List.mem_of_getElem? (i := 84) rfl) rfl
theorem wdN_X5_restore : Cond.instanceMethod yX5_restore ∈ TB := TB_6 (List.mem_of_getElem? (i := 85) rfl) rfl
theorem wdS_X5_restore : Cond.selects yX5_restore.cls yX5_restore yX5_restore ∈ TB := TB_6 (List.mem_of_getElem? (i := 86) rfl) rfl
theorem wdK_X5_restore : Cond.code yX5_restore cX5_restore 4 none ∈ TB := TB_6 (List.mem_of_getElem? (i := 87) rfl) rfl
theorem wdM_RX5_59 : Cond.methodLink RX5 59 yX3_place ∈ TB := TB_6 (List.mem_of_getElem? (i := 88) rfl) rfl
theorem wdM_RX11_208 : Cond.methodLink RX11 208 yX4_drop ∈ TB := TB_6 (List.mem_of_getElem? (i := 89) rfl) rfl
theorem wdN_X4_drop : Cond.instanceMethod yX4_drop ∈ TB := TB_6 (List.mem_of_getElem? (i := 90) rfl) rfl
theorem wdS_X4_drop : Cond.selects yX4_drop.cls yX4_drop yX4_drop ∈ TB := TB_6 (List.mem_of_getElem? (i := 91) rfl) rfl
theorem wdK_X4_drop : Cond.code yX4_drop cX4_drop 2 none ∈ TB := TB_6 (List.mem_of_getElem? (i := 92) rfl) rfl
theorem wdM_RL_62 : Cond.methodLink RL 62 yX11_failed ∈ TB := TB_6 (List.mem_of_getElem? (i := 93) rfl) rfl
theorem wdN_X11_failed : Cond.instanceMethod yX11_failed ∈ TB := TB_6 (List.mem_of_getElem? (i := 94) rfl) rfl
theorem wdS_X11_failed : Cond.selects yX11_failed.cls yX11_failed yX11_failed ∈ TB := TB_6 (List.mem_of_getElem? (i := 95) rfl) rfl
theorem wdK_X11_failed : Cond.code yX11_failed cX11_failed 2 (some .int) ∈ TB := TB_6 (List.mem_of_getElem? (i := 96) rfl) rfl
theorem wdM_RL_66 : Cond.methodLink RL 66 yX11_may ∈ TB := TB_6 (List.mem_of_getElem? (i := 97) rfl) rfl
theorem wdN_X11_may : Cond.instanceMethod yX11_may ∈ TB := TB_6 (List.mem_of_getElem? (i := 98) rfl) rfl
theorem wdS_X11_may : Cond.selects yX11_may.cls yX11_may yX11_may ∈ TB := TB_6 (List.mem_of_getElem? (i := 99) rfl) rfl
theorem wdK_X11_may : Cond.code yX11_may cX11_may 3 (some .int) ∈ TB := TB_6 (List.mem_of_getElem? (i := 100) rfl) rfl
theorem wdM_RL_70 : Cond.methodLink RL 70 yX11_resolve ∈ TB := TB_6 (List.mem_of_getElem? (i := 101) rfl) rfl
theorem wdN_X11_resolve : Cond.instanceMethod yX11_resolve ∈ TB := TB_6 (List.mem_of_getElem? (i := 102) rfl) rfl
theorem wdS_X11_resolve : Cond.selects yX11_resolve.cls yX11_resolve yX11_resolve ∈ TB := TB_6 (List.mem_of_getElem? (i := 103) rfl) rfl
theorem wdK_X11_resolve : Cond.code yX11_resolve cX11_resolve 2 (some .int) ∈ TB := TB_6 (List.mem_of_getElem? (i := 104) rfl) rfl
theorem wdM_RX11_222 : Cond.methodLink RX11 222 yX9_explore ∈ TB := TB_6 (List.mem_of_getElem? (i := 105) rfl) rfl
theorem wdN_X9_explore : Cond.instanceMethod yX9_explore ∈ TB := TB_6 (List.mem_of_getElem? (i := 106) rfl) rfl
theorem wdS_X9_explore : Cond.selects yX9_explore.cls yX9_explore yX9_explore ∈ TB := TB_6 (List.mem_of_getElem? (i := 107) rfl) rfl
theorem wdK_X9_explore : Cond.code yX9_explore cX9_explore 6 (some .int) ∈ TB := TB_6 (List.mem_of_getElem? (i := 108) rfl) rfl
theorem wdM_RX9_65 : Cond.methodLink RX9 65 yX9_forget ∈ TB := TB_6 (List.mem_of_getElem? (i := 109) rfl) rfl
theorem wdM_RX9_68 : Cond.methodLink RX9 68 yJ7_fill_fb410 ∈ TB := TB_6 (List.mem_of_getElem? (i := 110) rfl) rfl
theorem wdT_J7_fill_fb410 : Cond.static yJ7_fill_fb410 ∈ TB := TB_6 (List.mem_of_getElem? (i := 111) rfl) rfl
theorem wdK_J7_fill_fb410 : Cond.code yJ7_fill_fb410 cJ7_fill_fb410 4 none ∈ TB := TB_6 (List.mem_of_getElem? (i := 112) rfl) rfl
theorem wdM_RX9_85 : Cond.methodLink RX9 85 yX3_copyCodes ∈ TB := TB_6 (List.mem_of_getElem? (i := 113) rfl) rfl
theorem wdM_RX9_92 : Cond.methodLink RX9 92 yX9_pack ∈ TB := TB_6 (List.mem_of_getElem? (i := 114) rfl) rfl
theorem wdN_X9_pack : Cond.instanceMethod yX9_pack ∈ TB := TB_6 (List.mem_of_getElem? (i := 116) rfl) rfl
theorem wdK_X9_pack : Cond.code yX9_pack cX9_pack 6 none ∈ TB := TB_6 (List.mem_of_getElem? (i := 117) rfl) rfl
theorem wdM_RX9_131 : Cond.methodLink RX9 131 yJ7_fill_d0a16 ∈ TB := TB_6 (List.mem_of_getElem? (i := 118) rfl) rfl
theorem wdM_RX9_96 : Cond.methodLink RX9 96 yX9_meet ∈ TB := TB_6 (List.mem_of_getElem? (i := 119) rfl) rfl
theorem wdN_X9_meet : Cond.instanceMethod yX9_meet ∈ TB := TB_6 (List.mem_of_getElem? (i := 121) rfl) rfl
theorem wdK_X9_meet : Cond.code yX9_meet cX9_meet 2 (some .int) ∈ TB := TB_6 (List.mem_of_getElem? (i := 122) rfl) rfl
theorem wdM_RX9_100 : Cond.methodLink RX9 100 yX9_placeOfKey ∈ TB := TB_6 (List.mem_of_getElem? (i := 123) rfl) rfl
theorem wdN_X9_placeOfKey : Cond.instanceMethod yX9_placeOfKey ∈ TB := TB_6 (List.mem_of_getElem? (i := 125) rfl) rfl
theorem wdK_X9_placeOfKey : Cond.code yX9_placeOfKey cX9_placeOfKey 6 (some .int) ∈ TB := TB_6 (List.mem_of_getElem? (i := 126) rfl) rfl
theorem wdL_RX9_134 : Cond.constantLong RX9 134 (31) ∈ TB := TB_6 (List.mem_of_getElem? (i := 127) rfl) rfl
theorem wdL_RX9_136 : Cond.constantLong RX9 136 (-7046029254386353131) ∈ TB := TB_6 (List.mem_of_getElem? (i := 128) rfl) rfl
theorem wdM_RX9_141 : Cond.methodLink RX9 141 ⟨"java/lang/System", "arraycopy", "(Ljava/lang/Object;ILjava/lang/Object;II)V"⟩ ∈ TB := TB_6 (List.mem_of_getElem? (i := 129) rfl) rfl
theorem wdM_RX9_103 : Cond.methodLink RX9 103 yX9_findRows ∈ TB := TB_6 (List.mem_of_getElem? (i := 130) rfl) rfl
theorem wdN_X9_findRows : Cond.instanceMethod yX9_findRows ∈ TB := TB_6 (List.mem_of_getElem? (i := 132) rfl) rfl
theorem wdK_X9_findRows : Cond.code yX9_findRows cX9_findRows 5 none ∈ TB := TB_6 (List.mem_of_getElem? (i := 133) rfl) rfl
theorem wdM_RX9_147 : Cond.methodLink RX9 147 yX9_countWays ∈ TB := TB_6 (List.mem_of_getElem? (i := 134) rfl) rfl
theorem wdN_X9_countWays : Cond.instanceMethod yX9_countWays ∈ TB := TB_6 (List.mem_of_getElem? (i := 136) rfl) rfl
theorem wdK_X9_countWays : Cond.code yX9_countWays cX9_countWays 6 none ∈ TB := TB_6 (List.mem_of_getElem? (i := 137) rfl) rfl
theorem wdM_RX9_150 : Cond.methodLink RX9 150 yX9_onward ∈ TB := TB_6 (List.mem_of_getElem? (i := 138) rfl) rfl
theorem wdN_X9_onward : Cond.instanceMethod yX9_onward ∈ TB := TB_6 (List.mem_of_getElem? (i := 140) rfl) rfl
theorem wdK_X9_onward : Cond.code yX9_onward cX9_onward 6 (some .int) ∈ TB := TB_6 (List.mem_of_getElem? (i := 141) rfl) rfl
theorem wdM_RX9_157 : Cond.methodLink RX9 157 yJ9_min_7cf53 ∈ TB := TB_6 (List.mem_of_getElem? (i := 142) rfl) rfl
theorem wdM_RX9_107 : Cond.methodLink RX9 107 yX9_widen ∈ TB := TB_6 (List.mem_of_getElem? (i := 143) rfl) rfl
theorem wdN_X9_widen : Cond.instanceMethod yX9_widen ∈ TB := TB_6 (List.mem_of_getElem? (i := 145) rfl) rfl
theorem wdK_X9_widen : Cond.code yX9_widen cX9_widen 6 (some .boolean) ∈ TB := TB_6 (List.mem_of_getElem? (i := 146) rfl) rfl
theorem wdM_RX9_111 : Cond.methodLink RX9 111 yX9_unpack ∈ TB := TB_6 (List.mem_of_getElem? (i := 147) rfl) rfl
theorem wdN_X9_unpack : Cond.instanceMethod yX9_unpack ∈ TB := TB_6 (List.mem_of_getElem? (i := 149) rfl) rfl
theorem wdK_X9_unpack : Cond.code yX9_unpack cX9_unpack 7 none ∈ TB := TB_6 (List.mem_of_getElem? (i := 150) rfl) rfl
theorem wdM_RX9_114 : Cond.methodLink RX9 114 yX3_place ∈ TB := TB_6 (List.mem_of_getElem? (i := 151) rfl) rfl
theorem wdM_RX9_120 : Cond.methodLink RX9 120 yX3_everybody ∈ TB := TB_6 (List.mem_of_getElem? (i := 152) rfl) rfl
theorem wdM_RX9_124 : Cond.methodLink RX9 124 yX1_attempt ∈ TB := TB_6 (List.mem_of_getElem? (i := 153) rfl) rfl
theorem wdM_RL_74 : Cond.methodLink RL 74 yX11_rows ∈ TB := TB_6 (List.mem_of_getElem? (i := 154) rfl) rfl
theorem wdN_X11_rows : Cond.instanceMethod yX11_rows ∈ TB := TB_6 (List.mem_of_getElem? (i := 155) rfl) rfl
theorem wdS_X11_rows : Cond.selects yX11_rows.cls yX11_rows yX11_rows ∈ TB := TB_6 (List.mem_of_getElem? (i := 156) rfl) rfl
theorem wdK_X11_rows : Cond.code yX11_rows cX11_rows 1 (some .long) ∈ TB := TB_6 (List.mem_of_getElem? (i := 157) rfl) rfl
theorem wdM_RX11_226 : Cond.methodLink RX11 226 yX9_countRows ∈ TB := TB_6 (List.mem_of_getElem? (i := 158) rfl) rfl
theorem wdN_X9_countRows : Cond.instanceMethod yX9_countRows ∈ TB := TB_6 (List.mem_of_getElem? (i := 159) rfl) rfl
theorem wdS_X9_countRows : Cond.selects yX9_countRows.cls yX9_countRows yX9_countRows ∈ TB := TB_6 (List.mem_of_getElem? (i := 160) rfl) rfl
theorem wdK_X9_countRows : Cond.code yX9_countRows cX9_countRows 1 (some .long) ∈ TB := TB_6 (List.mem_of_getElem? (i := 161) rfl) rfl
theorem wdM_RL_79 : Cond.methodLink RL 79 yX11_row ∈ TB := TB_6 (List.mem_of_getElem? (i := 162) rfl) rfl
theorem wdN_X11_row : Cond.instanceMethod yX11_row ∈ TB := TB_6 (List.mem_of_getElem? (i := 163) rfl) rfl
theorem wdS_X11_row : Cond.selects yX11_row.cls yX11_row yX11_row ∈ TB := TB_6 (List.mem_of_getElem? (i := 164) rfl) rfl
theorem wdK_X11_row : Cond.code yX11_row cX11_row 2 (some .boolean) ∈ TB := TB_6 (List.mem_of_getElem? (i := 165) rfl) rfl
theorem wdM_RX11_229 : Cond.methodLink RX11 229 yX9_choose ∈ TB := TB_6 (List.mem_of_getElem? (i := 166) rfl) rfl
theorem wdN_X9_choose : Cond.instanceMethod yX9_choose ∈ TB := TB_6 (List.mem_of_getElem? (i := 167) rfl) rfl
theorem wdS_X9_choose : Cond.selects yX9_choose.cls yX9_choose yX9_choose ∈ TB := TB_6 (List.mem_of_getElem? (i := 168) rfl) rfl
theorem wdK_X9_choose : Cond.code yX9_choose cX9_choose 9 (some .boolean) ∈ TB := TB_6 (List.mem_of_getElem? (i := 169) rfl) rfl
theorem wdM_RX9_163 : Cond.methodLink RX9 163 yX9_countRows ∈ TB := TB_6 (List.mem_of_getElem? (i := 170) rfl) rfl
theorem wdM_RL_83 : Cond.methodLink RL 83 yX11_draw ∈ TB := TB_6 (List.mem_of_getElem? (i := 171) rfl) rfl
theorem wdN_X11_draw : Cond.instanceMethod yX11_draw ∈ TB := TB_6 (List.mem_of_getElem? (i := 172) rfl) rfl
theorem wdS_X11_draw : Cond.selects yX11_draw.cls yX11_draw yX11_draw ∈ TB := TB_6 (List.mem_of_getElem? (i := 173) rfl) rfl
theorem wdK_X11_draw : Cond.code yX11_draw cX11_draw 3 (some .boolean) ∈ TB := TB_6 (List.mem_of_getElem? (i := 174) rfl) rfl
theorem wdL_RX11_233 : Cond.constantLong RX11 233 (4294967295) ∈ TB := TB_6 (List.mem_of_getElem? (i := 175) rfl) rfl
theorem wdM_RX11_235 : Cond.methodLink RX11 235 yX11_highProduct ∈ TB := TB_6 (List.mem_of_getElem? (i := 176) rfl) rfl
theorem wdT_X11_highProduct : Cond.static yX11_highProduct ∈ TB := TB_6 (List.mem_of_getElem? (i := 177) rfl) rfl
theorem wdK_X11_highProduct : Cond.code yX11_highProduct cX11_highProduct 14 (some .long) ∈ TB := TB_6 (List.mem_of_getElem? (i := 178) rfl) rfl
theorem wdM_RL_87 : Cond.methodLink RL 87 yX11_cheapest ∈ TB := TB_6 (List.mem_of_getElem? (i := 179) rfl) rfl
theorem wdN_X11_cheapest : Cond.instanceMethod yX11_cheapest ∈ TB := TB_6 (List.mem_of_getElem? (i := 180) rfl) rfl
theorem wdS_X11_cheapest : Cond.selects yX11_cheapest.cls yX11_cheapest yX11_cheapest ∈ TB := TB_6 (List.mem_of_getElem? (i := 181) rfl) rfl
theorem wdK_X11_cheapest : Cond.code yX11_cheapest cX11_cheapest 1 (some .int) ∈ TB := TB_6 (List.mem_of_getElem? (i := 182) rfl) rfl
theorem wdM_RX11_239 : Cond.methodLink RX11 239 yX9_chooseCheapest ∈ TB := TB_6 (List.mem_of_getElem? (i := 183) rfl) rfl
theorem wdN_X9_chooseCheapest : Cond.instanceMethod yX9_chooseCheapest ∈ TB := TB_6 (List.mem_of_getElem? (i := 184) rfl) rfl
theorem wdS_X9_chooseCheapest : Cond.selects yX9_chooseCheapest.cls yX9_chooseCheapest yX9_chooseCheapest ∈ TB := TB_6 (List.mem_of_getElem? (i := 185) rfl) rfl
theorem wdK_X9_chooseCheapest : Cond.code yX9_chooseCheapest cX9_chooseCheapest 5 (some .int) ∈ TB := TB_6 (List.mem_of_getElem? (i := 186) rfl) rfl
theorem wdM_RL_91 : Cond.methodLink RL 91 yX11_found ∈ TB := TB_6 (List.mem_of_getElem? (i := 187) rfl) rfl
theorem wdN_X11_found : Cond.instanceMethod yX11_found ∈ TB := TB_6 (List.mem_of_getElem? (i := 188) rfl) rfl
theorem wdS_X11_found : Cond.selects yX11_found.cls yX11_found yX11_found ∈ TB := TB_6 (List.mem_of_getElem? (i := 189) rfl) rfl
theorem wdK_X11_found : Cond.code yX11_found cX11_found 2 (some .int) ∈ TB := TB_6 (List.mem_of_getElem? (i := 190) rfl) rfl
theorem wdM_RX11_242 : Cond.methodLink RX11 242 yX9_chosenStep ∈ TB := TB_6 (List.mem_of_getElem? (i := 191) rfl) rfl
theorem wdN_X9_chosenStep : Cond.instanceMethod yX9_chosenStep ∈ TB := TB_6 (List.mem_of_getElem? (i := 192) rfl) rfl
theorem wdS_X9_chosenStep : Cond.selects yX9_chosenStep.cls yX9_chosenStep yX9_chosenStep ∈ TB := TB_6 (List.mem_of_getElem? (i := 193) rfl) rfl
theorem wdK_X9_chosenStep : Cond.code yX9_chosenStep cX9_chosenStep 2 (some .int) ∈ TB := TB_6 (List.mem_of_getElem? (i := 194) rfl) rfl
theorem wdM_RL_95 : Cond.methodLink RL 95 yX11_follow ∈ TB := TB_6 (List.mem_of_getElem? (i := 195) rfl) rfl
theorem wdN_X11_follow : Cond.instanceMethod yX11_follow ∈ TB := TB_6 (List.mem_of_getElem? (i := 196) rfl) rfl
theorem wdS_X11_follow : Cond.selects yX11_follow.cls yX11_follow yX11_follow ∈ TB := TB_6 (List.mem_of_getElem? (i := 197) rfl) rfl
theorem wdK_X11_follow : Cond.code yX11_follow cX11_follow 3 (some .int) ∈ TB := TB_6 (List.mem_of_getElem? (i := 198) rfl) rfl
theorem wdM_RL_99 : Cond.methodLink RL 99 yX11_times ∈ TB := TB_6 (List.mem_of_getElem? (i := 199) rfl) rfl
theorem wdN_X11_times : Cond.instanceMethod yX11_times ∈ TB := TB_6 (List.mem_of_getElem? (i := 200) rfl) rfl
theorem wdS_X11_times : Cond.selects yX11_times.cls yX11_times yX11_times ∈ TB := TB_6 (List.mem_of_getElem? (i := 201) rfl) rfl
theorem wdK_X11_times : Cond.code yX11_times cX11_times 7 (some .int) ∈ TB := TB_6 (List.mem_of_getElem? (i := 202) rfl) rfl
theorem wdM_RX11_248 : Cond.methodLink RX11 248 yX8_limit ∈ TB := TB_6 (List.mem_of_getElem? (i := 203) rfl) rfl
theorem wdN_X8_limit : Cond.instanceMethod yX8_limit ∈ TB := TB_6 (List.mem_of_getElem? (i := 204) rfl) rfl
theorem wdS_X8_limit : Cond.selects yX8_limit.cls yX8_limit yX8_limit ∈ TB := TB_6 (List.mem_of_getElem? (i := 205) rfl) rfl
theorem wdK_X8_limit : Cond.code yX8_limit cX8_limit 1 none ∈ TB := TB_6 (List.mem_of_getElem? (i := 206) rfl) rfl
theorem wdV_RX11_251 : Cond.constant RX11 251 (1000000) ∈ TB := TB_6 (List.mem_of_getElem? (i := 207) rfl) rfl
theorem wdM_RX11_255 : Cond.methodLink RX11 255 yX3_isAt ∈ TB := TB_6 (List.mem_of_getElem? (i := 208) rfl) rfl
theorem wdM_RL_104 : Cond.methodLink RL 104 yX11_dancer ∈ TB := TB_6 (List.mem_of_getElem? (i := 209) rfl) rfl
theorem wdN_X11_dancer : Cond.instanceMethod yX11_dancer ∈ TB := TB_6 (List.mem_of_getElem? (i := 210) rfl) rfl
theorem wdS_X11_dancer : Cond.selects yX11_dancer.cls yX11_dancer yX11_dancer ∈ TB := TB_6 (List.mem_of_getElem? (i := 211) rfl) rfl
theorem wdK_X11_dancer : Cond.code yX11_dancer cX11_dancer 3 (some .int) ∈ TB := TB_6 (List.mem_of_getElem? (i := 212) rfl) rfl
theorem wdM_RL_109 : Cond.methodLink RL 109 yX11_at ∈ TB := TB_6 (List.mem_of_getElem? (i := 213) rfl) rfl
theorem wdN_X11_at : Cond.instanceMethod yX11_at ∈ TB := TB_6 (List.mem_of_getElem? (i := 214) rfl) rfl
theorem wdS_X11_at : Cond.selects yX11_at.cls yX11_at yX11_at ∈ TB := TB_6 (List.mem_of_getElem? (i := 215) rfl) rfl
theorem wdK_X11_at : Cond.code yX11_at cX11_at 3 (some .int) ∈ TB := TB_6 (List.mem_of_getElem? (i := 216) rfl) rfl
theorem wdM_RX11_271 : Cond.methodLink RX11 271 yX3_whoIsAt ∈ TB := TB_6 (List.mem_of_getElem? (i := 217) rfl) rfl
theorem wdM_RL_113 : Cond.methodLink RL 113 yX11_about ∈ TB := TB_6 (List.mem_of_getElem? (i := 218) rfl) rfl
theorem wdN_X11_about : Cond.instanceMethod yX11_about ∈ TB := TB_6 (List.mem_of_getElem? (i := 219) rfl) rfl
theorem wdS_X11_about : Cond.selects yX11_about.cls yX11_about yX11_about ∈ TB := TB_6 (List.mem_of_getElem? (i := 220) rfl) rfl
theorem wdK_X11_about : Cond.code yX11_about cX11_about 2 (some .int) ∈ TB := TB_6 (List.mem_of_getElem? (i := 221) rfl) rfl
theorem wdC_RL_10 : Cond.classLink RL 10 RX12 ∈ TB := TB_6 (List.mem_of_getElem? (i := 222) rfl) rfl
theorem wdI_RX12 : Cond.instantiable RX12 116 ∈ TB := TB_6 (List.mem_of_getElem? (i := 223) rfl) rfl
theorem wdM_RL_12 : Cond.methodLink RL 12 yX12_init ∈ TB := TB_6 (List.mem_of_getElem? (i := 224) rfl) rfl
theorem wdN_X12_init : Cond.instanceMethod yX12_init ∈ TB := TB_6 (List.mem_of_getElem? (i := 225) rfl) rfl
theorem wdK_X12_init : Cond.code yX12_init cX12_init 1 none ∈ TB := TB_6 (List.mem_of_getElem? (i := 226) rfl) rfl
theorem wdM_RX12_1 : Cond.methodLink RX12 1 objectInit ∈ TB := TB_6 (List.mem_of_getElem? (i := 227) rfl) rfl
theorem wdV_RX12_114 : Cond.constant RX12 114 (51456) ∈ TB := TB_6 (List.mem_of_getElem? (i := 228) rfl) rfl
theorem wdV_RX12_127 : Cond.constant RX12 127 (321600) ∈ TB := TB_6 (List.mem_of_getElem? (i := 229) rfl) rfl
theorem wdV_RX12_180 : Cond.constant RX12 180 (64000) ∈ TB := TB_6 (List.mem_of_getElem? (i := 230) rfl) rfl
theorem wdM_RX12_220 : Cond.methodLink RX12 220 yX12_begins ∈ TB := TB_6 (List.mem_of_getElem? (i := 231) rfl) rfl
theorem wdN_X12_begins : Cond.instanceMethod yX12_begins ∈ TB := TB_6 (List.mem_of_getElem? (i := 233) rfl) rfl
theorem wdK_X12_begins : Cond.code yX12_begins cX12_begins 7 (some .boolean) ∈ TB := TB_6 (List.mem_of_getElem? (i := 234) rfl) rfl
theorem wdM_RX12_227 : Cond.methodLink RX12 227 yX12_in ∈ TB := TB_6 (List.mem_of_getElem? (i := 235) rfl) rfl
theorem wdT_X12_in : Cond.static yX12_in ∈ TB := TB_6 (List.mem_of_getElem? (i := 236) rfl) rfl
theorem wdK_X12_in : Cond.code yX12_in cX12_in 3 (some .boolean) ∈ TB := TB_6 (List.mem_of_getElem? (i := 237) rfl) rfl
theorem wdM_RX12_234 : Cond.methodLink RX12 234 yX12_stands ∈ TB := TB_6 (List.mem_of_getElem? (i := 238) rfl) rfl
theorem wdN_X12_stands : Cond.instanceMethod yX12_stands ∈ TB := TB_7 (List.mem_of_getElem? (i := 0) rfl) rfl
theorem wdK_X12_stands : Cond.code yX12_stands cX12_stands 5 none ∈ TB := TB_7 (List.mem_of_getElem? (i := 1) rfl) rfl
theorem wdM_RX12_224 : Cond.methodLink RX12 224 yX12_marks ∈ TB := TB_7 (List.mem_of_getElem? (i := 2) rfl) rfl
theorem wdN_X12_marks : Cond.instanceMethod yX12_marks ∈ TB := TB_7 (List.mem_of_getElem? (i := 4) rfl) rfl
theorem wdK_X12_marks : Cond.code yX12_marks cX12_marks 2 none ∈ TB := TB_7 (List.mem_of_getElem? (i := 5) rfl) rfl
theorem wdF_RX12_7 : Cond.fieldLink RX12 7 "CallerHallModel" "tape" "[B" ∈ TB := TB_7 (List.mem_of_getElem? (i := 6) rfl) rfl
theorem wdF_RX12_258 : Cond.fieldLink RX12 258 "CallerHallModel" "taped" "I" ∈ TB := TB_7 (List.mem_of_getElem? (i := 7) rfl) rfl
theorem wdF_RX12_264 : Cond.fieldLink RX12 264 "CallerHallModel" "at" "I" ∈ TB := TB_7 (List.mem_of_getElem? (i := 8) rfl) rfl
theorem wdF_RX12_278 : Cond.fieldLink RX12 278 "CallerHallModel" "kind" "I" ∈ TB := TB_7 (List.mem_of_getElem? (i := 9) rfl) rfl
theorem wdF_RX12_275 : Cond.fieldLink RX12 275 "CallerHallModel" "place" "I" ∈ TB := TB_7 (List.mem_of_getElem? (i := 10) rfl) rfl
theorem wdF_RX12_294 : Cond.fieldLink RX12 294 "CallerHallModel" "value" "I" ∈ TB := TB_7 (List.mem_of_getElem? (i := 11) rfl) rfl
theorem wdF_RX12_287 : Cond.fieldLink RX12 287 "CallerHallModel" "wordLong" "I" ∈ TB := TB_7 (List.mem_of_getElem? (i := 12) rfl) rfl
theorem wdF_RX12_261 : Cond.fieldLink RX12 261 "CallerHallModel" "end" "I" ∈ TB := TB_7 (List.mem_of_getElem? (i := 13) rfl) rfl
theorem wdF_RX12_308 : Cond.fieldLink RX12 308 "CallerHallModel" "fault" "I" ∈ TB := TB_7 (List.mem_of_getElem? (i := 14) rfl) rfl
theorem wdF_RX12_13 : Cond.fieldLink RX12 13 "CallerHallModel" "letters" "[B" ∈ TB := TB_7 (List.mem_of_getElem? (i := 15) rfl) rfl
theorem wdF_RX12_16 : Cond.fieldLink RX12 16 "CallerHallModel" "nameLong" "[I" ∈ TB := TB_7 (List.mem_of_getElem? (i := 16) rfl) rfl
theorem wdF_RX12_20 : Cond.fieldLink RX12 20 "CallerHallModel" "nameSort" "[I" ∈ TB := TB_7 (List.mem_of_getElem? (i := 17) rfl) rfl
theorem wdF_RX12_23 : Cond.fieldLink RX12 23 "CallerHallModel" "nameNumber" "[I" ∈ TB := TB_7 (List.mem_of_getElem? (i := 18) rfl) rfl
theorem wdF_RX12_347 : Cond.fieldLink RX12 347 "CallerHallModel" "names" "I" ∈ TB := TB_7 (List.mem_of_getElem? (i := 19) rfl) rfl
theorem wdF_RX12_362 : Cond.fieldLink RX12 362 "CallerHallModel" "forms" "I" ∈ TB := TB_7 (List.mem_of_getElem? (i := 20) rfl) rfl
theorem wdF_RX12_375 : Cond.fieldLink RX12 375 "CallerHallModel" "figures" "I" ∈ TB := TB_7 (List.mem_of_getElem? (i := 21) rfl) rfl
theorem wdF_RX12_386 : Cond.fieldLink RX12 386 "CallerHallModel" "parts" "I" ∈ TB := TB_7 (List.mem_of_getElem? (i := 22) rfl) rfl
theorem wdF_RX12_392 : Cond.fieldLink RX12 392 "CallerHallModel" "allows" "I" ∈ TB := TB_7 (List.mem_of_getElem? (i := 23) rfl) rfl
theorem wdF_RX12_26 : Cond.fieldLink RX12 26 "CallerHallModel" "formSlots" "[I" ∈ TB := TB_7 (List.mem_of_getElem? (i := 24) rfl) rfl
theorem wdF_RX12_29 : Cond.fieldLink RX12 29 "CallerHallModel" "slotX" "[I" ∈ TB := TB_7 (List.mem_of_getElem? (i := 25) rfl) rfl
theorem wdF_RX12_32 : Cond.fieldLink RX12 32 "CallerHallModel" "slotY" "[I" ∈ TB := TB_7 (List.mem_of_getElem? (i := 26) rfl) rfl
theorem wdF_RX12_35 : Cond.fieldLink RX12 35 "CallerHallModel" "slotWay" "[I" ∈ TB := TB_7 (List.mem_of_getElem? (i := 27) rfl) rfl
theorem wdF_RX12_38 : Cond.fieldLink RX12 38 "CallerHallModel" "slotWho" "[I" ∈ TB := TB_7 (List.mem_of_getElem? (i := 28) rfl) rfl
theorem wdF_RX12_41 : Cond.fieldLink RX12 41 "CallerHallModel" "figureForm" "[I" ∈ TB := TB_7 (List.mem_of_getElem? (i := 29) rfl) rfl
theorem wdF_RX12_44 : Cond.fieldLink RX12 44 "CallerHallModel" "figureCounts" "[I" ∈ TB := TB_7 (List.mem_of_getElem? (i := 30) rfl) rfl
theorem wdF_RX12_47 : Cond.fieldLink RX12 47 "CallerHallModel" "figurePrice" "[I" ∈ TB := TB_7 (List.mem_of_getElem? (i := 31) rfl) rfl
theorem wdF_RX12_50 : Cond.fieldLink RX12 50 "CallerHallModel" "toX" "[I" ∈ TB := TB_7 (List.mem_of_getElem? (i := 32) rfl) rfl
theorem wdF_RX12_53 : Cond.fieldLink RX12 53 "CallerHallModel" "toY" "[I" ∈ TB := TB_7 (List.mem_of_getElem? (i := 33) rfl) rfl
theorem wdF_RX12_56 : Cond.fieldLink RX12 56 "CallerHallModel" "toTurn" "[I" ∈ TB := TB_7 (List.mem_of_getElem? (i := 34) rfl) rfl
theorem wdF_RX12_59 : Cond.fieldLink RX12 59 "CallerHallModel" "partAt" "[I" ∈ TB := TB_7 (List.mem_of_getElem? (i := 35) rfl) rfl
theorem wdF_RX12_62 : Cond.fieldLink RX12 62 "CallerHallModel" "allowAt" "[I" ∈ TB := TB_7 (List.mem_of_getElem? (i := 36) rfl) rfl
theorem wdF_RX12_65 : Cond.fieldLink RX12 65 "CallerHallModel" "tokens" "[I" ∈ TB := TB_7 (List.mem_of_getElem? (i := 37) rfl) rfl
theorem wdF_RX12_68 : Cond.fieldLink RX12 68 "CallerHallModel" "closing" "[I" ∈ TB := TB_7 (List.mem_of_getElem? (i := 38) rfl) rfl
theorem wdF_RX12_314 : Cond.fieldLink RX12 314 "CallerHallModel" "tokenMany" "I" ∈ TB := TB_7 (List.mem_of_getElem? (i := 39) rfl) rfl
theorem wdF_RX12_320 : Cond.fieldLink RX12 320 "CallerHallModel" "callMany" "I" ∈ TB := TB_7 (List.mem_of_getElem? (i := 40) rfl) rfl
theorem wdF_RX12_338 : Cond.fieldLink RX12 338 "CallerHallModel" "nested" "I" ∈ TB := TB_7 (List.mem_of_getElem? (i := 41) rfl) rfl
theorem wdF_RX12_311 : Cond.fieldLink RX12 311 "CallerHallModel" "keeping" "I" ∈ TB := TB_7 (List.mem_of_getElem? (i := 42) rfl) rfl
theorem wdF_RX12_231 : Cond.fieldLink RX12 231 "CallerHallModel" "n" "I" ∈ TB := TB_7 (List.mem_of_getElem? (i := 43) rfl) rfl
theorem wdF_RX12_71 : Cond.fieldLink RX12 71 "CallerHallModel" "x" "[I" ∈ TB := TB_7 (List.mem_of_getElem? (i := 44) rfl) rfl
theorem wdF_RX12_74 : Cond.fieldLink RX12 74 "CallerHallModel" "y" "[I" ∈ TB := TB_7 (List.mem_of_getElem? (i := 45) rfl) rfl
theorem wdF_RX12_77 : Cond.fieldLink RX12 77 "CallerHallModel" "way" "[I" ∈ TB := TB_7 (List.mem_of_getElem? (i := 46) rfl) rfl
theorem wdF_RX12_80 : Cond.fieldLink RX12 80 "CallerHallModel" "turned" "[I" ∈ TB := TB_7 (List.mem_of_getElem? (i := 47) rfl) rfl
theorem wdF_RX12_252 : Cond.fieldLink RX12 252 "CallerHallModel" "beats" "I" ∈ TB := TB_7 (List.mem_of_getElem? (i := 48) rfl) rfl
theorem wdF_RX12_255 : Cond.fieldLink RX12 255 "CallerHallModel" "steps" "I" ∈ TB := TB_7 (List.mem_of_getElem? (i := 49) rfl) rfl
theorem wdF_RX12_83 : Cond.fieldLink RX12 83 "CallerHallModel" "homeX" "[I" ∈ TB := TB_7 (List.mem_of_getElem? (i := 50) rfl) rfl
theorem wdF_RX12_86 : Cond.fieldLink RX12 86 "CallerHallModel" "homeY" "[I" ∈ TB := TB_7 (List.mem_of_getElem? (i := 51) rfl) rfl
theorem wdF_RX12_89 : Cond.fieldLink RX12 89 "CallerHallModel" "homeWay" "[I" ∈ TB := TB_7 (List.mem_of_getElem? (i := 52) rfl) rfl
theorem wdF_RX12_92 : Cond.fieldLink RX12 92 "CallerHallModel" "aimX" "[I" ∈ TB := TB_7 (List.mem_of_getElem? (i := 53) rfl) rfl
theorem wdF_RX12_95 : Cond.fieldLink RX12 95 "CallerHallModel" "aimY" "[I" ∈ TB := TB_7 (List.mem_of_getElem? (i := 54) rfl) rfl
theorem wdF_RX12_98 : Cond.fieldLink RX12 98 "CallerHallModel" "aimWay" "[I" ∈ TB := TB_7 (List.mem_of_getElem? (i := 55) rfl) rfl
theorem wdF_RX12_241 : Cond.fieldLink RX12 241 "CallerHallModel" "isRunning" "Z" ∈ TB := TB_7 (List.mem_of_getElem? (i := 56) rfl) rfl
theorem wdF_RX12_245 : Cond.fieldLink RX12 245 "CallerHallModel" "depth" "I" ∈ TB := TB_7 (List.mem_of_getElem? (i := 57) rfl) rfl
theorem wdF_RX12_572 : Cond.fieldLink RX12 572 "CallerHallModel" "acts" "I" ∈ TB := TB_7 (List.mem_of_getElem? (i := 58) rfl) rfl
theorem wdF_RX12_599 : Cond.fieldLink RX12 599 "CallerHallModel" "allActs" "I" ∈ TB := TB_7 (List.mem_of_getElem? (i := 59) rfl) rfl
theorem wdF_RX12_602 : Cond.fieldLink RX12 602 "CallerHallModel" "isTimed" "Z" ∈ TB := TB_7 (List.mem_of_getElem? (i := 60) rfl) rfl
theorem wdF_RX12_101 : Cond.fieldLink RX12 101 "CallerHallModel" "goesOn" "[I" ∈ TB := TB_7 (List.mem_of_getElem? (i := 61) rfl) rfl
theorem wdF_RX12_104 : Cond.fieldLink RX12 104 "CallerHallModel" "heads" "[I" ∈ TB := TB_7 (List.mem_of_getElem? (i := 62) rfl) rfl
theorem wdF_RX12_107 : Cond.fieldLink RX12 107 "CallerHallModel" "left" "[I" ∈ TB := TB_7 (List.mem_of_getElem? (i := 63) rfl) rfl
theorem wdF_RX12_110 : Cond.fieldLink RX12 110 "CallerHallModel" "scopes" "[J" ∈ TB := TB_7 (List.mem_of_getElem? (i := 64) rfl) rfl
theorem wdF_RX12_238 : Cond.fieldLink RX12 238 "CallerHallModel" "past" "I" ∈ TB := TB_7 (List.mem_of_getElem? (i := 65) rfl) rfl
theorem wdF_RX12_569 : Cond.fieldLink RX12 569 "CallerHallModel" "pastNext" "I" ∈ TB := TB_7 (List.mem_of_getElem? (i := 66) rfl) rfl
theorem wdF_RX12_115 : Cond.fieldLink RX12 115 "CallerHallModel" "pastFloor" "[I" ∈ TB := TB_7 (List.mem_of_getElem? (i := 67) rfl) rfl
theorem wdF_RX12_118 : Cond.fieldLink RX12 118 "CallerHallModel" "pastBeats" "[I" ∈ TB := TB_7 (List.mem_of_getElem? (i := 68) rfl) rfl
theorem wdF_RX12_121 : Cond.fieldLink RX12 121 "CallerHallModel" "pastSteps" "[I" ∈ TB := TB_7 (List.mem_of_getElem? (i := 69) rfl) rfl
theorem wdF_RX12_124 : Cond.fieldLink RX12 124 "CallerHallModel" "pastDepth" "[I" ∈ TB := TB_7 (List.mem_of_getElem? (i := 70) rfl) rfl
theorem wdF_RX12_128 : Cond.fieldLink RX12 128 "CallerHallModel" "pastBlocks" "[J" ∈ TB := TB_7 (List.mem_of_getElem? (i := 71) rfl) rfl
theorem wdF_RX12_131 : Cond.fieldLink RX12 131 "CallerHallModel" "pastScopes" "[J" ∈ TB := TB_7 (List.mem_of_getElem? (i := 72) rfl) rfl
theorem wdF_RX12_134 : Cond.fieldLink RX12 134 "CallerHallModel" "failedFor" "I" ∈ TB := TB_7 (List.mem_of_getElem? (i := 73) rfl) rfl
theorem wdF_RX12_138 : Cond.fieldLink RX12 138 "CallerHallModel" "failedWho" "I" ∈ TB := TB_7 (List.mem_of_getElem? (i := 74) rfl) rfl
theorem wdF_RX12_141 : Cond.fieldLink RX12 141 "CallerHallModel" "failedElse" "I" ∈ TB := TB_7 (List.mem_of_getElem? (i := 75) rfl) rfl
theorem wdF_RX12_533 : Cond.fieldLink RX12 533 "CallerHallModel" "why" "I" ∈ TB := TB_7 (List.mem_of_getElem? (i := 76) rfl) rfl
theorem wdF_RX12_536 : Cond.fieldLink RX12 536 "CallerHallModel" "who" "I" ∈ TB := TB_7 (List.mem_of_getElem? (i := 77) rfl) rfl
theorem wdF_RX12_539 : Cond.fieldLink RX12 539 "CallerHallModel" "whoElse" "I" ∈ TB := TB_7 (List.mem_of_getElem? (i := 78) rfl) rfl
theorem wdF_RX12_144 : Cond.fieldLink RX12 144 "CallerHallModel" "meant" "[J" ∈ TB := TB_7 (List.mem_of_getElem? (i := 79) rfl) rfl
theorem wdF_RX12_147 : Cond.fieldLink RX12 147 "CallerHallModel" "figureOf" "[I" ∈ TB := TB_7 (List.mem_of_getElem? (i := 80) rfl) rfl
theorem wdF_RX12_542 : Cond.fieldLink RX12 542 "CallerHallModel" "pairs" "I" ∈ TB := TB_7 (List.mem_of_getElem? (i := 81) rfl) rfl
theorem wdF_RX12_150 : Cond.fieldLink RX12 150 "CallerHallModel" "newX" "[I" ∈ TB := TB_7 (List.mem_of_getElem? (i := 82) rfl) rfl
theorem wdF_RX12_153 : Cond.fieldLink RX12 153 "CallerHallModel" "newY" "[I" ∈ TB := TB_7 (List.mem_of_getElem? (i := 83) rfl) rfl
theorem wdF_RX12_156 : Cond.fieldLink RX12 156 "CallerHallModel" "newWay" "[I" ∈ TB := TB_7 (List.mem_of_getElem? (i := 84) rfl) rfl
theorem wdF_RX12_159 : Cond.fieldLink RX12 159 "CallerHallModel" "newTurned" "[I" ∈ TB := TB_7 (List.mem_of_getElem? (i := 85) rfl) rfl
theorem wdF_RX12_162 : Cond.fieldLink RX12 162 "CallerHallModel" "order" "[I" ∈ TB := TB_7 (List.mem_of_getElem? (i := 86) rfl) rfl
theorem wdF_RX12_165 : Cond.fieldLink RX12 165 "CallerHallModel" "inSlot" "[I" ∈ TB := TB_7 (List.mem_of_getElem? (i := 87) rfl) rfl
theorem wdF_RX12_484 : Cond.fieldLink RX12 484 "CallerHallModel" "copyX" "I" ∈ TB := TB_7 (List.mem_of_getElem? (i := 88) rfl) rfl
theorem wdF_RX12_487 : Cond.fieldLink RX12 487 "CallerHallModel" "copyY" "I" ∈ TB := TB_7 (List.mem_of_getElem? (i := 89) rfl) rfl
theorem wdF_RX12_490 : Cond.fieldLink RX12 490 "CallerHallModel" "copyTurn" "I" ∈ TB := TB_7 (List.mem_of_getElem? (i := 90) rfl) rfl
theorem wdF_RX12_506 : Cond.fieldLink RX12 506 "CallerHallModel" "tried" "I" ∈ TB := TB_7 (List.mem_of_getElem? (i := 91) rfl) rfl
theorem wdF_RX12_168 : Cond.fieldLink RX12 168 "CallerHallModel" "partFor" "[I" ∈ TB := TB_7 (List.mem_of_getElem? (i := 92) rfl) rfl
theorem wdF_RX12_171 : Cond.fieldLink RX12 171 "CallerHallModel" "partCopy" "[I" ∈ TB := TB_7 (List.mem_of_getElem? (i := 93) rfl) rfl
theorem wdF_RX12_503 : Cond.fieldLink RX12 503 "CallerHallModel" "partMany" "I" ∈ TB := TB_7 (List.mem_of_getElem? (i := 94) rfl) rfl
theorem wdF_RX12_629 : Cond.fieldLink RX12 629 "CallerHallModel" "seen" "I" ∈ TB := TB_7 (List.mem_of_getElem? (i := 95) rfl) rfl
theorem wdF_RX12_623 : Cond.fieldLink RX12 623 "CallerHallModel" "states" "I" ∈ TB := TB_7 (List.mem_of_getElem? (i := 96) rfl) rfl
theorem wdF_RX12_656 : Cond.fieldLink RX12 656 "CallerHallModel" "levels" "I" ∈ TB := TB_7 (List.mem_of_getElem? (i := 97) rfl) rfl
theorem wdF_RX12_174 : Cond.fieldLink RX12 174 "CallerHallModel" "stateRow" "[I" ∈ TB := TB_7 (List.mem_of_getElem? (i := 98) rfl) rfl
theorem wdF_RX12_177 : Cond.fieldLink RX12 177 "CallerHallModel" "stateLevel" "[I" ∈ TB := TB_7 (List.mem_of_getElem? (i := 99) rfl) rfl
theorem wdF_RX12_181 : Cond.fieldLink RX12 181 "CallerHallModel" "leads" "[I" ∈ TB := TB_7 (List.mem_of_getElem? (i := 100) rfl) rfl
theorem wdF_RX12_184 : Cond.fieldLink RX12 184 "CallerHallModel" "ways" "[J" ∈ TB := TB_7 (List.mem_of_getElem? (i := 101) rfl) rfl
theorem wdF_RX12_187 : Cond.fieldLink RX12 187 "CallerHallModel" "cheapest" "[I" ∈ TB := TB_7 (List.mem_of_getElem? (i := 102) rfl) rfl
theorem wdF_RX12_190 : Cond.fieldLink RX12 190 "CallerHallModel" "allowPrice" "[I" ∈ TB := TB_7 (List.mem_of_getElem? (i := 103) rfl) rfl
theorem wdF_RX12_635 : Cond.fieldLink RX12 635 "CallerHallModel" "searchAllows" "I" ∈ TB := TB_7 (List.mem_of_getElem? (i := 104) rfl) rfl
theorem wdF_RX12_193 : Cond.fieldLink RX12 193 "CallerHallModel" "aimState" "I" ∈ TB := TB_7 (List.mem_of_getElem? (i := 105) rfl) rfl
theorem wdF_RX12_248 : Cond.fieldLink RX12 248 "CallerHallModel" "rows" "J" ∈ TB := TB_7 (List.mem_of_getElem? (i := 106) rfl) rfl
theorem wdF_RX12_196 : Cond.fieldLink RX12 196 "CallerHallModel" "foundLong" "I" ∈ TB := TB_7 (List.mem_of_getElem? (i := 107) rfl) rfl
theorem wdF_RX12_671 : Cond.fieldLink RX12 671 "CallerHallModel" "foundNext" "I" ∈ TB := TB_7 (List.mem_of_getElem? (i := 108) rfl) rfl
theorem wdF_RX12_199 : Cond.fieldLink RX12 199 "CallerHallModel" "found" "[I" ∈ TB := TB_7 (List.mem_of_getElem? (i := 109) rfl) rfl
theorem wdF_RX12_202 : Cond.fieldLink RX12 202 "CallerHallModel" "saved" "[I" ∈ TB := TB_7 (List.mem_of_getElem? (i := 110) rfl) rfl
theorem wdF_RX12_205 : Cond.fieldLink RX12 205 "CallerHallModel" "savedHome" "[I" ∈ TB := TB_7 (List.mem_of_getElem? (i := 111) rfl) rfl
theorem wdF_RX12_208 : Cond.fieldLink RX12 208 "CallerHallModel" "savedGoes" "[I" ∈ TB := TB_7 (List.mem_of_getElem? (i := 112) rfl) rfl
theorem wdF_RX12_211 : Cond.fieldLink RX12 211 "CallerHallModel" "savedHeads" "[I" ∈ TB := TB_7 (List.mem_of_getElem? (i := 113) rfl) rfl
theorem wdF_RX12_214 : Cond.fieldLink RX12 214 "CallerHallModel" "savedLeft" "[I" ∈ TB := TB_7 (List.mem_of_getElem? (i := 114) rfl) rfl
theorem wdF_RX12_217 : Cond.fieldLink RX12 217 "CallerHallModel" "savedScopes" "[J" ∈ TB := TB_7 (List.mem_of_getElem? (i := 115) rfl) rfl
theorem wdF_RX12_335 : Cond.fieldLink RX12 335 "CallerHallModel" "number" "I" ∈ TB := TB_7 (List.mem_of_getElem? (i := 116) rfl) rfl
theorem wdF_RX12_353 : Cond.fieldLink RX12 353 "CallerHallModel" "namedPlace" "I" ∈ TB := TB_7 (List.mem_of_getElem? (i := 117) rfl) rfl
theorem wdF_RX12_356 : Cond.fieldLink RX12 356 "CallerHallModel" "namedLong" "I" ∈ TB := TB_7 (List.mem_of_getElem? (i := 118) rfl) rfl
theorem wdF_RX12_359 : Cond.fieldLink RX12 359 "CallerHallModel" "known" "I" ∈ TB := TB_7 (List.mem_of_getElem? (i := 119) rfl) rfl
theorem wdF_RX12_454 : Cond.fieldLink RX12 454 "CallerHallModel" "reading" "I" ∈ TB := TB_7 (List.mem_of_getElem? (i := 120) rfl) rfl
theorem wdF_RX12_608 : Cond.fieldLink RX12 608 "CallerHallModel" "stepAt" "I" ∈ TB := TB_7 (List.mem_of_getElem? (i := 121) rfl) rfl
theorem wdY_X12_0 : u_lay RX12 TX12 0 ∈ TB := TB_7 (List.mem_of_getElem? (i := 122) rfl) rfl
theorem wdY_X12_1 : u_lay RX12 TX12 1 ∈ TB := TB_7 (List.mem_of_getElem? (i := 124) rfl) rfl
theorem wdY_X12_2 : u_lay RX12 TX12 2 ∈ TB := TB_7 (List.mem_of_getElem? (i := 126) rfl) rfl
theorem wdY_X12_3 : u_lay RX12 TX12 3 ∈ TB := TB_7 (List.mem_of_getElem? (i := 128) rfl) rfl
theorem wdY_X12_4 : u_lay RX12 TX12 4 ∈ TB := TB_7 (List.mem_of_getElem? (i := 130) rfl) rfl
theorem wdY_X12_5 : u_lay RX12 TX12 5 ∈ TB := TB_7 (List.mem_of_getElem? (i := 132) rfl) rfl
theorem wdY_X12_6 : u_lay RX12 TX12 6 ∈ TB := TB_7 (List.mem_of_getElem? (i := 134) rfl) rfl
theorem wdY_X12_7 : u_lay RX12 TX12 7 ∈ TB := TB_7 (List.mem_of_getElem? (i := 136) rfl) rfl
theorem wdY_X12_8 : u_lay RX12 TX12 8 ∈ TB := TB_7 (List.mem_of_getElem? (i := 138) rfl) rfl
theorem wdY_X12_9 : u_lay RX12 TX12 9 ∈ TB := TB_7 (List.mem_of_getElem? (i := 140) rfl) rfl
theorem wdY_X12_10 : u_lay RX12 TX12 10 ∈ TB := TB_7 (List.mem_of_getElem? (i := 142) rfl) rfl
theorem wdY_X12_11 : u_lay RX12 TX12 11 ∈ TB := TB_7 (List.mem_of_getElem? (i := 144) rfl) rfl
theorem wdY_X12_12 : u_lay RX12 TX12 12 ∈ TB := TB_7 (List.mem_of_getElem? (i := 146) rfl) rfl
theorem wdY_X12_13 : u_lay RX12 TX12 13 ∈ TB := TB_7 (List.mem_of_getElem? (i := 148) rfl) rfl
theorem wdY_X12_14 : u_lay RX12 TX12 14 ∈ TB := TB_7 (List.mem_of_getElem? (i := 150) rfl) rfl
theorem wdY_X12_15 : u_lay RX12 TX12 15 ∈ TB := TB_7 (List.mem_of_getElem? (i := 152) rfl) rfl
theorem wdY_X12_16 : u_lay RX12 TX12 16 ∈ TB := TB_7 (List.mem_of_getElem? (i := 154) rfl) rfl
theorem wdY_X12_17 : u_lay RX12 TX12 17 ∈ TB := TB_7 (List.mem_of_getElem? (i := 156) rfl) rfl
theorem wdY_X12_18 : u_lay RX12 TX12 18 ∈ TB := TB_7 (List.mem_of_getElem? (i := 158) rfl) rfl
theorem wdY_X12_19 : u_lay RX12 TX12 19 ∈ TB := TB_7 (List.mem_of_getElem? (i := 160) rfl) rfl
theorem wdY_X12_20 : u_lay RX12 TX12 20 ∈ TB := TB_7 (List.mem_of_getElem? (i := 162) rfl) rfl
theorem wdY_X12_21 : u_lay RX12 TX12 21 ∈ TB := TB_7 (List.mem_of_getElem? (i := 164) rfl) rfl
theorem wdY_X12_22 : u_lay RX12 TX12 22 ∈ TB := TB_7 (List.mem_of_getElem? (i := 166) rfl) rfl
theorem wdY_X12_23 : u_lay RX12 TX12 23 ∈ TB := TB_7 (List.mem_of_getElem? (i := 168) rfl) rfl
theorem wdY_X12_24 : u_lay RX12 TX12 24 ∈ TB := TB_7 (List.mem_of_getElem? (i := 170) rfl) rfl
theorem wdY_X12_25 : u_lay RX12 TX12 25 ∈ TB := TB_7 (List.mem_of_getElem? (i := 172) rfl) rfl
theorem wdY_X12_26 : u_lay RX12 TX12 26 ∈ TB := TB_7 (List.mem_of_getElem? (i := 174) rfl) rfl
theorem wdY_X12_27 : u_lay RX12 TX12 27 ∈ TB := TB_7 (List.mem_of_getElem? (i := 176) rfl) rfl
theorem wdY_X12_28 : u_lay RX12 TX12 28 ∈ TB := TB_7 (List.mem_of_getElem? (i := 178) rfl) rfl
theorem wdY_X12_29 : u_lay RX12 TX12 29 ∈ TB := TB_7 (List.mem_of_getElem? (i := 180) rfl) rfl
theorem wdY_X12_30 : u_lay RX12 TX12 30 ∈ TB := TB_7 (List.mem_of_getElem? (i := 182) rfl) rfl
theorem wdY_X12_31 : u_lay RX12 TX12 31 ∈ TB := TB_7 (List.mem_of_getElem? (i := 184) rfl) rfl
theorem wdY_X12_32 : u_lay RX12 TX12 32 ∈ TB := TB_7 (List.mem_of_getElem? (i := 186) rfl) rfl
theorem wdY_X12_33 : u_lay RX12 TX12 33 ∈ TB := TB_7 (List.mem_of_getElem? (i := 188) rfl) rfl
theorem wdY_X12_34 : u_lay RX12 TX12 34 ∈ TB := TB_7 (List.mem_of_getElem? (i := 190) rfl) rfl
theorem wdY_X12_35 : u_lay RX12 TX12 35 ∈ TB := TB_7 (List.mem_of_getElem? (i := 192) rfl) rfl
theorem wdY_X12_36 : u_lay RX12 TX12 36 ∈ TB := TB_7 (List.mem_of_getElem? (i := 194) rfl) rfl
theorem wdY_X12_37 : u_lay RX12 TX12 37 ∈ TB := TB_7 (List.mem_of_getElem? (i := 196) rfl) rfl
theorem wdY_X12_38 : u_lay RX12 TX12 38 ∈ TB := TB_7 (List.mem_of_getElem? (i := 198) rfl) rfl
theorem wdY_X12_39 : u_lay RX12 TX12 39 ∈ TB := TB_7 (List.mem_of_getElem? (i := 200) rfl) rfl
theorem wdY_X12_40 : u_lay RX12 TX12 40 ∈ TB := TB_7 (List.mem_of_getElem? (i := 202) rfl) rfl
theorem wdY_X12_41 : u_lay RX12 TX12 41 ∈ TB := TB_7 (List.mem_of_getElem? (i := 204) rfl) rfl
theorem wdY_X12_42 : u_lay RX12 TX12 42 ∈ TB := TB_7 (List.mem_of_getElem? (i := 206) rfl) rfl
theorem wdY_X12_43 : u_lay RX12 TX12 43 ∈ TB := TB_7 (List.mem_of_getElem? (i := 208) rfl) rfl
theorem wdY_X12_44 : u_lay RX12 TX12 44 ∈ TB := TB_7 (List.mem_of_getElem? (i := 210) rfl) rfl
theorem wdY_X12_45 : u_lay RX12 TX12 45 ∈ TB := TB_7 (List.mem_of_getElem? (i := 212) rfl) rfl
theorem wdY_X12_46 : u_lay RX12 TX12 46 ∈ TB := TB_7 (List.mem_of_getElem? (i := 214) rfl) rfl
theorem wdY_X12_47 : u_lay RX12 TX12 47 ∈ TB := TB_7 (List.mem_of_getElem? (i := 216) rfl) rfl
theorem wdY_X12_48 : u_lay RX12 TX12 48 ∈ TB := TB_7 (List.mem_of_getElem? (i := 218) rfl) rfl
theorem wdY_X12_49 : u_lay RX12 TX12 49 ∈ TB := TB_7 (List.mem_of_getElem? (i := 220) rfl) rfl
theorem wdY_X12_50 : u_lay RX12 TX12 50 ∈ TB := TB_7 (List.mem_of_getElem? (i := 222) rfl) rfl
theorem wdY_X12_51 : u_lay RX12 TX12 51 ∈ TB := TB_7 (List.mem_of_getElem? (i := 224) rfl) rfl
theorem wdY_X12_52 : u_lay RX12 TX12 52 ∈ TB := TB_7 (List.mem_of_getElem? (i := 226) rfl) rfl
theorem wdY_X12_53 : u_lay RX12 TX12 53 ∈ TB := TB_7 (List.mem_of_getElem? (i := 228) rfl) rfl
theorem wdY_X12_54 : u_lay RX12 TX12 54 ∈ TB := TB_7 (List.mem_of_getElem? (i := 230) rfl) rfl
theorem wdY_X12_55 : u_lay RX12 TX12 55 ∈ TB := TB_7 (List.mem_of_getElem? (i := 232) rfl) rfl
theorem wdY_X12_56 : u_lay RX12 TX12 56 ∈ TB := TB_7 (List.mem_of_getElem? (i := 234) rfl) rfl
theorem wdY_X12_57 : u_lay RX12 TX12 57 ∈ TB := TB_7 (List.mem_of_getElem? (i := 236) rfl) rfl
theorem wdY_X12_58 : u_lay RX12 TX12 58 ∈ TB := TB_7 (List.mem_of_getElem? (i := 238) rfl) rfl
theorem wdY_X12_59 : u_lay RX12 TX12 59 ∈ TB := TB_8 (List.mem_of_getElem? (i := 0) rfl) rfl
theorem wdY_X12_60 : u_lay RX12 TX12 60 ∈ TB := TB_8 (List.mem_of_getElem? (i := 2) rfl) rfl
theorem wdY_X12_61 : u_lay RX12 TX12 61 ∈ TB := TB_8 (List.mem_of_getElem? (i := 4) rfl) rfl
theorem wdY_X12_62 : u_lay RX12 TX12 62 ∈ TB := TB_8 (List.mem_of_getElem? (i := 6) rfl) rfl
theorem wdY_X12_63 : u_lay RX12 TX12 63 ∈ TB := TB_8 (List.mem_of_getElem? (i := 8) rfl) rfl
theorem wdY_X12_64 : u_lay RX12 TX12 64 ∈ TB := TB_8 (List.mem_of_getElem? (i := 10) rfl) rfl
theorem wdY_X12_65 : u_lay RX12 TX12 65 ∈ TB := TB_8 (List.mem_of_getElem? (i := 12) rfl) rfl
theorem wdY_X12_66 : u_lay RX12 TX12 66 ∈ TB := TB_8 (List.mem_of_getElem? (i := 14) rfl) rfl
theorem wdY_X12_67 : u_lay RX12 TX12 67 ∈ TB := TB_8 (List.mem_of_getElem? (i := 16) rfl) rfl
theorem wdY_X12_68 : u_lay RX12 TX12 68 ∈ TB := TB_8 (List.mem_of_getElem? (i := 18) rfl) rfl
theorem wdY_X12_69 : u_lay RX12 TX12 69 ∈ TB := TB_8 (List.mem_of_getElem? (i := 20) rfl) rfl
theorem wdY_X12_70 : u_lay RX12 TX12 70 ∈ TB := TB_8 (List.mem_of_getElem? (i := 22) rfl) rfl
theorem wdY_X12_71 : u_lay RX12 TX12 71 ∈ TB := TB_8 (List.mem_of_getElem? (i := 24) rfl) rfl
theorem wdY_X12_72 : u_lay RX12 TX12 72 ∈ TB := TB_8 (List.mem_of_getElem? (i := 26) rfl) rfl
theorem wdY_X12_73 : u_lay RX12 TX12 73 ∈ TB := TB_8 (List.mem_of_getElem? (i := 28) rfl) rfl
theorem wdY_X12_74 : u_lay RX12 TX12 74 ∈ TB := TB_8 (List.mem_of_getElem? (i := 30) rfl) rfl
theorem wdY_X12_75 : u_lay RX12 TX12 75 ∈ TB := TB_8 (List.mem_of_getElem? (i := 32) rfl) rfl
theorem wdY_X12_76 : u_lay RX12 TX12 76 ∈ TB := TB_8 (List.mem_of_getElem? (i := 34) rfl) rfl
theorem wdY_X12_77 : u_lay RX12 TX12 77 ∈ TB := TB_8 (List.mem_of_getElem? (i := 36) rfl) rfl
theorem wdY_X12_78 : u_lay RX12 TX12 78 ∈ TB := TB_8 (List.mem_of_getElem? (i := 38) rfl) rfl
theorem wdY_X12_79 : u_lay RX12 TX12 79 ∈ TB := TB_8 (List.mem_of_getElem? (i := 40) rfl) rfl
theorem wdY_X12_80 : u_lay RX12 TX12 80 ∈ TB := TB_8 (List.mem_of_getElem? (i := 42) rfl) rfl
theorem wdY_X12_81 : u_lay RX12 TX12 81 ∈ TB := TB_8 (List.mem_of_getElem? (i := 44) rfl) rfl
theorem wdY_X12_82 : u_lay RX12 TX12 82 ∈ TB := TB_8 (List.mem_of_getElem? (i := 46) rfl) rfl
theorem wdY_X12_83 : u_lay RX12 TX12 83 ∈ TB := TB_8 (List.mem_of_getElem? (i := 48) rfl) rfl
theorem wdY_X12_84 : u_lay RX12 TX12 84 ∈ TB := TB_8 (List.mem_of_getElem? (i := 50) rfl) rfl
theorem wdY_X12_85 : u_lay RX12 TX12 85 ∈ TB := TB_8 (List.mem_of_getElem? (i := 52) rfl) rfl
theorem wdY_X12_86 : u_lay RX12 TX12 86 ∈ TB := TB_8 (List.mem_of_getElem? (i := 54) rfl) rfl
theorem wdY_X12_87 : u_lay RX12 TX12 87 ∈ TB := TB_8 (List.mem_of_getElem? (i := 56) rfl) rfl
theorem wdY_X12_88 : u_lay RX12 TX12 88 ∈ TB := TB_8 (List.mem_of_getElem? (i := 58) rfl) rfl
theorem wdY_X12_89 : u_lay RX12 TX12 89 ∈ TB := TB_8 (List.mem_of_getElem? (i := 60) rfl) rfl
theorem wdY_X12_90 : u_lay RX12 TX12 90 ∈ TB := TB_8 (List.mem_of_getElem? (i := 62) rfl) rfl
theorem wdY_X12_91 : u_lay RX12 TX12 91 ∈ TB := TB_8 (List.mem_of_getElem? (i := 64) rfl) rfl
theorem wdY_X12_92 : u_lay RX12 TX12 92 ∈ TB := TB_8 (List.mem_of_getElem? (i := 66) rfl) rfl
theorem wdY_X12_93 : u_lay RX12 TX12 93 ∈ TB := TB_8 (List.mem_of_getElem? (i := 68) rfl) rfl
theorem wdY_X12_94 : u_lay RX12 TX12 94 ∈ TB := TB_8 (List.mem_of_getElem? (i := 70) rfl) rfl
theorem wdY_X12_95 : u_lay RX12 TX12 95 ∈ TB := TB_8 (List.mem_of_getElem? (i := 72) rfl) rfl
theorem wdY_X12_96 : u_lay RX12 TX12 96 ∈ TB := TB_8 (List.mem_of_getElem? (i := 74) rfl) rfl
theorem wdY_X12_97 : u_lay RX12 TX12 97 ∈ TB := TB_8 (List.mem_of_getElem? (i := 76) rfl) rfl
theorem wdY_X12_98 : u_lay RX12 TX12 98 ∈ TB := TB_8 (List.mem_of_getElem? (i := 78) rfl) rfl
theorem wdY_X12_99 : u_lay RX12 TX12 99 ∈ TB := TB_8 (List.mem_of_getElem? (i := 80) rfl) rfl
theorem wdY_X12_100 : u_lay RX12 TX12 100 ∈ TB := TB_8 (List.mem_of_getElem? (i := 82) rfl) rfl
theorem wdY_X12_101 : u_lay RX12 TX12 101 ∈ TB := TB_8 (List.mem_of_getElem? (i := 84) rfl) rfl
theorem wdY_X12_102 : u_lay RX12 TX12 102 ∈ TB := TB_8 (List.mem_of_getElem? (i := 86) rfl) rfl
theorem wdY_X12_103 : u_lay RX12 TX12 103 ∈ TB := TB_8 (List.mem_of_getElem? (i := 88) rfl) rfl
theorem wdY_X12_104 : u_lay RX12 TX12 104 ∈ TB := TB_8 (List.mem_of_getElem? (i := 90) rfl) rfl
theorem wdY_X12_105 : u_lay RX12 TX12 105 ∈ TB := TB_8 (List.mem_of_getElem? (i := 92) rfl) rfl
theorem wdY_X12_106 : u_lay RX12 TX12 106 ∈ TB := TB_8 (List.mem_of_getElem? (i := 94) rfl) rfl
theorem wdY_X12_107 : u_lay RX12 TX12 107 ∈ TB := TB_8 (List.mem_of_getElem? (i := 96) rfl) rfl
theorem wdY_X12_108 : u_lay RX12 TX12 108 ∈ TB := TB_8 (List.mem_of_getElem? (i := 98) rfl) rfl
theorem wdY_X12_109 : u_lay RX12 TX12 109 ∈ TB := TB_8 (List.mem_of_getElem? (i := 100) rfl) rfl
theorem wdY_X12_110 : u_lay RX12 TX12 110 ∈ TB := TB_8 (List.mem_of_getElem? (i := 102) rfl) rfl
theorem wdY_X12_111 : u_lay RX12 TX12 111 ∈ TB := TB_8 (List.mem_of_getElem? (i := 104) rfl) rfl
theorem wdY_X12_112 : u_lay RX12 TX12 112 ∈ TB := TB_8 (List.mem_of_getElem? (i := 106) rfl) rfl
theorem wdY_X12_113 : u_lay RX12 TX12 113 ∈ TB := TB_8 (List.mem_of_getElem? (i := 108) rfl) rfl
theorem wdY_X12_114 : u_lay RX12 TX12 114 ∈ TB := TB_8 (List.mem_of_getElem? (i := 110) rfl) rfl
theorem wdY_X12_115 : u_lay RX12 TX12 115 ∈ TB := TB_8 (List.mem_of_getElem? (i := 112) rfl) rfl
theorem wdM_RL_45 : Cond.methodLink RL 45 yX12_set ∈ TB := TB_8 (List.mem_of_getElem? (i := 115) rfl) rfl
theorem wdN_X12_set : Cond.instanceMethod yX12_set ∈ TB := TB_8 (List.mem_of_getElem? (i := 116) rfl) rfl
theorem wdS_X12_set : Cond.selects yX12_set.cls yX12_set yX12_set ∈ TB := TB_8 (List.mem_of_getElem? (i := 117) rfl) rfl
theorem wdK_X12_set : Cond.code yX12_set cX12_set 3 (some .boolean) ∈ TB := TB_8 (List.mem_of_getElem? (i := 118) rfl) rfl
theorem wdM_RL_49 : Cond.methodLink RL 49 yX12_mark ∈ TB := TB_8 (List.mem_of_getElem? (i := 119) rfl) rfl
theorem wdN_X12_mark : Cond.instanceMethod yX12_mark ∈ TB := TB_8 (List.mem_of_getElem? (i := 120) rfl) rfl
theorem wdS_X12_mark : Cond.selects yX12_mark.cls yX12_mark yX12_mark ∈ TB := TB_8 (List.mem_of_getElem? (i := 121) rfl) rfl
theorem wdK_X12_mark : Cond.code yX12_mark cX12_mark 1 none ∈ TB := TB_8 (List.mem_of_getElem? (i := 122) rfl) rfl
theorem wdM_RL_17 : Cond.methodLink RL 17 yX12_feed ∈ TB := TB_8 (List.mem_of_getElem? (i := 123) rfl) rfl
theorem wdN_X12_feed : Cond.instanceMethod yX12_feed ∈ TB := TB_8 (List.mem_of_getElem? (i := 124) rfl) rfl
theorem wdS_X12_feed : Cond.selects yX12_feed.cls yX12_feed yX12_feed ∈ TB := TB_8 (List.mem_of_getElem? (i := 125) rfl) rfl
theorem wdK_X12_feed : Cond.code yX12_feed cX12_feed 8 (some .boolean) ∈ TB := TB_8 (List.mem_of_getElem? (i := 126) rfl) rfl
theorem wdM_RL_22 : Cond.methodLink RL 22 yX12_end ∈ TB := TB_8 (List.mem_of_getElem? (i := 127) rfl) rfl
theorem wdN_X12_end : Cond.instanceMethod yX12_end ∈ TB := TB_8 (List.mem_of_getElem? (i := 128) rfl) rfl
theorem wdS_X12_end : Cond.selects yX12_end.cls yX12_end yX12_end ∈ TB := TB_8 (List.mem_of_getElem? (i := 129) rfl) rfl
theorem wdK_X12_end : Cond.code yX12_end cX12_end 2 (some .boolean) ∈ TB := TB_8 (List.mem_of_getElem? (i := 130) rfl) rfl
theorem wdM_RL_27 : Cond.methodLink RL 27 yX12_load ∈ TB := TB_8 (List.mem_of_getElem? (i := 131) rfl) rfl
theorem wdN_X12_load : Cond.instanceMethod yX12_load ∈ TB := TB_8 (List.mem_of_getElem? (i := 132) rfl) rfl
theorem wdS_X12_load : Cond.selects yX12_load.cls yX12_load yX12_load ∈ TB := TB_8 (List.mem_of_getElem? (i := 133) rfl) rfl
theorem wdK_X12_load : Cond.code yX12_load cX12_load 8 (some .int) ∈ TB := TB_8 (List.mem_of_getElem? (i := 134) rfl) rfl
theorem wdM_RX12_425 : Cond.methodLink RX12 425 yX12_opensText ∈ TB := TB_8 (List.mem_of_getElem? (i := 135) rfl) rfl
theorem wdN_X12_opensText : Cond.instanceMethod yX12_opensText ∈ TB := TB_8 (List.mem_of_getElem? (i := 137) rfl) rfl
theorem wdK_X12_opensText : Cond.code yX12_opensText cX12_opensText 1 none ∈ TB := TB_8 (List.mem_of_getElem? (i := 138) rfl) rfl
theorem wdM_RX12_323 : Cond.methodLink RX12 323 yX12_next ∈ TB := TB_8 (List.mem_of_getElem? (i := 139) rfl) rfl
theorem wdN_X12_next : Cond.instanceMethod yX12_next ∈ TB := TB_8 (List.mem_of_getElem? (i := 141) rfl) rfl
theorem wdK_X12_next : Cond.code yX12_next cX12_next 3 none ∈ TB := TB_8 (List.mem_of_getElem? (i := 142) rfl) rfl
theorem wdM_RX12_267 : Cond.methodLink RX12 267 yX12_byteAt ∈ TB := TB_8 (List.mem_of_getElem? (i := 143) rfl) rfl
theorem wdN_X12_byteAt : Cond.instanceMethod yX12_byteAt ∈ TB := TB_8 (List.mem_of_getElem? (i := 145) rfl) rfl
theorem wdK_X12_byteAt : Cond.code yX12_byteAt cX12_byteAt 2 (some .int) ∈ TB := TB_8 (List.mem_of_getElem? (i := 146) rfl) rfl
theorem wdM_RX12_271 : Cond.methodLink RX12 271 yX12_isBlank ∈ TB := TB_8 (List.mem_of_getElem? (i := 147) rfl) rfl
theorem wdT_X12_isBlank : Cond.static yX12_isBlank ∈ TB := TB_8 (List.mem_of_getElem? (i := 148) rfl) rfl
theorem wdK_X12_isBlank : Cond.code yX12_isBlank cX12_isBlank 1 (some .boolean) ∈ TB := TB_8 (List.mem_of_getElem? (i := 149) rfl) rfl
theorem wdM_RX12_281 : Cond.methodLink RX12 281 yX12_isLetter ∈ TB := TB_8 (List.mem_of_getElem? (i := 150) rfl) rfl
theorem wdT_X12_isLetter : Cond.static yX12_isLetter ∈ TB := TB_8 (List.mem_of_getElem? (i := 151) rfl) rfl
theorem wdK_X12_isLetter : Cond.code yX12_isLetter cX12_isLetter 1 (some .boolean) ∈ TB := TB_8 (List.mem_of_getElem? (i := 152) rfl) rfl
theorem wdM_RX12_284 : Cond.methodLink RX12 284 yX12_isDigit ∈ TB := TB_8 (List.mem_of_getElem? (i := 153) rfl) rfl
theorem wdT_X12_isDigit : Cond.static yX12_isDigit ∈ TB := TB_8 (List.mem_of_getElem? (i := 154) rfl) rfl
theorem wdK_X12_isDigit : Cond.code yX12_isDigit cX12_isDigit 1 (some .boolean) ∈ TB := TB_8 (List.mem_of_getElem? (i := 155) rfl) rfl
theorem wdM_RX12_290 : Cond.methodLink RX12 290 yX12_keyAt ∈ TB := TB_8 (List.mem_of_getElem? (i := 156) rfl) rfl
theorem wdN_X12_keyAt : Cond.instanceMethod yX12_keyAt ∈ TB := TB_8 (List.mem_of_getElem? (i := 158) rfl) rfl
theorem wdK_X12_keyAt : Cond.code yX12_keyAt cX12_keyAt 6 (some .int) ∈ TB := TB_8 (List.mem_of_getElem? (i := 159) rfl) rfl
theorem wdM_RX12_299 : Cond.methodLink RX12 299 yJ0_length_8abf5 ∈ TB := TB_8 (List.mem_of_getElem? (i := 161) rfl) rfl
theorem wdM_RX12_304 : Cond.methodLink RX12 304 yJ0_charAt_5068e ∈ TB := TB_8 (List.mem_of_getElem? (i := 162) rfl) rfl
theorem wdM_RX12_326 : Cond.methodLink RX12 326 yX12_isKey ∈ TB := TB_8 (List.mem_of_getElem? (i := 163) rfl) rfl
theorem wdN_X12_isKey : Cond.instanceMethod yX12_isKey ∈ TB := TB_8 (List.mem_of_getElem? (i := 165) rfl) rfl
theorem wdK_X12_isKey : Cond.code yX12_isKey cX12_isKey 2 (some .boolean) ∈ TB := TB_8 (List.mem_of_getElem? (i := 166) rfl) rfl
theorem wdM_RX12_428 : Cond.methodLink RX12 428 yX12_form ∈ TB := TB_8 (List.mem_of_getElem? (i := 167) rfl) rfl
theorem wdN_X12_form : Cond.instanceMethod yX12_form ∈ TB := TB_8 (List.mem_of_getElem? (i := 169) rfl) rfl
theorem wdK_X12_form : Cond.code yX12_form cX12_form 5 (some .boolean) ∈ TB := TB_8 (List.mem_of_getElem? (i := 170) rfl) rfl
theorem wdM_RX12_317 : Cond.methodLink RX12 317 yX12_wrong ∈ TB := TB_8 (List.mem_of_getElem? (i := 171) rfl) rfl
theorem wdN_X12_wrong : Cond.instanceMethod yX12_wrong ∈ TB := TB_8 (List.mem_of_getElem? (i := 173) rfl) rfl
theorem wdK_X12_wrong : Cond.code yX12_wrong cX12_wrong 2 (some .boolean) ∈ TB := TB_8 (List.mem_of_getElem? (i := 174) rfl) rfl
theorem wdM_RX12_365 : Cond.methodLink RX12 365 yX12_newName ∈ TB := TB_8 (List.mem_of_getElem? (i := 175) rfl) rfl
theorem wdN_X12_newName : Cond.instanceMethod yX12_newName ∈ TB := TB_8 (List.mem_of_getElem? (i := 177) rfl) rfl
theorem wdK_X12_newName : Cond.code yX12_newName cX12_newName 1 (some .boolean) ∈ TB := TB_8 (List.mem_of_getElem? (i := 178) rfl) rfl
theorem wdM_RX12_350 : Cond.methodLink RX12 350 yX12_nameAt ∈ TB := TB_8 (List.mem_of_getElem? (i := 179) rfl) rfl
theorem wdN_X12_nameAt : Cond.instanceMethod yX12_nameAt ∈ TB := TB_8 (List.mem_of_getElem? (i := 181) rfl) rfl
theorem wdK_X12_nameAt : Cond.code yX12_nameAt cX12_nameAt 4 (some .int) ∈ TB := TB_8 (List.mem_of_getElem? (i := 182) rfl) rfl
theorem wdM_RX12_329 : Cond.methodLink RX12 329 yX12_takes ∈ TB := TB_8 (List.mem_of_getElem? (i := 183) rfl) rfl
theorem wdN_X12_takes : Cond.instanceMethod yX12_takes ∈ TB := TB_8 (List.mem_of_getElem? (i := 185) rfl) rfl
theorem wdK_X12_takes : Cond.code yX12_takes cX12_takes 2 (some .boolean) ∈ TB := TB_8 (List.mem_of_getElem? (i := 186) rfl) rfl
theorem wdM_RX12_344 : Cond.methodLink RX12 344 yX12_sign ∈ TB := TB_8 (List.mem_of_getElem? (i := 187) rfl) rfl
theorem wdN_X12_sign : Cond.instanceMethod yX12_sign ∈ TB := TB_8 (List.mem_of_getElem? (i := 189) rfl) rfl
theorem wdK_X12_sign : Cond.code yX12_sign cX12_sign 2 (some .boolean) ∈ TB := TB_8 (List.mem_of_getElem? (i := 190) rfl) rfl
theorem wdM_RX12_332 : Cond.methodLink RX12 332 yX12_isSign ∈ TB := TB_8 (List.mem_of_getElem? (i := 191) rfl) rfl
theorem wdN_X12_isSign : Cond.instanceMethod yX12_isSign ∈ TB := TB_8 (List.mem_of_getElem? (i := 193) rfl) rfl
theorem wdK_X12_isSign : Cond.code yX12_isSign cX12_isSign 2 (some .boolean) ∈ TB := TB_8 (List.mem_of_getElem? (i := 194) rfl) rfl
theorem wdM_RX12_369 : Cond.methodLink RX12 369 yX12_slot ∈ TB := TB_8 (List.mem_of_getElem? (i := 195) rfl) rfl
theorem wdN_X12_slot : Cond.instanceMethod yX12_slot ∈ TB := TB_8 (List.mem_of_getElem? (i := 197) rfl) rfl
theorem wdK_X12_slot : Cond.code yX12_slot cX12_slot 4 (some .boolean) ∈ TB := TB_8 (List.mem_of_getElem? (i := 198) rfl) rfl
theorem wdM_RX12_372 : Cond.methodLink RX12 372 yX12_tell ∈ TB := TB_8 (List.mem_of_getElem? (i := 199) rfl) rfl
theorem wdN_X12_tell : Cond.instanceMethod yX12_tell ∈ TB := TB_8 (List.mem_of_getElem? (i := 201) rfl) rfl
theorem wdK_X12_tell : Cond.code yX12_tell cX12_tell 6 none ∈ TB := TB_8 (List.mem_of_getElem? (i := 202) rfl) rfl
theorem wdM_RX12_431 : Cond.methodLink RX12 431 yX12_figure ∈ TB := TB_8 (List.mem_of_getElem? (i := 203) rfl) rfl
theorem wdN_X12_figure : Cond.instanceMethod yX12_figure ∈ TB := TB_8 (List.mem_of_getElem? (i := 205) rfl) rfl
theorem wdK_X12_figure : Cond.code yX12_figure cX12_figure 7 (some .boolean) ∈ TB := TB_8 (List.mem_of_getElem? (i := 206) rfl) rfl
theorem wdM_RX12_378 : Cond.methodLink RX12 378 yX12_key ∈ TB := TB_8 (List.mem_of_getElem? (i := 207) rfl) rfl
theorem wdN_X12_key : Cond.instanceMethod yX12_key ∈ TB := TB_8 (List.mem_of_getElem? (i := 209) rfl) rfl
theorem wdK_X12_key : Cond.code yX12_key cX12_key 2 (some .boolean) ∈ TB := TB_8 (List.mem_of_getElem? (i := 210) rfl) rfl
theorem wdM_RX12_381 : Cond.methodLink RX12 381 yX12_knownName ∈ TB := TB_8 (List.mem_of_getElem? (i := 211) rfl) rfl
theorem wdN_X12_knownName : Cond.instanceMethod yX12_knownName ∈ TB := TB_8 (List.mem_of_getElem? (i := 213) rfl) rfl
theorem wdK_X12_knownName : Cond.code yX12_knownName cX12_knownName 3 (some .boolean) ∈ TB := TB_8 (List.mem_of_getElem? (i := 214) rfl) rfl
theorem wdM_RX12_384 : Cond.methodLink RX12 384 yX12_number ∈ TB := TB_8 (List.mem_of_getElem? (i := 215) rfl) rfl
theorem wdN_X12_number : Cond.instanceMethod yX12_number ∈ TB := TB_8 (List.mem_of_getElem? (i := 217) rfl) rfl
theorem wdK_X12_number : Cond.code yX12_number cX12_number 3 (some .boolean) ∈ TB := TB_8 (List.mem_of_getElem? (i := 218) rfl) rfl
theorem wdM_RX12_434 : Cond.methodLink RX12 434 yX12_part ∈ TB := TB_8 (List.mem_of_getElem? (i := 219) rfl) rfl
theorem wdN_X12_part : Cond.instanceMethod yX12_part ∈ TB := TB_8 (List.mem_of_getElem? (i := 221) rfl) rfl
theorem wdK_X12_part : Cond.code yX12_part cX12_part 3 (some .boolean) ∈ TB := TB_8 (List.mem_of_getElem? (i := 222) rfl) rfl
theorem wdM_RX12_389 : Cond.methodLink RX12 389 yX12_block ∈ TB := TB_8 (List.mem_of_getElem? (i := 223) rfl) rfl
theorem wdN_X12_block : Cond.instanceMethod yX12_block ∈ TB := TB_8 (List.mem_of_getElem? (i := 225) rfl) rfl
theorem wdK_X12_block : Cond.code yX12_block cX12_block 2 (some .boolean) ∈ TB := TB_8 (List.mem_of_getElem? (i := 226) rfl) rfl
theorem wdM_RX12_398 : Cond.methodLink RX12 398 yX12_opensBy ∈ TB := TB_8 (List.mem_of_getElem? (i := 227) rfl) rfl
theorem wdN_X12_opensBy : Cond.instanceMethod yX12_opensBy ∈ TB := TB_8 (List.mem_of_getElem? (i := 229) rfl) rfl
theorem wdK_X12_opensBy : Cond.code yX12_opensBy cX12_opensBy 2 (some .boolean) ∈ TB := TB_8 (List.mem_of_getElem? (i := 230) rfl) rfl
theorem wdM_RX12_341 : Cond.methodLink RX12 341 yX12_opens ∈ TB := TB_8 (List.mem_of_getElem? (i := 231) rfl) rfl
theorem wdN_X12_opens : Cond.instanceMethod yX12_opens ∈ TB := TB_8 (List.mem_of_getElem? (i := 233) rfl) rfl
theorem wdK_X12_opens : Cond.code yX12_opens cX12_opens 2 (some .boolean) ∈ TB := TB_8 (List.mem_of_getElem? (i := 234) rfl) rfl
theorem wdM_RX12_401 : Cond.methodLink RX12 401 yX12_statement ∈ TB := TB_8 (List.mem_of_getElem? (i := 235) rfl) rfl
theorem wdN_X12_statement : Cond.instanceMethod yX12_statement ∈ TB := TB_8 (List.mem_of_getElem? (i := 237) rfl) rfl
theorem wdK_X12_statement : Cond.code yX12_statement cX12_statement 1 (some .boolean) ∈ TB := TB_8 (List.mem_of_getElem? (i := 238) rfl) rfl
theorem wdM_RX12_407 : Cond.methodLink RX12 407 yX12_condition ∈ TB := TB_8 (List.mem_of_getElem? (i := 239) rfl) rfl
theorem wdN_X12_condition : Cond.instanceMethod yX12_condition ∈ TB := TB_9 (List.mem_of_getElem? (i := 1) rfl) rfl
theorem wdK_X12_condition : Cond.code yX12_condition cX12_condition 1 (some .boolean) ∈ TB := TB_9 (List.mem_of_getElem? (i := 2) rfl) rfl
theorem wdM_RX12_419 : Cond.methodLink RX12 419 yX12_conditionAnd ∈ TB := TB_9 (List.mem_of_getElem? (i := 3) rfl) rfl
theorem wdN_X12_conditionAnd : Cond.instanceMethod yX12_conditionAnd ∈ TB := TB_9 (List.mem_of_getElem? (i := 5) rfl) rfl
theorem wdK_X12_conditionAnd : Cond.code yX12_conditionAnd cX12_conditionAnd 1 (some .boolean) ∈ TB := TB_9 (List.mem_of_getElem? (i := 6) rfl) rfl
theorem wdM_RX12_422 : Cond.methodLink RX12 422 yX12_conditionOne ∈ TB := TB_9 (List.mem_of_getElem? (i := 7) rfl) rfl
theorem wdN_X12_conditionOne : Cond.instanceMethod yX12_conditionOne ∈ TB := TB_9 (List.mem_of_getElem? (i := 9) rfl) rfl
theorem wdK_X12_conditionOne : Cond.code yX12_conditionOne cX12_conditionOne 1 (some .boolean) ∈ TB := TB_9 (List.mem_of_getElem? (i := 10) rfl) rfl
theorem wdM_RX12_404 : Cond.methodLink RX12 404 yX12_closesBy ∈ TB := TB_9 (List.mem_of_getElem? (i := 11) rfl) rfl
theorem wdN_X12_closesBy : Cond.instanceMethod yX12_closesBy ∈ TB := TB_9 (List.mem_of_getElem? (i := 13) rfl) rfl
theorem wdK_X12_closesBy : Cond.code yX12_closesBy cX12_closesBy 2 (some .boolean) ∈ TB := TB_9 (List.mem_of_getElem? (i := 14) rfl) rfl
theorem wdM_RX12_410 : Cond.methodLink RX12 410 yX12_whoText ∈ TB := TB_9 (List.mem_of_getElem? (i := 15) rfl) rfl
theorem wdN_X12_whoText : Cond.instanceMethod yX12_whoText ∈ TB := TB_9 (List.mem_of_getElem? (i := 17) rfl) rfl
theorem wdK_X12_whoText : Cond.code yX12_whoText cX12_whoText 1 (some .boolean) ∈ TB := TB_9 (List.mem_of_getElem? (i := 18) rfl) rfl
theorem wdM_RX12_413 : Cond.methodLink RX12 413 yX12_whoAnd ∈ TB := TB_9 (List.mem_of_getElem? (i := 19) rfl) rfl
theorem wdN_X12_whoAnd : Cond.instanceMethod yX12_whoAnd ∈ TB := TB_9 (List.mem_of_getElem? (i := 21) rfl) rfl
theorem wdK_X12_whoAnd : Cond.code yX12_whoAnd cX12_whoAnd 1 (some .boolean) ∈ TB := TB_9 (List.mem_of_getElem? (i := 22) rfl) rfl
theorem wdM_RX12_416 : Cond.methodLink RX12 416 yX12_whoOne ∈ TB := TB_9 (List.mem_of_getElem? (i := 23) rfl) rfl
theorem wdN_X12_whoOne : Cond.instanceMethod yX12_whoOne ∈ TB := TB_9 (List.mem_of_getElem? (i := 25) rfl) rfl
theorem wdK_X12_whoOne : Cond.code yX12_whoOne cX12_whoOne 1 (some .boolean) ∈ TB := TB_9 (List.mem_of_getElem? (i := 26) rfl) rfl
theorem wdM_RX12_395 : Cond.methodLink RX12 395 yX12_stepText ∈ TB := TB_9 (List.mem_of_getElem? (i := 27) rfl) rfl
theorem wdN_X12_stepText : Cond.instanceMethod yX12_stepText ∈ TB := TB_9 (List.mem_of_getElem? (i := 29) rfl) rfl
theorem wdK_X12_stepText : Cond.code yX12_stepText cX12_stepText 3 (some .boolean) ∈ TB := TB_9 (List.mem_of_getElem? (i := 30) rfl) rfl
theorem wdM_RX12_437 : Cond.methodLink RX12 437 yX12_allow ∈ TB := TB_9 (List.mem_of_getElem? (i := 31) rfl) rfl
theorem wdN_X12_allow : Cond.instanceMethod yX12_allow ∈ TB := TB_9 (List.mem_of_getElem? (i := 33) rfl) rfl
theorem wdK_X12_allow : Cond.code yX12_allow cX12_allow 1 (some .boolean) ∈ TB := TB_9 (List.mem_of_getElem? (i := 34) rfl) rfl
theorem wdM_RL_35 : Cond.methodLink RL 35 yX12_fault ∈ TB := TB_9 (List.mem_of_getElem? (i := 35) rfl) rfl
theorem wdN_X12_fault : Cond.instanceMethod yX12_fault ∈ TB := TB_9 (List.mem_of_getElem? (i := 36) rfl) rfl
theorem wdS_X12_fault : Cond.selects yX12_fault.cls yX12_fault yX12_fault ∈ TB := TB_9 (List.mem_of_getElem? (i := 37) rfl) rfl
theorem wdK_X12_fault : Cond.code yX12_fault cX12_fault 1 (some .int) ∈ TB := TB_9 (List.mem_of_getElem? (i := 38) rfl) rfl
theorem wdM_RL_40 : Cond.methodLink RL 40 yX12_named ∈ TB := TB_9 (List.mem_of_getElem? (i := 39) rfl) rfl
theorem wdN_X12_named : Cond.instanceMethod yX12_named ∈ TB := TB_9 (List.mem_of_getElem? (i := 40) rfl) rfl
theorem wdS_X12_named : Cond.selects yX12_named.cls yX12_named yX12_named ∈ TB := TB_9 (List.mem_of_getElem? (i := 41) rfl) rfl
theorem wdK_X12_named : Cond.code yX12_named cX12_named 4 (some .int) ∈ TB := TB_9 (List.mem_of_getElem? (i := 42) rfl) rfl
theorem wdM_RL_65 : Cond.methodLink RL 65 yX12_failed ∈ TB := TB_9 (List.mem_of_getElem? (i := 43) rfl) rfl
theorem wdN_X12_failed : Cond.instanceMethod yX12_failed ∈ TB := TB_9 (List.mem_of_getElem? (i := 44) rfl) rfl
theorem wdS_X12_failed : Cond.selects yX12_failed.cls yX12_failed yX12_failed ∈ TB := TB_9 (List.mem_of_getElem? (i := 45) rfl) rfl
theorem wdK_X12_failed : Cond.code yX12_failed cX12_failed 2 (some .int) ∈ TB := TB_9 (List.mem_of_getElem? (i := 46) rfl) rfl
theorem wdM_RL_61 : Cond.methodLink RL 61 yX12_back ∈ TB := TB_9 (List.mem_of_getElem? (i := 47) rfl) rfl
theorem wdN_X12_back : Cond.instanceMethod yX12_back ∈ TB := TB_9 (List.mem_of_getElem? (i := 48) rfl) rfl
theorem wdS_X12_back : Cond.selects yX12_back.cls yX12_back yX12_back ∈ TB := TB_9 (List.mem_of_getElem? (i := 49) rfl) rfl
theorem wdK_X12_back : Cond.code yX12_back cX12_back 6 (some .boolean) ∈ TB := TB_9 (List.mem_of_getElem? (i := 50) rfl) rfl
theorem wdL_RX12_575 : Cond.constantLong RX12 575 (65535) ∈ TB := TB_9 (List.mem_of_getElem? (i := 51) rfl) rfl
theorem wdM_RL_31 : Cond.methodLink RL 31 yX12_call ∈ TB := TB_9 (List.mem_of_getElem? (i := 52) rfl) rfl
theorem wdN_X12_call : Cond.instanceMethod yX12_call ∈ TB := TB_9 (List.mem_of_getElem? (i := 53) rfl) rfl
theorem wdS_X12_call : Cond.selects yX12_call.cls yX12_call yX12_call ∈ TB := TB_9 (List.mem_of_getElem? (i := 54) rfl) rfl
theorem wdK_X12_call : Cond.code yX12_call cX12_call 3 (some .int) ∈ TB := TB_9 (List.mem_of_getElem? (i := 55) rfl) rfl
theorem wdM_RX12_577 : Cond.methodLink RX12 577 yX12_writes ∈ TB := TB_9 (List.mem_of_getElem? (i := 56) rfl) rfl
theorem wdN_X12_writes : Cond.instanceMethod yX12_writes ∈ TB := TB_9 (List.mem_of_getElem? (i := 58) rfl) rfl
theorem wdK_X12_writes : Cond.code yX12_writes cX12_writes 4 none ∈ TB := TB_9 (List.mem_of_getElem? (i := 59) rfl) rfl
theorem wdM_RX12_580 : Cond.methodLink RX12 580 yX12_everybody ∈ TB := TB_9 (List.mem_of_getElem? (i := 60) rfl) rfl
theorem wdN_X12_everybody : Cond.instanceMethod yX12_everybody ∈ TB := TB_9 (List.mem_of_getElem? (i := 62) rfl) rfl
theorem wdK_X12_everybody : Cond.code yX12_everybody cX12_everybody 1 (some .long) ∈ TB := TB_9 (List.mem_of_getElem? (i := 63) rfl) rfl
theorem wdL_RX12_440 : Cond.constantLong RX12 440 (-1) ∈ TB := TB_9 (List.mem_of_getElem? (i := 64) rfl) rfl
theorem wdM_RX12_442 : Cond.methodLink RX12 442 yX12_one ∈ TB := TB_9 (List.mem_of_getElem? (i := 65) rfl) rfl
theorem wdT_X12_one : Cond.static yX12_one ∈ TB := TB_9 (List.mem_of_getElem? (i := 66) rfl) rfl
theorem wdK_X12_one : Cond.code yX12_one cX12_one 1 (some .long) ∈ TB := TB_9 (List.mem_of_getElem? (i := 67) rfl) rfl
theorem wdM_RX12_584 : Cond.methodLink RX12 584 yX12_dances ∈ TB := TB_9 (List.mem_of_getElem? (i := 68) rfl) rfl
theorem wdN_X12_dances : Cond.instanceMethod yX12_dances ∈ TB := TB_9 (List.mem_of_getElem? (i := 70) rfl) rfl
theorem wdK_X12_dances : Cond.code yX12_dances cX12_dances 4 (some .int) ∈ TB := TB_9 (List.mem_of_getElem? (i := 71) rfl) rfl
theorem wdM_RX12_559 : Cond.methodLink RX12 559 yX12_reckons ∈ TB := TB_9 (List.mem_of_getElem? (i := 72) rfl) rfl
theorem wdN_X12_reckons : Cond.instanceMethod yX12_reckons ∈ TB := TB_9 (List.mem_of_getElem? (i := 74) rfl) rfl
theorem wdK_X12_reckons : Cond.code yX12_reckons cX12_reckons 10 (some .boolean) ∈ TB := TB_9 (List.mem_of_getElem? (i := 75) rfl) rfl
theorem wdM_RX12_460 : Cond.methodLink RX12 460 yX12_readWho ∈ TB := TB_9 (List.mem_of_getElem? (i := 76) rfl) rfl
theorem wdN_X12_readWho : Cond.instanceMethod yX12_readWho ∈ TB := TB_9 (List.mem_of_getElem? (i := 78) rfl) rfl
theorem wdK_X12_readWho : Cond.code yX12_readWho cX12_readWho 5 (some .long) ∈ TB := TB_9 (List.mem_of_getElem? (i := 79) rfl) rfl
theorem wdM_RX12_450 : Cond.methodLink RX12 450 yX12_readAnd ∈ TB := TB_9 (List.mem_of_getElem? (i := 80) rfl) rfl
theorem wdN_X12_readAnd : Cond.instanceMethod yX12_readAnd ∈ TB := TB_9 (List.mem_of_getElem? (i := 82) rfl) rfl
theorem wdK_X12_readAnd : Cond.code yX12_readAnd cX12_readAnd 5 (some .long) ∈ TB := TB_9 (List.mem_of_getElem? (i := 83) rfl) rfl
theorem wdM_RX12_457 : Cond.methodLink RX12 457 yX12_readOne ∈ TB := TB_9 (List.mem_of_getElem? (i := 84) rfl) rfl
theorem wdN_X12_readOne : Cond.instanceMethod yX12_readOne ∈ TB := TB_9 (List.mem_of_getElem? (i := 86) rfl) rfl
theorem wdK_X12_readOne : Cond.code yX12_readOne cX12_readOne 9 (some .long) ∈ TB := TB_9 (List.mem_of_getElem? (i := 87) rfl) rfl
theorem wdM_RX12_463 : Cond.methodLink RX12 463 yX12_greedy ∈ TB := TB_9 (List.mem_of_getElem? (i := 88) rfl) rfl
theorem wdN_X12_greedy : Cond.instanceMethod yX12_greedy ∈ TB := TB_9 (List.mem_of_getElem? (i := 90) rfl) rfl
theorem wdK_X12_greedy : Cond.code yX12_greedy cX12_greedy 12 (some .long) ∈ TB := TB_9 (List.mem_of_getElem? (i := 91) rfl) rfl
theorem wdM_RX12_493 : Cond.methodLink RX12 493 yX12_sort ∈ TB := TB_9 (List.mem_of_getElem? (i := 92) rfl) rfl
theorem wdN_X12_sort : Cond.instanceMethod yX12_sort ∈ TB := TB_9 (List.mem_of_getElem? (i := 94) rfl) rfl
theorem wdK_X12_sort : Cond.code yX12_sort cX12_sort 3 none ∈ TB := TB_9 (List.mem_of_getElem? (i := 95) rfl) rfl
theorem wdM_RX12_467 : Cond.methodLink RX12 467 yX12_isBefore ∈ TB := TB_9 (List.mem_of_getElem? (i := 96) rfl) rfl
theorem wdN_X12_isBefore : Cond.instanceMethod yX12_isBefore ∈ TB := TB_9 (List.mem_of_getElem? (i := 98) rfl) rfl
theorem wdK_X12_isBefore : Cond.code yX12_isBefore cX12_isBefore 3 (some .boolean) ∈ TB := TB_9 (List.mem_of_getElem? (i := 99) rfl) rfl
theorem wdM_RX12_446 : Cond.methodLink RX12 446 yX12_has ∈ TB := TB_9 (List.mem_of_getElem? (i := 100) rfl) rfl
theorem wdT_X12_has : Cond.static yX12_has ∈ TB := TB_9 (List.mem_of_getElem? (i := 101) rfl) rfl
theorem wdK_X12_has : Cond.code yX12_has cX12_has 3 (some .boolean) ∈ TB := TB_9 (List.mem_of_getElem? (i := 102) rfl) rfl
theorem wdM_RX12_496 : Cond.methodLink RX12 496 yX12_fits ∈ TB := TB_9 (List.mem_of_getElem? (i := 103) rfl) rfl
theorem wdN_X12_fits : Cond.instanceMethod yX12_fits ∈ TB := TB_9 (List.mem_of_getElem? (i := 105) rfl) rfl
theorem wdK_X12_fits : Cond.code yX12_fits cX12_fits 13 (some .boolean) ∈ TB := TB_9 (List.mem_of_getElem? (i := 106) rfl) rfl
theorem wdM_RX12_470 : Cond.methodLink RX12 470 yX12_turnedX ∈ TB := TB_9 (List.mem_of_getElem? (i := 107) rfl) rfl
theorem wdT_X12_turnedX : Cond.static yX12_turnedX ∈ TB := TB_9 (List.mem_of_getElem? (i := 108) rfl) rfl
theorem wdK_X12_turnedX : Cond.code yX12_turnedX cX12_turnedX 3 (some .int) ∈ TB := TB_9 (List.mem_of_getElem? (i := 109) rfl) rfl
theorem wdM_RX12_474 : Cond.methodLink RX12 474 yX12_turnedY ∈ TB := TB_9 (List.mem_of_getElem? (i := 110) rfl) rfl
theorem wdT_X12_turnedY : Cond.static yX12_turnedY ∈ TB := TB_9 (List.mem_of_getElem? (i := 111) rfl) rfl
theorem wdK_X12_turnedY : Cond.code yX12_turnedY cX12_turnedY 3 (some .int) ∈ TB := TB_9 (List.mem_of_getElem? (i := 112) rfl) rfl
theorem wdM_RX12_477 : Cond.methodLink RX12 477 yX12_whoAt ∈ TB := TB_9 (List.mem_of_getElem? (i := 113) rfl) rfl
theorem wdN_X12_whoAt : Cond.instanceMethod yX12_whoAt ∈ TB := TB_9 (List.mem_of_getElem? (i := 115) rfl) rfl
theorem wdK_X12_whoAt : Cond.code yX12_whoAt cX12_whoAt 4 (some .int) ∈ TB := TB_9 (List.mem_of_getElem? (i := 116) rfl) rfl
theorem wdM_RX12_481 : Cond.methodLink RX12 481 yX12_turns ∈ TB := TB_9 (List.mem_of_getElem? (i := 117) rfl) rfl
theorem wdT_X12_turns : Cond.static yX12_turns ∈ TB := TB_9 (List.mem_of_getElem? (i := 118) rfl) rfl
theorem wdK_X12_turns : Cond.code yX12_turns cX12_turns 1 (some .int) ∈ TB := TB_9 (List.mem_of_getElem? (i := 119) rfl) rfl
theorem wdM_RX12_500 : Cond.methodLink RX12 500 yX12_ofCopy ∈ TB := TB_9 (List.mem_of_getElem? (i := 120) rfl) rfl
theorem wdN_X12_ofCopy : Cond.instanceMethod yX12_ofCopy ∈ TB := TB_9 (List.mem_of_getElem? (i := 122) rfl) rfl
theorem wdK_X12_ofCopy : Cond.code yX12_ofCopy cX12_ofCopy 5 (some .long) ∈ TB := TB_9 (List.mem_of_getElem? (i := 123) rfl) rfl
theorem wdM_RX12_545 : Cond.methodLink RX12 545 yX12_fails ∈ TB := TB_9 (List.mem_of_getElem? (i := 124) rfl) rfl
theorem wdN_X12_fails : Cond.instanceMethod yX12_fails ∈ TB := TB_9 (List.mem_of_getElem? (i := 126) rfl) rfl
theorem wdK_X12_fails : Cond.code yX12_fails cX12_fails 4 (some .boolean) ∈ TB := TB_9 (List.mem_of_getElem? (i := 127) rfl) rfl
theorem wdM_RX12_548 : Cond.methodLink RX12 548 yX12_leastOf ∈ TB := TB_9 (List.mem_of_getElem? (i := 128) rfl) rfl
theorem wdT_X12_leastOf : Cond.static yX12_leastOf ∈ TB := TB_9 (List.mem_of_getElem? (i := 129) rfl) rfl
theorem wdK_X12_leastOf : Cond.code yX12_leastOf cX12_leastOf 3 (some .int) ∈ TB := TB_9 (List.mem_of_getElem? (i := 130) rfl) rfl
theorem wdM_RX12_526 : Cond.methodLink RX12 526 yX12_parted ∈ TB := TB_9 (List.mem_of_getElem? (i := 131) rfl) rfl
theorem wdN_X12_parted : Cond.instanceMethod yX12_parted ∈ TB := TB_9 (List.mem_of_getElem? (i := 133) rfl) rfl
theorem wdK_X12_parted : Cond.code yX12_parted cX12_parted 11 (some .int) ∈ TB := TB_9 (List.mem_of_getElem? (i := 134) rfl) rfl
theorem wdM_RX12_509 : Cond.methodLink RX12 509 yX12_sizeOf ∈ TB := TB_9 (List.mem_of_getElem? (i := 135) rfl) rfl
theorem wdT_X12_sizeOf : Cond.static yX12_sizeOf ∈ TB := TB_9 (List.mem_of_getElem? (i := 136) rfl) rfl
theorem wdK_X12_sizeOf : Cond.code yX12_sizeOf cX12_sizeOf 4 (some .int) ∈ TB := TB_9 (List.mem_of_getElem? (i := 137) rfl) rfl
theorem wdM_RX12_513 : Cond.methodLink RX12 513 yX12_firstOf ∈ TB := TB_9 (List.mem_of_getElem? (i := 138) rfl) rfl
theorem wdN_X12_firstOf : Cond.instanceMethod yX12_firstOf ∈ TB := TB_9 (List.mem_of_getElem? (i := 140) rfl) rfl
theorem wdK_X12_firstOf : Cond.code yX12_firstOf cX12_firstOf 4 (some .int) ∈ TB := TB_9 (List.mem_of_getElem? (i := 141) rfl) rfl
theorem wdM_RX12_551 : Cond.methodLink RX12 551 yX12_moves ∈ TB := TB_9 (List.mem_of_getElem? (i := 142) rfl) rfl
theorem wdN_X12_moves : Cond.instanceMethod yX12_moves ∈ TB := TB_9 (List.mem_of_getElem? (i := 144) rfl) rfl
theorem wdK_X12_moves : Cond.code yX12_moves cX12_moves 11 none ∈ TB := TB_9 (List.mem_of_getElem? (i := 145) rfl) rfl
theorem wdM_RX12_563 : Cond.methodLink RX12 563 yX12_notes ∈ TB := TB_9 (List.mem_of_getElem? (i := 146) rfl) rfl
theorem wdN_X12_notes : Cond.instanceMethod yX12_notes ∈ TB := TB_9 (List.mem_of_getElem? (i := 148) rfl) rfl
theorem wdK_X12_notes : Cond.code yX12_notes cX12_notes 1 none ∈ TB := TB_9 (List.mem_of_getElem? (i := 149) rfl) rfl
theorem wdM_RX12_566 : Cond.methodLink RX12 566 yX12_settles ∈ TB := TB_9 (List.mem_of_getElem? (i := 150) rfl) rfl
theorem wdN_X12_settles : Cond.instanceMethod yX12_settles ∈ TB := TB_9 (List.mem_of_getElem? (i := 152) rfl) rfl
theorem wdK_X12_settles : Cond.code yX12_settles cX12_settles 3 none ∈ TB := TB_9 (List.mem_of_getElem? (i := 153) rfl) rfl
theorem wdM_RX12_555 : Cond.methodLink RX12 555 yX12_rank ∈ TB := TB_9 (List.mem_of_getElem? (i := 154) rfl) rfl
theorem wdN_X12_rank : Cond.instanceMethod yX12_rank ∈ TB := TB_9 (List.mem_of_getElem? (i := 156) rfl) rfl
theorem wdK_X12_rank : Cond.code yX12_rank cX12_rank 7 (some .int) ∈ TB := TB_9 (List.mem_of_getElem? (i := 157) rfl) rfl
theorem wdM_RX12_588 : Cond.methodLink RX12 588 yX12_keeps ∈ TB := TB_9 (List.mem_of_getElem? (i := 158) rfl) rfl
theorem wdN_X12_keeps : Cond.instanceMethod yX12_keeps ∈ TB := TB_9 (List.mem_of_getElem? (i := 160) rfl) rfl
theorem wdK_X12_keeps : Cond.code yX12_keeps cX12_keeps 1 none ∈ TB := TB_9 (List.mem_of_getElem? (i := 161) rfl) rfl
theorem wdM_RL_53 : Cond.methodLink RL 53 yX12_begin ∈ TB := TB_9 (List.mem_of_getElem? (i := 162) rfl) rfl
theorem wdN_X12_begin : Cond.instanceMethod yX12_begin ∈ TB := TB_9 (List.mem_of_getElem? (i := 163) rfl) rfl
theorem wdS_X12_begin : Cond.selects yX12_begin.cls yX12_begin yX12_begin ∈ TB := TB_9 (List.mem_of_getElem? (i := 164) rfl) rfl
theorem wdK_X12_begin : Cond.code yX12_begin cX12_begin 2 (some .boolean) ∈ TB := TB_9 (List.mem_of_getElem? (i := 165) rfl) rfl
theorem wdM_RX12_595 : Cond.methodLink RX12 595 yX12_starts ∈ TB := TB_9 (List.mem_of_getElem? (i := 166) rfl) rfl
theorem wdN_X12_starts : Cond.instanceMethod yX12_starts ∈ TB := TB_9 (List.mem_of_getElem? (i := 168) rfl) rfl
theorem wdK_X12_starts : Cond.code yX12_starts cX12_starts 2 none ∈ TB := TB_9 (List.mem_of_getElem? (i := 169) rfl) rfl
theorem wdM_RX12_591 : Cond.methodLink RX12 591 yX12_enters ∈ TB := TB_9 (List.mem_of_getElem? (i := 170) rfl) rfl
theorem wdN_X12_enters : Cond.instanceMethod yX12_enters ∈ TB := TB_9 (List.mem_of_getElem? (i := 172) rfl) rfl
theorem wdK_X12_enters : Cond.code yX12_enters cX12_enters 6 none ∈ TB := TB_9 (List.mem_of_getElem? (i := 173) rfl) rfl
theorem wdM_RL_57 : Cond.methodLink RL 57 yX12_step ∈ TB := TB_9 (List.mem_of_getElem? (i := 174) rfl) rfl
theorem wdN_X12_step : Cond.instanceMethod yX12_step ∈ TB := TB_9 (List.mem_of_getElem? (i := 175) rfl) rfl
theorem wdS_X12_step : Cond.selects yX12_step.cls yX12_step yX12_step ∈ TB := TB_9 (List.mem_of_getElem? (i := 176) rfl) rfl
theorem wdK_X12_step : Cond.code yX12_step cX12_step 2 (some .int) ∈ TB := TB_9 (List.mem_of_getElem? (i := 177) rfl) rfl
theorem wdM_RX12_620 : Cond.methodLink RX12 620 yX12_goesToStep ∈ TB := TB_9 (List.mem_of_getElem? (i := 178) rfl) rfl
theorem wdN_X12_goesToStep : Cond.instanceMethod yX12_goesToStep ∈ TB := TB_9 (List.mem_of_getElem? (i := 180) rfl) rfl
theorem wdK_X12_goesToStep : Cond.code yX12_goesToStep cX12_goesToStep 4 (some .int) ∈ TB := TB_9 (List.mem_of_getElem? (i := 181) rfl) rfl
theorem wdM_RX12_605 : Cond.methodLink RX12 605 yX12_closes ∈ TB := TB_9 (List.mem_of_getElem? (i := 182) rfl) rfl
theorem wdN_X12_closes : Cond.instanceMethod yX12_closes ∈ TB := TB_9 (List.mem_of_getElem? (i := 184) rfl) rfl
theorem wdK_X12_closes : Cond.code yX12_closes cX12_closes 6 (some .int) ∈ TB := TB_9 (List.mem_of_getElem? (i := 185) rfl) rfl
theorem wdM_RX12_611 : Cond.methodLink RX12 611 yX12_actsOf ∈ TB := TB_9 (List.mem_of_getElem? (i := 186) rfl) rfl
theorem wdN_X12_actsOf : Cond.instanceMethod yX12_actsOf ∈ TB := TB_9 (List.mem_of_getElem? (i := 188) rfl) rfl
theorem wdK_X12_actsOf : Cond.code yX12_actsOf cX12_actsOf 5 (some .int) ∈ TB := TB_9 (List.mem_of_getElem? (i := 189) rfl) rfl
theorem wdM_RX12_614 : Cond.methodLink RX12 614 yX12_acted ∈ TB := TB_9 (List.mem_of_getElem? (i := 190) rfl) rfl
theorem wdN_X12_acted : Cond.instanceMethod yX12_acted ∈ TB := TB_9 (List.mem_of_getElem? (i := 192) rfl) rfl
theorem wdK_X12_acted : Cond.code yX12_acted cX12_acted 2 (some .int) ∈ TB := TB_9 (List.mem_of_getElem? (i := 193) rfl) rfl
theorem wdM_RX12_530 : Cond.methodLink RX12 530 yX12_readCondition ∈ TB := TB_9 (List.mem_of_getElem? (i := 194) rfl) rfl
theorem wdN_X12_readCondition : Cond.instanceMethod yX12_readCondition ∈ TB := TB_9 (List.mem_of_getElem? (i := 196) rfl) rfl
theorem wdK_X12_readCondition : Cond.code yX12_readCondition cX12_readCondition 5 (some .boolean) ∈ TB := TB_9 (List.mem_of_getElem? (i := 197) rfl) rfl
theorem wdM_RX12_516 : Cond.methodLink RX12 516 yX12_readConditionAnd ∈ TB := TB_9 (List.mem_of_getElem? (i := 198) rfl) rfl
theorem wdN_X12_readConditionAnd : Cond.instanceMethod yX12_readConditionAnd ∈ TB := TB_9 (List.mem_of_getElem? (i := 200) rfl) rfl
theorem wdK_X12_readConditionAnd : Cond.code yX12_readConditionAnd cX12_readConditionAnd 5 (some .boolean) ∈ TB := TB_9 (List.mem_of_getElem? (i := 201) rfl) rfl
theorem wdM_RX12_520 : Cond.methodLink RX12 520 yX12_readConditionOne ∈ TB := TB_9 (List.mem_of_getElem? (i := 202) rfl) rfl
theorem wdN_X12_readConditionOne : Cond.instanceMethod yX12_readConditionOne ∈ TB := TB_9 (List.mem_of_getElem? (i := 204) rfl) rfl
theorem wdK_X12_readConditionOne : Cond.code yX12_readConditionOne cX12_readConditionOne 5 (some .boolean) ∈ TB := TB_9 (List.mem_of_getElem? (i := 205) rfl) rfl
theorem wdM_RX12_523 : Cond.methodLink RX12 523 yX12_isHome ∈ TB := TB_9 (List.mem_of_getElem? (i := 206) rfl) rfl
theorem wdN_X12_isHome : Cond.instanceMethod yX12_isHome ∈ TB := TB_9 (List.mem_of_getElem? (i := 208) rfl) rfl
theorem wdK_X12_isHome : Cond.code yX12_isHome cX12_isHome 3 (some .boolean) ∈ TB := TB_9 (List.mem_of_getElem? (i := 209) rfl) rfl
theorem wdM_RX12_617 : Cond.methodLink RX12 617 yX12_enters_ ∈ TB := TB_9 (List.mem_of_getElem? (i := 210) rfl) rfl
theorem wdN_X12_enters_ : Cond.instanceMethod yX12_enters_ ∈ TB := TB_9 (List.mem_of_getElem? (i := 212) rfl) rfl
theorem wdK_X12_enters_ : Cond.code yX12_enters_ cX12_enters_ 9 none ∈ TB := TB_9 (List.mem_of_getElem? (i := 213) rfl) rfl
theorem wdM_RL_69 : Cond.methodLink RL 69 yX12_may ∈ TB := TB_9 (List.mem_of_getElem? (i := 214) rfl) rfl
theorem wdN_X12_may : Cond.instanceMethod yX12_may ∈ TB := TB_9 (List.mem_of_getElem? (i := 215) rfl) rfl
theorem wdS_X12_may : Cond.selects yX12_may.cls yX12_may yX12_may ∈ TB := TB_9 (List.mem_of_getElem? (i := 216) rfl) rfl
theorem wdK_X12_may : Cond.code yX12_may cX12_may 2 (some .int) ∈ TB := TB_9 (List.mem_of_getElem? (i := 217) rfl) rfl
theorem wdM_RL_73 : Cond.methodLink RL 73 yX12_resolve ∈ TB := TB_9 (List.mem_of_getElem? (i := 218) rfl) rfl
theorem wdN_X12_resolve : Cond.instanceMethod yX12_resolve ∈ TB := TB_9 (List.mem_of_getElem? (i := 219) rfl) rfl
theorem wdS_X12_resolve : Cond.selects yX12_resolve.cls yX12_resolve yX12_resolve ∈ TB := TB_9 (List.mem_of_getElem? (i := 220) rfl) rfl
theorem wdK_X12_resolve : Cond.code yX12_resolve cX12_resolve 6 (some .int) ∈ TB := TB_9 (List.mem_of_getElem? (i := 221) rfl) rfl
theorem wdM_RX12_650 : Cond.methodLink RX12 650 yX12_savesFloor ∈ TB := TB_9 (List.mem_of_getElem? (i := 222) rfl) rfl
theorem wdN_X12_savesFloor : Cond.instanceMethod yX12_savesFloor ∈ TB := TB_9 (List.mem_of_getElem? (i := 224) rfl) rfl
theorem wdK_X12_savesFloor : Cond.code yX12_savesFloor cX12_savesFloor 2 none ∈ TB := TB_9 (List.mem_of_getElem? (i := 225) rfl) rfl
theorem wdM_RX12_653 : Cond.methodLink RX12 653 yX12_searches ∈ TB := TB_9 (List.mem_of_getElem? (i := 226) rfl) rfl
theorem wdN_X12_searches : Cond.instanceMethod yX12_searches ∈ TB := TB_9 (List.mem_of_getElem? (i := 228) rfl) rfl
theorem wdK_X12_searches : Cond.code yX12_searches cX12_searches 4 (some .int) ∈ TB := TB_9 (List.mem_of_getElem? (i := 229) rfl) rfl
theorem wdM_RX12_644 : Cond.methodLink RX12 644 yX12_meets ∈ TB := TB_9 (List.mem_of_getElem? (i := 230) rfl) rfl
theorem wdN_X12_meets : Cond.instanceMethod yX12_meets ∈ TB := TB_9 (List.mem_of_getElem? (i := 232) rfl) rfl
theorem wdK_X12_meets : Cond.code yX12_meets cX12_meets 3 (some .boolean) ∈ TB := TB_9 (List.mem_of_getElem? (i := 233) rfl) rfl
theorem wdM_RX12_626 : Cond.methodLink RX12 626 yX12_packed ∈ TB := TB_9 (List.mem_of_getElem? (i := 234) rfl) rfl
theorem wdN_X12_packed : Cond.instanceMethod yX12_packed ∈ TB := TB_9 (List.mem_of_getElem? (i := 236) rfl) rfl
theorem wdK_X12_packed : Cond.code yX12_packed cX12_packed 2 (some .int) ∈ TB := TB_9 (List.mem_of_getElem? (i := 237) rfl) rfl
theorem wdM_RX12_632 : Cond.methodLink RX12 632 yX12_isAim ∈ TB := TB_9 (List.mem_of_getElem? (i := 238) rfl) rfl
theorem wdN_X12_isAim : Cond.instanceMethod yX12_isAim ∈ TB := TB_10 (List.mem_of_getElem? (i := 0) rfl) rfl
theorem wdK_X12_isAim : Cond.code yX12_isAim cX12_isAim 3 (some .boolean) ∈ TB := TB_10 (List.mem_of_getElem? (i := 1) rfl) rfl
theorem wdM_RX12_647 : Cond.methodLink RX12 647 yX12_levelBehind ∈ TB := TB_10 (List.mem_of_getElem? (i := 2) rfl) rfl
theorem wdN_X12_levelBehind : Cond.instanceMethod yX12_levelBehind ∈ TB := TB_10 (List.mem_of_getElem? (i := 4) rfl) rfl
theorem wdK_X12_levelBehind : Cond.code yX12_levelBehind cX12_levelBehind 6 (some .boolean) ∈ TB := TB_10 (List.mem_of_getElem? (i := 5) rfl) rfl
theorem wdM_RX12_638 : Cond.methodLink RX12 638 yX12_showsState ∈ TB := TB_10 (List.mem_of_getElem? (i := 6) rfl) rfl
theorem wdN_X12_showsState : Cond.instanceMethod yX12_showsState ∈ TB := TB_10 (List.mem_of_getElem? (i := 8) rfl) rfl
theorem wdK_X12_showsState : Cond.code yX12_showsState cX12_showsState 4 none ∈ TB := TB_10 (List.mem_of_getElem? (i := 9) rfl) rfl
theorem wdM_RX12_641 : Cond.methodLink RX12 641 yX12_stateAtHand ∈ TB := TB_10 (List.mem_of_getElem? (i := 10) rfl) rfl
theorem wdN_X12_stateAtHand : Cond.instanceMethod yX12_stateAtHand ∈ TB := TB_10 (List.mem_of_getElem? (i := 12) rfl) rfl
theorem wdK_X12_stateAtHand : Cond.code yX12_stateAtHand cX12_stateAtHand 4 (some .int) ∈ TB := TB_10 (List.mem_of_getElem? (i := 13) rfl) rfl
theorem wdM_RX12_659 : Cond.methodLink RX12 659 yX12_givesFloor ∈ TB := TB_10 (List.mem_of_getElem? (i := 14) rfl) rfl
theorem wdN_X12_givesFloor : Cond.instanceMethod yX12_givesFloor ∈ TB := TB_10 (List.mem_of_getElem? (i := 16) rfl) rfl
theorem wdK_X12_givesFloor : Cond.code yX12_givesFloor cX12_givesFloor 2 none ∈ TB := TB_10 (List.mem_of_getElem? (i := 17) rfl) rfl
theorem wdM_RX12_662 : Cond.methodLink RX12 662 yX12_priceOf ∈ TB := TB_10 (List.mem_of_getElem? (i := 18) rfl) rfl
theorem wdN_X12_priceOf : Cond.instanceMethod yX12_priceOf ∈ TB := TB_10 (List.mem_of_getElem? (i := 20) rfl) rfl
theorem wdK_X12_priceOf : Cond.code yX12_priceOf cX12_priceOf 4 (some .int) ∈ TB := TB_10 (List.mem_of_getElem? (i := 21) rfl) rfl
theorem wdM_RX12_665 : Cond.methodLink RX12 665 yX12_reckonsWays ∈ TB := TB_10 (List.mem_of_getElem? (i := 22) rfl) rfl
theorem wdN_X12_reckonsWays : Cond.instanceMethod yX12_reckonsWays ∈ TB := TB_10 (List.mem_of_getElem? (i := 24) rfl) rfl
theorem wdK_X12_reckonsWays : Cond.code yX12_reckonsWays cX12_reckonsWays 5 none ∈ TB := TB_10 (List.mem_of_getElem? (i := 25) rfl) rfl
theorem wdM_RX12_668 : Cond.methodLink RX12 668 yX12_isOnWay ∈ TB := TB_10 (List.mem_of_getElem? (i := 26) rfl) rfl
theorem wdN_X12_isOnWay : Cond.instanceMethod yX12_isOnWay ∈ TB := TB_10 (List.mem_of_getElem? (i := 28) rfl) rfl
theorem wdK_X12_isOnWay : Cond.code yX12_isOnWay cX12_isOnWay 4 (some .boolean) ∈ TB := TB_10 (List.mem_of_getElem? (i := 29) rfl) rfl
theorem wdM_RL_78 : Cond.methodLink RL 78 yX12_rows ∈ TB := TB_10 (List.mem_of_getElem? (i := 30) rfl) rfl
theorem wdN_X12_rows : Cond.instanceMethod yX12_rows ∈ TB := TB_10 (List.mem_of_getElem? (i := 31) rfl) rfl
theorem wdS_X12_rows : Cond.selects yX12_rows.cls yX12_rows yX12_rows ∈ TB := TB_10 (List.mem_of_getElem? (i := 32) rfl) rfl
theorem wdK_X12_rows : Cond.code yX12_rows cX12_rows 1 (some .long) ∈ TB := TB_10 (List.mem_of_getElem? (i := 33) rfl) rfl
theorem wdM_RL_82 : Cond.methodLink RL 82 yX12_row ∈ TB := TB_10 (List.mem_of_getElem? (i := 34) rfl) rfl
theorem wdN_X12_row : Cond.instanceMethod yX12_row ∈ TB := TB_10 (List.mem_of_getElem? (i := 35) rfl) rfl
theorem wdS_X12_row : Cond.selects yX12_row.cls yX12_row yX12_row ∈ TB := TB_10 (List.mem_of_getElem? (i := 36) rfl) rfl
theorem wdK_X12_row : Cond.code yX12_row cX12_row 2 (some .boolean) ∈ TB := TB_10 (List.mem_of_getElem? (i := 37) rfl) rfl
theorem wdM_RX12_674 : Cond.methodLink RX12 674 yX12_finds ∈ TB := TB_10 (List.mem_of_getElem? (i := 38) rfl) rfl
theorem wdN_X12_finds : Cond.instanceMethod yX12_finds ∈ TB := TB_10 (List.mem_of_getElem? (i := 40) rfl) rfl
theorem wdK_X12_finds : Cond.code yX12_finds cX12_finds 8 none ∈ TB := TB_10 (List.mem_of_getElem? (i := 41) rfl) rfl
theorem wdM_RL_86 : Cond.methodLink RL 86 yX12_draw ∈ TB := TB_10 (List.mem_of_getElem? (i := 42) rfl) rfl
theorem wdN_X12_draw : Cond.instanceMethod yX12_draw ∈ TB := TB_10 (List.mem_of_getElem? (i := 43) rfl) rfl
theorem wdS_X12_draw : Cond.selects yX12_draw.cls yX12_draw yX12_draw ∈ TB := TB_10 (List.mem_of_getElem? (i := 44) rfl) rfl
theorem wdK_X12_draw : Cond.code yX12_draw cX12_draw 17 (some .boolean) ∈ TB := TB_10 (List.mem_of_getElem? (i := 45) rfl) rfl
theorem wdL_RX12_678 : Cond.constantLong RX12 678 (4294967295) ∈ TB := TB_10 (List.mem_of_getElem? (i := 46) rfl) rfl
theorem wdM_RL_90 : Cond.methodLink RL 90 yX12_cheapest ∈ TB := TB_10 (List.mem_of_getElem? (i := 47) rfl) rfl
theorem wdN_X12_cheapest : Cond.instanceMethod yX12_cheapest ∈ TB := TB_10 (List.mem_of_getElem? (i := 48) rfl) rfl
theorem wdS_X12_cheapest : Cond.selects yX12_cheapest.cls yX12_cheapest yX12_cheapest ∈ TB := TB_10 (List.mem_of_getElem? (i := 49) rfl) rfl
theorem wdK_X12_cheapest : Cond.code yX12_cheapest cX12_cheapest 4 (some .int) ∈ TB := TB_10 (List.mem_of_getElem? (i := 50) rfl) rfl
theorem wdM_RL_94 : Cond.methodLink RL 94 yX12_found ∈ TB := TB_10 (List.mem_of_getElem? (i := 51) rfl) rfl
theorem wdN_X12_found : Cond.instanceMethod yX12_found ∈ TB := TB_10 (List.mem_of_getElem? (i := 52) rfl) rfl
theorem wdS_X12_found : Cond.selects yX12_found.cls yX12_found yX12_found ∈ TB := TB_10 (List.mem_of_getElem? (i := 53) rfl) rfl
theorem wdK_X12_found : Cond.code yX12_found cX12_found 2 (some .int) ∈ TB := TB_10 (List.mem_of_getElem? (i := 54) rfl) rfl
theorem wdM_RL_98 : Cond.methodLink RL 98 yX12_follow ∈ TB := TB_10 (List.mem_of_getElem? (i := 55) rfl) rfl
theorem wdN_X12_follow : Cond.instanceMethod yX12_follow ∈ TB := TB_10 (List.mem_of_getElem? (i := 56) rfl) rfl
theorem wdS_X12_follow : Cond.selects yX12_follow.cls yX12_follow yX12_follow ∈ TB := TB_10 (List.mem_of_getElem? (i := 57) rfl) rfl
theorem wdK_X12_follow : Cond.code yX12_follow cX12_follow 2 (some .int) ∈ TB := TB_10 (List.mem_of_getElem? (i := 58) rfl) rfl
theorem wdM_RL_103 : Cond.methodLink RL 103 yX12_times ∈ TB := TB_10 (List.mem_of_getElem? (i := 59) rfl) rfl
theorem wdN_X12_times : Cond.instanceMethod yX12_times ∈ TB := TB_10 (List.mem_of_getElem? (i := 60) rfl) rfl
theorem wdS_X12_times : Cond.selects yX12_times.cls yX12_times yX12_times ∈ TB := TB_10 (List.mem_of_getElem? (i := 61) rfl) rfl
theorem wdK_X12_times : Cond.code yX12_times cX12_times 12 (some .int) ∈ TB := TB_10 (List.mem_of_getElem? (i := 62) rfl) rfl
theorem wdM_RX12_680 : Cond.methodLink RX12 680 yX12_dancesOn ∈ TB := TB_10 (List.mem_of_getElem? (i := 63) rfl) rfl
theorem wdN_X12_dancesOn : Cond.instanceMethod yX12_dancesOn ∈ TB := TB_10 (List.mem_of_getElem? (i := 65) rfl) rfl
theorem wdK_X12_dancesOn : Cond.code yX12_dancesOn cX12_dancesOn 5 (some .int) ∈ TB := TB_10 (List.mem_of_getElem? (i := 66) rfl) rfl
theorem wdM_RL_108 : Cond.methodLink RL 108 yX12_dancer ∈ TB := TB_10 (List.mem_of_getElem? (i := 67) rfl) rfl
theorem wdN_X12_dancer : Cond.instanceMethod yX12_dancer ∈ TB := TB_10 (List.mem_of_getElem? (i := 68) rfl) rfl
theorem wdS_X12_dancer : Cond.selects yX12_dancer.cls yX12_dancer yX12_dancer ∈ TB := TB_10 (List.mem_of_getElem? (i := 69) rfl) rfl
theorem wdK_X12_dancer : Cond.code yX12_dancer cX12_dancer 3 (some .int) ∈ TB := TB_10 (List.mem_of_getElem? (i := 70) rfl) rfl
theorem wdM_RL_112 : Cond.methodLink RL 112 yX12_at ∈ TB := TB_10 (List.mem_of_getElem? (i := 71) rfl) rfl
theorem wdN_X12_at : Cond.instanceMethod yX12_at ∈ TB := TB_10 (List.mem_of_getElem? (i := 72) rfl) rfl
theorem wdS_X12_at : Cond.selects yX12_at.cls yX12_at yX12_at ∈ TB := TB_10 (List.mem_of_getElem? (i := 73) rfl) rfl
theorem wdK_X12_at : Cond.code yX12_at cX12_at 3 (some .int) ∈ TB := TB_10 (List.mem_of_getElem? (i := 74) rfl) rfl
theorem wdM_RL_116 : Cond.methodLink RL 116 yX12_about ∈ TB := TB_10 (List.mem_of_getElem? (i := 75) rfl) rfl
theorem wdN_X12_about : Cond.instanceMethod yX12_about ∈ TB := TB_10 (List.mem_of_getElem? (i := 76) rfl) rfl
theorem wdS_X12_about : Cond.selects yX12_about.cls yX12_about yX12_about ∈ TB := TB_10 (List.mem_of_getElem? (i := 77) rfl) rfl
theorem wdK_X12_about : Cond.code yX12_about cX12_about 2 (some .int) ∈ TB := TB_10 (List.mem_of_getElem? (i := 78) rfl) rfl
theorem wdF_RJ0_9 : Cond.fieldLink RJ0 9 "java/lang/String" "value" "[B" ∈ TB := TB_10 (List.mem_of_getElem? (i := 79) rfl) rfl
theorem wdF_RJ0_15 : Cond.fieldLink RJ0 15 "java/lang/String" "coder" "B" ∈ TB := TB_10 (List.mem_of_getElem? (i := 80) rfl) rfl
