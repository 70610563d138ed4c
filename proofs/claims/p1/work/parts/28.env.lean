theorem an_l {a b : Cond} {args : Array Value} {s : State} (h : (Cond.and a b).before args s = true) : a.before args s = true := by
  rw [Cond.before_and, Bool.and_eq_true] at h
  exact h.1
theorem an_r {a b : Cond} {args : Array Value} {s : State} (h : (Cond.and a b).before args s = true) : b.before args s = true := by
  rw [Cond.before_and, Bool.and_eq_true] at h
  exact h.2
set_option maxRecDepth 100000 in
theorem nv_kw {args : Array Value} {s : State} (h : narrow_1.before args s = true) : (Cond.exactly (.string "CallerHall$Tokens" 32) "java/lang/String").before args s = true ∧ (Cond.eq (.field (.string "CallerHall$Tokens" 32) "java/lang/String" "coder" "B") (.int 0)).before args s = true ∧ (Cond.arrayOf (.field (.string "CallerHall$Tokens" 32) "java/lang/String" "value" "[B") .byte).before args s = true ∧ (Cond.eq (.length (.field (.string "CallerHall$Tokens" 32) "java/lang/String" "value" "[B")) (.int (Int32.ofNat 182))).before args s = true ∧ ∀ j : Nat, j < 182 → (Cond.eq (.elem (.field (.string "CallerHall$Tokens" 32) "java/lang/String" "value" "[B") (.int (Int32.ofNat j))) (.int (kwB j))).before args s = true := by
  unfold narrow_1 at h
  have hl := an_l h
  have hr := an_r h
  have hll := an_l hl
  have hlr := an_r hl
  have hrl := an_l hr
  have hlll := an_l hll
  have hllr := an_r hll
  have hlrl := an_l hlr
  have hlrr := an_r hlr
  have hrll := an_l hrl
  have hlllr := an_r hlll
  have hllrl := an_l hllr
  have hllrr := an_r hllr
  have hlrll := an_l hlrl
  have hlrlr := an_r hlrl
  have hlrrl := an_l hlrr
  have hlrrr := an_r hlrr
  have hrlll := an_l hrll
  have hlllrl := an_l hlllr
  have hlllrr := an_r hlllr
  have hllrll := an_l hllrl
  have hllrlr := an_r hllrl
  have hllrrl := an_l hllrr
  have hllrrr := an_r hllrr
  have hlrlll := an_l hlrll
  have hlrllr := an_r hlrll
  have hlrlrl := an_l hlrlr
  have hlrlrr := an_r hlrlr
  have hlrrll := an_l hlrrl
  have hlrrlr := an_r hlrrl
  have hlrrrl := an_l hlrrr
  have hlrrrr := an_r hlrrr
  have hrllll := an_l hrlll
  have hlllrll := an_l hlllrl
  have hlllrlr := an_r hlllrl
  have hlllrrl := an_l hlllrr
  have hlllrrr := an_r hlllrr
  have hllrlll := an_l hllrll
  have hllrllr := an_r hllrll
  have hllrlrl := an_l hllrlr
  have hllrlrr := an_r hllrlr
  have hllrrll := an_l hllrrl
  have hllrrlr := an_r hllrrl
  have hllrrrl := an_l hllrrr
  have hllrrrr := an_r hllrrr
  have hlrllll := an_l hlrlll
  have hlrlllr := an_r hlrlll
  have hlrllrl := an_l hlrllr
  have hlrllrr := an_r hlrllr
  have hlrlrll := an_l hlrlrl
  have hlrlrlr := an_r hlrlrl
  have hlrlrrl := an_l hlrlrr
  have hlrlrrr := an_r hlrlrr
  have hlrrlll := an_l hlrrll
  have hlrrllr := an_r hlrrll
  have hlrrlrl := an_l hlrrlr
  have hlrrlrr := an_r hlrrlr
  have hlrrrll := an_l hlrrrl
  have hlrrrlr := an_r hlrrrl
  have hlrrrrl := an_l hlrrrr
  have hlrrrrr := an_r hlrrrr
  have hrlllll := an_l hrllll
  have hlllrllr := an_r hlllrll
  have hlllrlrl := an_l hlllrlr
  have hlllrlrr := an_r hlllrlr
  have hlllrrll := an_l hlllrrl
  have hlllrrlr := an_r hlllrrl
  have hlllrrrl := an_l hlllrrr
  have hlllrrrr := an_r hlllrrr
  have hllrllll := an_l hllrlll
  have hllrlllr := an_r hllrlll
  have hllrllrl := an_l hllrllr
  have hllrllrr := an_r hllrllr
  have hllrlrll := an_l hllrlrl
  have hllrlrlr := an_r hllrlrl
  have hllrlrrl := an_l hllrlrr
  have hllrlrrr := an_r hllrlrr
  have hllrrlll := an_l hllrrll
  have hllrrllr := an_r hllrrll
  have hllrrlrl := an_l hllrrlr
  have hllrrlrr := an_r hllrrlr
  have hllrrrll := an_l hllrrrl
  have hllrrrlr := an_r hllrrrl
  have hllrrrrl := an_l hllrrrr
  have hllrrrrr := an_r hllrrrr
  have hlrlllll := an_l hlrllll
  have hlrllllr := an_r hlrllll
  have hlrlllrl := an_l hlrlllr
  have hlrlllrr := an_r hlrlllr
  have hlrllrll := an_l hlrllrl
  have hlrllrlr := an_r hlrllrl
  have hlrllrrl := an_l hlrllrr
  have hlrllrrr := an_r hlrllrr
  have hlrlrlll := an_l hlrlrll
  have hlrlrllr := an_r hlrlrll
  have hlrlrlrl := an_l hlrlrlr
  have hlrlrlrr := an_r hlrlrlr
  have hlrlrrll := an_l hlrlrrl
  have hlrlrrlr := an_r hlrlrrl
  have hlrlrrrl := an_l hlrlrrr
  have hlrlrrrr := an_r hlrlrrr
  have hlrrllll := an_l hlrrlll
  have hlrrlllr := an_r hlrrlll
  have hlrrllrl := an_l hlrrllr
  have hlrrllrr := an_r hlrrllr
  have hlrrlrll := an_l hlrrlrl
  have hlrrlrlr := an_r hlrrlrl
  have hlrrlrrl := an_l hlrrlrr
  have hlrrlrrr := an_r hlrrlrr
  have hlrrrlll := an_l hlrrrll
  have hlrrrllr := an_r hlrrrll
  have hlrrrlrl := an_l hlrrrlr
  have hlrrrlrr := an_r hlrrrlr
  have hlrrrrll := an_l hlrrrrl
  have hlrrrrlr := an_r hlrrrrl
  have hlrrrrrl := an_l hlrrrrr
  have hlrrrrrr := an_r hlrrrrr
  have hrllllll := an_l hrlllll
  have hrlllllr := an_r hrlllll
  have hlllrllrl := an_l hlllrllr
  have hlllrllrr := an_r hlllrllr
  have hlllrlrll := an_l hlllrlrl
  have hlllrlrlr := an_r hlllrlrl
  have hlllrlrrl := an_l hlllrlrr
  have hlllrlrrr := an_r hlllrlrr
  have hlllrrlll := an_l hlllrrll
  have hlllrrllr := an_r hlllrrll
  have hlllrrlrl := an_l hlllrrlr
  have hlllrrlrr := an_r hlllrrlr
  have hlllrrrll := an_l hlllrrrl
  have hlllrrrlr := an_r hlllrrrl
  have hlllrrrrl := an_l hlllrrrr
  have hlllrrrrr := an_r hlllrrrr
  have hllrlllll := an_l hllrllll
  have hllrllllr := an_r hllrllll
  have hllrlllrl := an_l hllrlllr
  have hllrlllrr := an_r hllrlllr
  have hllrllrll := an_l hllrllrl
  have hllrllrlr := an_r hllrllrl
  have hllrllrrl := an_l hllrllrr
  have hllrllrrr := an_r hllrllrr
  have hllrlrlll := an_l hllrlrll
  have hllrlrllr := an_r hllrlrll
  have hllrlrlrl := an_l hllrlrlr
  have hllrlrlrr := an_r hllrlrlr
  have hllrlrrll := an_l hllrlrrl
  have hllrlrrlr := an_r hllrlrrl
  have hllrlrrrl := an_l hllrlrrr
  have hllrlrrrr := an_r hllrlrrr
  have hllrrllll := an_l hllrrlll
  have hllrrlllr := an_r hllrrlll
  have hllrrllrl := an_l hllrrllr
  have hllrrllrr := an_r hllrrllr
  have hllrrlrll := an_l hllrrlrl
  have hllrrlrlr := an_r hllrrlrl
  have hllrrlrrl := an_l hllrrlrr
  have hllrrlrrr := an_r hllrrlrr
  have hllrrrlll := an_l hllrrrll
  have hllrrrllr := an_r hllrrrll
  have hllrrrlrl := an_l hllrrrlr
  have hllrrrlrr := an_r hllrrrlr
  have hllrrrrll := an_l hllrrrrl
  have hllrrrrlr := an_r hllrrrrl
  have hllrrrrrl := an_l hllrrrrr
  have hllrrrrrr := an_r hllrrrrr
  have hlrllllll := an_l hlrlllll
  have hlrlllllr := an_r hlrlllll
  have hlrllllrl := an_l hlrllllr
  have hlrllllrr := an_r hlrllllr
  have hlrlllrll := an_l hlrlllrl
  have hlrlllrlr := an_r hlrlllrl
  have hlrlllrrl := an_l hlrlllrr
  have hlrlllrrr := an_r hlrlllrr
  have hlrllrlll := an_l hlrllrll
  have hlrllrllr := an_r hlrllrll
  have hlrllrlrl := an_l hlrllrlr
  have hlrllrlrr := an_r hlrllrlr
  have hlrllrrll := an_l hlrllrrl
  have hlrllrrlr := an_r hlrllrrl
  have hlrllrrrl := an_l hlrllrrr
  have hlrllrrrr := an_r hlrllrrr
  have hlrlrllll := an_l hlrlrlll
  have hlrlrlllr := an_r hlrlrlll
  have hlrlrllrl := an_l hlrlrllr
  have hlrlrllrr := an_r hlrlrllr
  have hlrlrlrll := an_l hlrlrlrl
  have hlrlrlrlr := an_r hlrlrlrl
  have hlrlrlrrl := an_l hlrlrlrr
  have hlrlrlrrr := an_r hlrlrlrr
  have hlrlrrlll := an_l hlrlrrll
  have hlrlrrllr := an_r hlrlrrll
  have hlrlrrlrl := an_l hlrlrrlr
  have hlrlrrlrr := an_r hlrlrrlr
  have hlrlrrrll := an_l hlrlrrrl
  have hlrlrrrlr := an_r hlrlrrrl
  have hlrlrrrrl := an_l hlrlrrrr
  have hlrlrrrrr := an_r hlrlrrrr
  have hlrrlllll := an_l hlrrllll
  have hlrrllllr := an_r hlrrllll
  have hlrrlllrl := an_l hlrrlllr
  have hlrrlllrr := an_r hlrrlllr
  have hlrrllrll := an_l hlrrllrl
  have hlrrllrlr := an_r hlrrllrl
  have hlrrllrrl := an_l hlrrllrr
  have hlrrllrrr := an_r hlrrllrr
  have hlrrlrlll := an_l hlrrlrll
  have hlrrlrllr := an_r hlrrlrll
  have hlrrlrlrl := an_l hlrrlrlr
  have hlrrlrlrr := an_r hlrrlrlr
  have hlrrlrrll := an_l hlrrlrrl
  have hlrrlrrlr := an_r hlrrlrrl
  have hlrrlrrrl := an_l hlrrlrrr
  have hlrrlrrrr := an_r hlrrlrrr
  have hlrrrllll := an_l hlrrrlll
  have hlrrrlllr := an_r hlrrrlll
  have hlrrrllrl := an_l hlrrrllr
  have hlrrrllrr := an_r hlrrrllr
  have hlrrrlrll := an_l hlrrrlrl
  have hlrrrlrlr := an_r hlrrrlrl
  have hlrrrlrrl := an_l hlrrrlrr
  have hlrrrlrrr := an_r hlrrrlrr
  have hlrrrrlll := an_l hlrrrrll
  have hlrrrrllr := an_r hlrrrrll
  have hlrrrrlrl := an_l hlrrrrlr
  have hlrrrrlrr := an_r hlrrrrlr
  have hlrrrrrll := an_l hlrrrrrl
  have hlrrrrrlr := an_r hlrrrrrl
  have hlrrrrrrl := an_l hlrrrrrr
  have hlrrrrrrr := an_r hlrrrrrr
  have hrlllllll := an_l hrllllll
  have hrllllllr := an_r hrllllll
  have hrlllllrl := an_l hrlllllr
  have hrlllllrr := an_r hrlllllr
  have hlllrllrrl := an_l hlllrllrr
  have hlllrllrrr := an_r hlllrllrr
  have hlllrlrlrl := an_l hlllrlrlr
  have hlllrlrlrr := an_r hlllrlrlr
  have hlllrlrrll := an_l hlllrlrrl
  have hlllrlrrlr := an_r hlllrlrrl
  have hlllrlrrrl := an_l hlllrlrrr
  have hlllrlrrrr := an_r hlllrlrrr
  have hlllrrllrl := an_l hlllrrllr
  have hlllrrllrr := an_r hlllrrllr
  have hlllrrlrrl := an_l hlllrrlrr
  have hlllrrlrrr := an_r hlllrrlrr
  have hlllrrrlrl := an_l hlllrrrlr
  have hlllrrrlrr := an_r hlllrrrlr
  have hlllrrrrll := an_l hlllrrrrl
  have hlllrrrrlr := an_r hlllrrrrl
  have hlllrrrrrl := an_l hlllrrrrr
  have hlllrrrrrr := an_r hlllrrrrr
  have hllrllllrl := an_l hllrllllr
  have hllrllllrr := an_r hllrllllr
  have hllrlllrrl := an_l hllrlllrr
  have hllrlllrrr := an_r hllrlllrr
  have hllrllrlrl := an_l hllrllrlr
  have hllrllrlrr := an_r hllrllrlr
  have hllrllrrll := an_l hllrllrrl
  have hllrllrrlr := an_r hllrllrrl
  have hllrllrrrl := an_l hllrllrrr
  have hllrllrrrr := an_r hllrllrrr
  have hllrlrllrl := an_l hllrlrllr
  have hllrlrllrr := an_r hllrlrllr
  have hllrlrlrrl := an_l hllrlrlrr
  have hllrlrlrrr := an_r hllrlrlrr
  have hllrlrrlrl := an_l hllrlrrlr
  have hllrlrrlrr := an_r hllrlrrlr
  have hllrlrrrll := an_l hllrlrrrl
  have hllrlrrrlr := an_r hllrlrrrl
  have hllrlrrrrl := an_l hllrlrrrr
  have hllrlrrrrr := an_r hllrlrrrr
  have hllrrlllrl := an_l hllrrlllr
  have hllrrlllrr := an_r hllrrlllr
  have hllrrllrrl := an_l hllrrllrr
  have hllrrllrrr := an_r hllrrllrr
  have hllrrlrlrl := an_l hllrrlrlr
  have hllrrlrlrr := an_r hllrrlrlr
  have hllrrlrrll := an_l hllrrlrrl
  have hllrrlrrlr := an_r hllrrlrrl
  have hllrrlrrrl := an_l hllrrlrrr
  have hllrrlrrrr := an_r hllrrlrrr
  have hllrrrllrl := an_l hllrrrllr
  have hllrrrllrr := an_r hllrrrllr
  have hllrrrlrrl := an_l hllrrrlrr
  have hllrrrlrrr := an_r hllrrrlrr
  have hllrrrrlrl := an_l hllrrrrlr
  have hllrrrrlrr := an_r hllrrrrlr
  have hllrrrrrll := an_l hllrrrrrl
  have hllrrrrrlr := an_r hllrrrrrl
  have hllrrrrrrl := an_l hllrrrrrr
  have hllrrrrrrr := an_r hllrrrrrr
  have hlrlllllrl := an_l hlrlllllr
  have hlrlllllrr := an_r hlrlllllr
  have hlrllllrrl := an_l hlrllllrr
  have hlrllllrrr := an_r hlrllllrr
  have hlrlllrlrl := an_l hlrlllrlr
  have hlrlllrlrr := an_r hlrlllrlr
  have hlrlllrrll := an_l hlrlllrrl
  have hlrlllrrlr := an_r hlrlllrrl
  have hlrlllrrrl := an_l hlrlllrrr
  have hlrlllrrrr := an_r hlrlllrrr
  have hlrllrllrl := an_l hlrllrllr
  have hlrllrllrr := an_r hlrllrllr
  have hlrllrlrrl := an_l hlrllrlrr
  have hlrllrlrrr := an_r hlrllrlrr
  have hlrllrrlrl := an_l hlrllrrlr
  have hlrllrrlrr := an_r hlrllrrlr
  have hlrllrrrll := an_l hlrllrrrl
  have hlrllrrrlr := an_r hlrllrrrl
  have hlrllrrrrl := an_l hlrllrrrr
  have hlrllrrrrr := an_r hlrllrrrr
  have hlrlrlllrl := an_l hlrlrlllr
  have hlrlrlllrr := an_r hlrlrlllr
  have hlrlrllrrl := an_l hlrlrllrr
  have hlrlrllrrr := an_r hlrlrllrr
  have hlrlrlrlrl := an_l hlrlrlrlr
  have hlrlrlrlrr := an_r hlrlrlrlr
  have hlrlrlrrll := an_l hlrlrlrrl
  have hlrlrlrrlr := an_r hlrlrlrrl
  have hlrlrlrrrl := an_l hlrlrlrrr
  have hlrlrlrrrr := an_r hlrlrlrrr
  have hlrlrrllrl := an_l hlrlrrllr
  have hlrlrrllrr := an_r hlrlrrllr
  have hlrlrrlrrl := an_l hlrlrrlrr
  have hlrlrrlrrr := an_r hlrlrrlrr
  have hlrlrrrlrl := an_l hlrlrrrlr
  have hlrlrrrlrr := an_r hlrlrrrlr
  have hlrlrrrrll := an_l hlrlrrrrl
  have hlrlrrrrlr := an_r hlrlrrrrl
  have hlrlrrrrrl := an_l hlrlrrrrr
  have hlrlrrrrrr := an_r hlrlrrrrr
  have hlrrllllrl := an_l hlrrllllr
  have hlrrllllrr := an_r hlrrllllr
  have hlrrlllrrl := an_l hlrrlllrr
  have hlrrlllrrr := an_r hlrrlllrr
  have hlrrllrlrl := an_l hlrrllrlr
  have hlrrllrlrr := an_r hlrrllrlr
  have hlrrllrrll := an_l hlrrllrrl
  have hlrrllrrlr := an_r hlrrllrrl
  have hlrrllrrrl := an_l hlrrllrrr
  have hlrrllrrrr := an_r hlrrllrrr
  have hlrrlrllrl := an_l hlrrlrllr
  have hlrrlrllrr := an_r hlrrlrllr
  have hlrrlrlrrl := an_l hlrrlrlrr
  have hlrrlrlrrr := an_r hlrrlrlrr
  have hlrrlrrlrl := an_l hlrrlrrlr
  have hlrrlrrlrr := an_r hlrrlrrlr
  have hlrrlrrrll := an_l hlrrlrrrl
  have hlrrlrrrlr := an_r hlrrlrrrl
  have hlrrlrrrrl := an_l hlrrlrrrr
  have hlrrlrrrrr := an_r hlrrlrrrr
  have hlrrrlllrl := an_l hlrrrlllr
  have hlrrrlllrr := an_r hlrrrlllr
  have hlrrrllrrl := an_l hlrrrllrr
  have hlrrrllrrr := an_r hlrrrllrr
  have hlrrrlrlrl := an_l hlrrrlrlr
  have hlrrrlrlrr := an_r hlrrrlrlr
  have hlrrrlrrll := an_l hlrrrlrrl
  have hlrrrlrrlr := an_r hlrrrlrrl
  have hlrrrlrrrl := an_l hlrrrlrrr
  have hlrrrlrrrr := an_r hlrrrlrrr
  have hlrrrrllrl := an_l hlrrrrllr
  have hlrrrrllrr := an_r hlrrrrllr
  have hlrrrrlrll := an_l hlrrrrlrl
  have hlrrrrlrlr := an_r hlrrrrlrl
  have hlrrrrlrrl := an_l hlrrrrlrr
  have hlrrrrlrrr := an_r hlrrrrlrr
  have hlrrrrrlrl := an_l hlrrrrrlr
  have hlrrrrrlrr := an_r hlrrrrrlr
  have hlrrrrrrll := an_l hlrrrrrrl
  have hlrrrrrrlr := an_r hlrrrrrrl
  have hlrrrrrrrl := an_l hlrrrrrrr
  have hlrrrrrrrr := an_r hlrrrrrrr
  have hrllllllrl := an_l hrllllllr
  have hrllllllrr := an_r hrllllllr
  have hrlllllrrl := an_l hrlllllrr
  have hrlllllrrr := an_r hrlllllrr
  exact ⟨hlllrllrl, hlllrllrrl, hlllrllrrr, hlllrlrll, fun j hj => match j, hj with
    | 0, _ => hlllrlrlrl
    | 1, _ => hlllrlrlrr
    | 2, _ => hlllrlrrll
    | 3, _ => hlllrlrrlr
    | 4, _ => hlllrlrrrl
    | 5, _ => hlllrlrrrr
    | 6, _ => hlllrrlll
    | 7, _ => hlllrrllrl
    | 8, _ => hlllrrllrr
    | 9, _ => hlllrrlrl
    | 10, _ => hlllrrlrrl
    | 11, _ => hlllrrlrrr
    | 12, _ => hlllrrrll
    | 13, _ => hlllrrrlrl
    | 14, _ => hlllrrrlrr
    | 15, _ => hlllrrrrll
    | 16, _ => hlllrrrrlr
    | 17, _ => hlllrrrrrl
    | 18, _ => hlllrrrrrr
    | 19, _ => hllrlllll
    | 20, _ => hllrllllrl
    | 21, _ => hllrllllrr
    | 22, _ => hllrlllrl
    | 23, _ => hllrlllrrl
    | 24, _ => hllrlllrrr
    | 25, _ => hllrllrll
    | 26, _ => hllrllrlrl
    | 27, _ => hllrllrlrr
    | 28, _ => hllrllrrll
    | 29, _ => hllrllrrlr
    | 30, _ => hllrllrrrl
    | 31, _ => hllrllrrrr
    | 32, _ => hllrlrlll
    | 33, _ => hllrlrllrl
    | 34, _ => hllrlrllrr
    | 35, _ => hllrlrlrl
    | 36, _ => hllrlrlrrl
    | 37, _ => hllrlrlrrr
    | 38, _ => hllrlrrll
    | 39, _ => hllrlrrlrl
    | 40, _ => hllrlrrlrr
    | 41, _ => hllrlrrrll
    | 42, _ => hllrlrrrlr
    | 43, _ => hllrlrrrrl
    | 44, _ => hllrlrrrrr
    | 45, _ => hllrrllll
    | 46, _ => hllrrlllrl
    | 47, _ => hllrrlllrr
    | 48, _ => hllrrllrl
    | 49, _ => hllrrllrrl
    | 50, _ => hllrrllrrr
    | 51, _ => hllrrlrll
    | 52, _ => hllrrlrlrl
    | 53, _ => hllrrlrlrr
    | 54, _ => hllrrlrrll
    | 55, _ => hllrrlrrlr
    | 56, _ => hllrrlrrrl
    | 57, _ => hllrrlrrrr
    | 58, _ => hllrrrlll
    | 59, _ => hllrrrllrl
    | 60, _ => hllrrrllrr
    | 61, _ => hllrrrlrl
    | 62, _ => hllrrrlrrl
    | 63, _ => hllrrrlrrr
    | 64, _ => hllrrrrll
    | 65, _ => hllrrrrlrl
    | 66, _ => hllrrrrlrr
    | 67, _ => hllrrrrrll
    | 68, _ => hllrrrrrlr
    | 69, _ => hllrrrrrrl
    | 70, _ => hllrrrrrrr
    | 71, _ => hlrllllll
    | 72, _ => hlrlllllrl
    | 73, _ => hlrlllllrr
    | 74, _ => hlrllllrl
    | 75, _ => hlrllllrrl
    | 76, _ => hlrllllrrr
    | 77, _ => hlrlllrll
    | 78, _ => hlrlllrlrl
    | 79, _ => hlrlllrlrr
    | 80, _ => hlrlllrrll
    | 81, _ => hlrlllrrlr
    | 82, _ => hlrlllrrrl
    | 83, _ => hlrlllrrrr
    | 84, _ => hlrllrlll
    | 85, _ => hlrllrllrl
    | 86, _ => hlrllrllrr
    | 87, _ => hlrllrlrl
    | 88, _ => hlrllrlrrl
    | 89, _ => hlrllrlrrr
    | 90, _ => hlrllrrll
    | 91, _ => hlrllrrlrl
    | 92, _ => hlrllrrlrr
    | 93, _ => hlrllrrrll
    | 94, _ => hlrllrrrlr
    | 95, _ => hlrllrrrrl
    | 96, _ => hlrllrrrrr
    | 97, _ => hlrlrllll
    | 98, _ => hlrlrlllrl
    | 99, _ => hlrlrlllrr
    | 100, _ => hlrlrllrl
    | 101, _ => hlrlrllrrl
    | 102, _ => hlrlrllrrr
    | 103, _ => hlrlrlrll
    | 104, _ => hlrlrlrlrl
    | 105, _ => hlrlrlrlrr
    | 106, _ => hlrlrlrrll
    | 107, _ => hlrlrlrrlr
    | 108, _ => hlrlrlrrrl
    | 109, _ => hlrlrlrrrr
    | 110, _ => hlrlrrlll
    | 111, _ => hlrlrrllrl
    | 112, _ => hlrlrrllrr
    | 113, _ => hlrlrrlrl
    | 114, _ => hlrlrrlrrl
    | 115, _ => hlrlrrlrrr
    | 116, _ => hlrlrrrll
    | 117, _ => hlrlrrrlrl
    | 118, _ => hlrlrrrlrr
    | 119, _ => hlrlrrrrll
    | 120, _ => hlrlrrrrlr
    | 121, _ => hlrlrrrrrl
    | 122, _ => hlrlrrrrrr
    | 123, _ => hlrrlllll
    | 124, _ => hlrrllllrl
    | 125, _ => hlrrllllrr
    | 126, _ => hlrrlllrl
    | 127, _ => hlrrlllrrl
    | 128, _ => hlrrlllrrr
    | 129, _ => hlrrllrll
    | 130, _ => hlrrllrlrl
    | 131, _ => hlrrllrlrr
    | 132, _ => hlrrllrrll
    | 133, _ => hlrrllrrlr
    | 134, _ => hlrrllrrrl
    | 135, _ => hlrrllrrrr
    | 136, _ => hlrrlrlll
    | 137, _ => hlrrlrllrl
    | 138, _ => hlrrlrllrr
    | 139, _ => hlrrlrlrl
    | 140, _ => hlrrlrlrrl
    | 141, _ => hlrrlrlrrr
    | 142, _ => hlrrlrrll
    | 143, _ => hlrrlrrlrl
    | 144, _ => hlrrlrrlrr
    | 145, _ => hlrrlrrrll
    | 146, _ => hlrrlrrrlr
    | 147, _ => hlrrlrrrrl
    | 148, _ => hlrrlrrrrr
    | 149, _ => hlrrrllll
    | 150, _ => hlrrrlllrl
    | 151, _ => hlrrrlllrr
    | 152, _ => hlrrrllrl
    | 153, _ => hlrrrllrrl
    | 154, _ => hlrrrllrrr
    | 155, _ => hlrrrlrll
    | 156, _ => hlrrrlrlrl
    | 157, _ => hlrrrlrlrr
    | 158, _ => hlrrrlrrll
    | 159, _ => hlrrrlrrlr
    | 160, _ => hlrrrlrrrl
    | 161, _ => hlrrrlrrrr
    | 162, _ => hlrrrrlll
    | 163, _ => hlrrrrllrl
    | 164, _ => hlrrrrllrr
    | 165, _ => hlrrrrlrll
    | 166, _ => hlrrrrlrlr
    | 167, _ => hlrrrrlrrl
    | 168, _ => hlrrrrlrrr
    | 169, _ => hlrrrrrll
    | 170, _ => hlrrrrrlrl
    | 171, _ => hlrrrrrlrr
    | 172, _ => hlrrrrrrll
    | 173, _ => hlrrrrrrlr
    | 174, _ => hlrrrrrrrl
    | 175, _ => hlrrrrrrrr
    | 176, _ => hrlllllll
    | 177, _ => hrllllllrl
    | 178, _ => hrllllllrr
    | 179, _ => hrlllllrl
    | 180, _ => hrlllllrrl
    | 181, _ => hrlllllrrr
    | k + 182, q => absurd q (by omega)⟩
set_option maxRecDepth 100000 in
theorem nv_sg {args : Array Value} {s : State} (h : narrow_1.before args s = true) : (Cond.exactly (.string "CallerHall$Tokens" 78) "java/lang/String").before args s = true ∧ (Cond.eq (.field (.string "CallerHall$Tokens" 78) "java/lang/String" "coder" "B") (.int 0)).before args s = true ∧ (Cond.arrayOf (.field (.string "CallerHall$Tokens" 78) "java/lang/String" "value" "[B") .byte).before args s = true ∧ (Cond.eq (.length (.field (.string "CallerHall$Tokens" 78) "java/lang/String" "value" "[B")) (.int (Int32.ofNat 8))).before args s = true ∧ ∀ j : Nat, j < 8 → (Cond.eq (.elem (.field (.string "CallerHall$Tokens" 78) "java/lang/String" "value" "[B") (.int (Int32.ofNat j))) (.int (sgB j))).before args s = true := by
  unfold narrow_1 at h
  have hr := an_r h
  have hrl := an_l hr
  have hrll := an_l hrl
  have hrlll := an_l hrll
  have hrllll := an_l hrlll
  have hrlllr := an_r hrlll
  have hrllllr := an_r hrllll
  have hrlllrl := an_l hrlllr
  have hrllllrl := an_l hrllllr
  have hrllllrr := an_r hrllllr
  have hrlllrll := an_l hrlllrl
  have hrlllrlr := an_r hrlllrl
  have hrllllrll := an_l hrllllrl
  have hrllllrlr := an_r hrllllrl
  have hrllllrrl := an_l hrllllrr
  have hrllllrrr := an_r hrllllrr
  have hrlllrlll := an_l hrlllrll
  have hrlllrllr := an_r hrlllrll
  have hrlllrlrl := an_l hrlllrlr
  have hrlllrlrr := an_r hrlllrlr
  have hrllllrlrl := an_l hrllllrlr
  have hrllllrlrr := an_r hrllllrlr
  have hrllllrrll := an_l hrllllrrl
  have hrllllrrlr := an_r hrllllrrl
  have hrllllrrrl := an_l hrllllrrr
  have hrllllrrrr := an_r hrllllrrr
  have hrlllrllrl := an_l hrlllrllr
  have hrlllrllrr := an_r hrlllrllr
  have hrlllrlrrl := an_l hrlllrlrr
  exact ⟨hrllllrll, hrllllrlrl, hrllllrlrr, hrllllrrll, fun j hj => match j, hj with
    | 0, _ => hrllllrrlr
    | 1, _ => hrllllrrrl
    | 2, _ => hrllllrrrr
    | 3, _ => hrlllrlll
    | 4, _ => hrlllrllrl
    | 5, _ => hrlllrllrr
    | 6, _ => hrlllrlrl
    | 7, _ => hrlllrlrrl
    | k + 8, q => absurd q (by omega)⟩
set_option maxRecDepth 100000 in
theorem nv_sx {args : Array Value} {s : State} (h : narrow_1.before args s = true) : (Cond.arrayOf (.static "CallerHall$Floor" "SQUARE_X" "[I") .int).before args s = true ∧ (Cond.eq (.length (.static "CallerHall$Floor" "SQUARE_X" "[I")) (.int (Int32.ofNat 8))).before args s = true ∧ ∀ j : Nat, j < 8 → (Cond.eq (.elem (.static "CallerHall$Floor" "SQUARE_X" "[I") (.int (Int32.ofNat j))) (.int (sqX j))).before args s = true := by
  unfold narrow_1 at h
  have hl := an_l h
  have hll := an_l hl
  have hlll := an_l hll
  have hllll := an_l hlll
  have hlllll := an_l hllll
  have hllllr := an_r hllll
  have hlllllr := an_r hlllll
  have hllllrl := an_l hllllr
  have hlllllrl := an_l hlllllr
  have hlllllrr := an_r hlllllr
  have hllllrll := an_l hllllrl
  have hllllrlr := an_r hllllrl
  have hlllllrlr := an_r hlllllrl
  have hlllllrrl := an_l hlllllrr
  have hlllllrrr := an_r hlllllrr
  have hllllrlll := an_l hllllrll
  have hllllrllr := an_r hllllrll
  have hllllrlrl := an_l hllllrlr
  have hllllrlrr := an_r hllllrlr
  have hlllllrlrr := an_r hlllllrlr
  have hlllllrrll := an_l hlllllrrl
  have hlllllrrlr := an_r hlllllrrl
  have hlllllrrrl := an_l hlllllrrr
  have hlllllrrrr := an_r hlllllrrr
  have hllllrllrl := an_l hllllrllr
  have hllllrllrr := an_r hllllrllr
  have hllllrlrrl := an_l hllllrlrr
  exact ⟨hlllllrlrr, hlllllrrll, fun j hj => match j, hj with
    | 0, _ => hlllllrrlr
    | 1, _ => hlllllrrrl
    | 2, _ => hlllllrrrr
    | 3, _ => hllllrlll
    | 4, _ => hllllrllrl
    | 5, _ => hllllrllrr
    | 6, _ => hllllrlrl
    | 7, _ => hllllrlrrl
    | k + 8, q => absurd q (by omega)⟩
set_option maxRecDepth 100000 in
theorem nv_sy {args : Array Value} {s : State} (h : narrow_1.before args s = true) : (Cond.arrayOf (.static "CallerHall$Floor" "SQUARE_Y" "[I") .int).before args s = true ∧ (Cond.eq (.length (.static "CallerHall$Floor" "SQUARE_Y" "[I")) (.int (Int32.ofNat 8))).before args s = true ∧ ∀ j : Nat, j < 8 → (Cond.eq (.elem (.static "CallerHall$Floor" "SQUARE_Y" "[I") (.int (Int32.ofNat j))) (.int (sqY j))).before args s = true := by
  unfold narrow_1 at h
  have hl := an_l h
  have hll := an_l hl
  have hlll := an_l hll
  have hllll := an_l hlll
  have hlllr := an_r hlll
  have hllllr := an_r hllll
  have hlllrl := an_l hlllr
  have hllllrr := an_r hllllr
  have hlllrll := an_l hlllrl
  have hllllrrl := an_l hllllrr
  have hllllrrr := an_r hllllrr
  have hlllrlll := an_l hlllrll
  have hllllrrll := an_l hllllrrl
  have hllllrrlr := an_r hllllrrl
  have hllllrrrl := an_l hllllrrr
  have hllllrrrr := an_r hllllrrr
  have hlllrllll := an_l hlllrlll
  have hlllrlllr := an_r hlllrlll
  have hllllrrlrl := an_l hllllrrlr
  have hllllrrlrr := an_r hllllrrlr
  have hllllrrrll := an_l hllllrrrl
  have hllllrrrlr := an_r hllllrrrl
  have hllllrrrrl := an_l hllllrrrr
  have hllllrrrrr := an_r hllllrrrr
  have hlllrlllrl := an_l hlllrlllr
  have hlllrlllrr := an_r hlllrlllr
  exact ⟨hllllrrll, hllllrrlrl, fun j hj => match j, hj with
    | 0, _ => hllllrrlrr
    | 1, _ => hllllrrrll
    | 2, _ => hllllrrrlr
    | 3, _ => hllllrrrrl
    | 4, _ => hllllrrrrr
    | 5, _ => hlllrllll
    | 6, _ => hlllrlllrl
    | 7, _ => hlllrlllrr
    | k + 8, q => absurd q (by omega)⟩
set_option maxRecDepth 100000 in
theorem nv_rest {args : Array Value} {s : State} (h : narrow_1.before args s = true) : (Cond.eq (.string "CallerHall$Tokens" 32) (.string "CallerHallModel" 297)).before args s = true ∧ (Cond.eq (.static "java/lang/String" "COMPACT_STRINGS" "Z") (.int 1)).before args s = true ∧ (Cond.isRef (.static "jdk/internal/util/Preconditions" "SIOOBE_FORMATTER" "Ljava/util/function/BiFunction;")).before args s = true := by
  unfold narrow_1 at h
  have hl := an_l h
  have hr := an_r h
  have hll := an_l hl
  have hrr := an_r hr
  have hlll := an_l hll
  have hrrr := an_r hrr
  have hllll := an_l hlll
  have hrrrr := an_r hrrr
  have hlllll := an_l hllll
  have hrrrrr := an_r hrrrr
  have hllllll := an_l hlllll
  have hrrrrrr := an_r hrrrrr
  have hlllllll := an_l hllllll
  have hllllllr := an_r hllllll
  have hrrrrrrr := an_r hrrrrrr
  have hlllllllr := an_r hlllllll
  have hllllllrl := an_l hllllllr
  have hrrrrrrrl := an_l hrrrrrrr
  have hlllllllrr := an_r hlllllllr
  have hrrrrrrrll := an_l hrrrrrrrl
  exact ⟨hrrrrrrrll, hlllllllrr, hllllllrl⟩
theorem LT_1 {w : Cond} (h : w ∈ tables_1_1) : w ∈ lw_tbl := List.mem_append_right _ (List.mem_append_left _ h)
theorem LT_2 {w : Cond} (h : w ∈ tables_1_2) : w ∈ lw_tbl := List.mem_append_right _ (List.mem_append_right _ (List.mem_append_left _ h))
theorem LT_3 {w : Cond} (h : w ∈ tables_1_3) : w ∈ lw_tbl := List.mem_append_right _ (List.mem_append_right _ (List.mem_append_right _ (List.mem_append_left _ h)))
theorem LT_4 {w : Cond} (h : w ∈ tables_1_4) : w ∈ lw_tbl := List.mem_append_right _ (List.mem_append_right _ (List.mem_append_right _ (List.mem_append_right _ (List.mem_append_left _ h))))
theorem LT_5 {w : Cond} (h : w ∈ tables_1_5) : w ∈ lw_tbl := List.mem_append_right _ (List.mem_append_right _ (List.mem_append_right _ (List.mem_append_right _ (List.mem_append_right _ (List.mem_append_left _ h)))))
theorem LT_6 {w : Cond} (h : w ∈ tables_1_6) : w ∈ lw_tbl := List.mem_append_right _ (List.mem_append_right _ (List.mem_append_right _ (List.mem_append_right _ (List.mem_append_right _ (List.mem_append_right _ (List.mem_append_left _ h))))))
theorem LT_7 {w : Cond} (h : w ∈ tables_1_7) : w ∈ lw_tbl := List.mem_append_right _ (List.mem_append_right _ (List.mem_append_right _ (List.mem_append_right _ (List.mem_append_right _ (List.mem_append_right _ (List.mem_append_right _ (List.mem_append_left _ h)))))))
theorem LT_8 {w : Cond} (h : w ∈ tables_1_8) : w ∈ lw_tbl := List.mem_append_right _ (List.mem_append_right _ (List.mem_append_right _ (List.mem_append_right _ (List.mem_append_right _ (List.mem_append_right _ (List.mem_append_right _ (List.mem_append_right _ (List.mem_append_left _ h))))))))
theorem LT_9 {w : Cond} (h : w ∈ tables_1_9) : w ∈ lw_tbl := List.mem_append_right _ (List.mem_append_right _ (List.mem_append_right _ (List.mem_append_right _ (List.mem_append_right _ (List.mem_append_right _ (List.mem_append_right _ (List.mem_append_right _ (List.mem_append_right _ (List.mem_append_left _ h)))))))))
theorem LT_10 {w : Cond} (h : w ∈ tables_1_10) : w ∈ lw_tbl := List.mem_append_right _ (List.mem_append_right _ (List.mem_append_right _ (List.mem_append_right _ (List.mem_append_right _ (List.mem_append_right _ (List.mem_append_right _ (List.mem_append_right _ (List.mem_append_right _ (List.mem_append_right _ (h))))))))))
theorem wtZ_javalangString : Cond.initialized "java/lang/String" ∈ lw_tbl := LT_1 (List.mem_of_getElem? (i := 3) rfl)
theorem wtZ_jdkinternalutilPreconditions : Cond.initialized "jdk/internal/util/Preconditions" ∈ lw_tbl := LT_1 (List.mem_of_getElem? (i := 5) rfl)
theorem wtZ_CallerHallFloor : Cond.initialized "CallerHall$Floor" ∈ lw_tbl := LT_1 (List.mem_of_getElem? (i := 12) rfl)
theorem wtS_RX10_32 : Cond.stringRef "CallerHall$Tokens" 32 kwT ∈ lw_tbl := LT_1 (List.mem_of_getElem? (i := 37) rfl)
theorem wtL_COMPACT_STRINGS : Cond.laysStatic "java/lang/String" "COMPACT_STRINGS" "Z" ∈ lw_tbl := LT_1 (List.mem_of_getElem? (i := 47) rfl)
theorem wtL_SIOOBE_FORMATTER : Cond.laysStatic "jdk/internal/util/Preconditions" "SIOOBE_FORMATTER" "Ljava/util/function/BiFunction;" ∈ lw_tbl := LT_1 (List.mem_of_getElem? (i := 63) rfl)
theorem wtL_assertionsDisabled : Cond.laysStatic "java/lang/StringUTF16" "$assertionsDisabled" "Z" ∈ lw_tbl := LT_1 (List.mem_of_getElem? (i := 81) rfl)
theorem wtL_HI_BYTE_SHIFT : Cond.laysStatic "java/lang/StringUTF16" "HI_BYTE_SHIFT" "I" ∈ lw_tbl := LT_1 (List.mem_of_getElem? (i := 83) rfl)
theorem wtL_LO_BYTE_SHIFT : Cond.laysStatic "java/lang/StringUTF16" "LO_BYTE_SHIFT" "I" ∈ lw_tbl := LT_1 (List.mem_of_getElem? (i := 85) rfl)
theorem wtN_RX11_18 : Cond.methodLinkNest "CallerHall" 18 ⟨"CallerHall$Book", "<init>", "()V"⟩ "CallerHall" ∈ lw_tbl := LT_1 (List.mem_of_getElem? (i := 121) rfl)
theorem wtN_RX11_43 : Cond.methodLinkNest "CallerHall" 43 ⟨"CallerHall$Floor", "<init>", "()V"⟩ "CallerHall" ∈ lw_tbl := LT_2 (List.mem_of_getElem? (i := 152) rfl)
theorem wtN_RX11_65 : Cond.methodLinkNest "CallerHall" 65 ⟨"CallerHall$History", "<init>", "()V"⟩ "CallerHall" ∈ lw_tbl := LT_3 (List.mem_of_getElem? (i := 18) rfl)
theorem wtO : Cond.arrayOver (.object "CallerHall$Moment") ∈ lw_tbl := LT_3 (List.mem_of_getElem? (i := 23) rfl)
theorem wtL_SQUARE_X : Cond.laysStatic "CallerHall$Floor" "SQUARE_X" "[I" ∈ lw_tbl := LT_3 (List.mem_of_getElem? (i := 111) rfl)
theorem wtL_SQUARE_Y : Cond.laysStatic "CallerHall$Floor" "SQUARE_Y" "[I" ∈ lw_tbl := LT_3 (List.mem_of_getElem? (i := 113) rfl)
theorem wtN_RX10_83 : Cond.methodLinkNest "CallerHall$Tokens" 83 ⟨"CallerHall", "lettersOf", "([BII)J"⟩ "CallerHall" ∈ lw_tbl := LT_4 (List.mem_of_getElem? (i := 2) rfl)
theorem wtS_RX10_78 : Cond.stringRef "CallerHall$Tokens" 78 sgT ∈ lw_tbl := LT_4 (List.mem_of_getElem? (i := 13) rfl)
theorem wtN_RX4_22 : Cond.methodLinkNest "CallerHall$History" 22 ⟨"CallerHall$Moment", "<init>", "()V"⟩ "CallerHall" ∈ lw_tbl := LT_5 (List.mem_of_getElem? (i := 172) rfl)
theorem wtS_RX12_297 : Cond.stringRef "CallerHallModel" 297 kwT ∈ lw_tbl := LT_8 (List.mem_of_getElem? (i := 160) rfl)
theorem str_of {args : Array Value} {s : State} {A : Nat → Prop} {tm : Term} {n : Nat} {f : Nat → Int32} (hn : n < 2 ^ 31) (h : (Cond.exactly tm "java/lang/String").before args s = true ∧ (Cond.eq (.field tm "java/lang/String" "coder" "B") (.int 0)).before args s = true ∧ (Cond.arrayOf (.field tm "java/lang/String" "value" "[B") .byte).before args s = true ∧ (Cond.eq (.length (.field tm "java/lang/String" "value" "[B")) (.int (Int32.ofNat n))).before args s = true ∧ ∀ j : Nat, j < n → (Cond.eq (.elem (.field tm "java/lang/String" "value" "[B") (.int (Int32.ofNat j))) (.int (f j))).before args s = true) (hA : ∀ a : Nat, a < s.heap.size → ¬ A a) : ∃ a v : Nat, tm.eval args s none [] s = some (.ref a) ∧ cStr a v n f A s s.heap := by
  obtain ⟨hex, hco, har, hle, hel⟩ := h
  obtain ⟨a, c, cA, kA, q1, q2, q3, q4, q5, q6, -⟩ := Cond.exactly_spec (args := args) (first := s) (o := none) (s := s) (idx := []) (t := tm) (cls := "java/lang/String") hex
  obtain ⟨t, ht, hT⟩ := va_Tof (f := fun j => .int (f j)) (A := A) hn har (va_eqt hle) (fun j hj => va_eqt (hel j hj)) hA
  exact ⟨a, t, q1, ⟨cA, q3, q5, by rw [q6]; exact q2, hA a (Array.getElem?_eq_some_iff.mp q3).1⟩, vk_OFof q1 (va_eqt hco) hA, vk_OFof q1 ht hA, hT⟩
theorem vk_R_at {own tx : String} {k a : Nat} {args : Array Value} {s : State} (h1 : (Cond.stringRef own k tx).before args s = true) (h2 : (Term.string own k).eval args s none [] s = some (.ref a)) : vk_R own k tx a s := by
  exact vk_R.of h1 h2
theorem arr_K {s : State} {args : Array Value} {ty : FieldType} (h : (Cond.arrayClass ty).before args s = true) (hp : (match ty with | .object _ => false | _ => true) = true) : ∃ cA : ClassId, ArrOfT s cA ty ∧ va_RA s cA ty := by
  obtain ⟨cA, kA, comp, h1, h2, h3⟩ := Cond.arrayClass_spec (args := args) (first := s) (o := none) (s := s) (idx := []) h
  refine ⟨cA, fun n z => ⟨fun k h => (by cases h), kA, h2, comp, h3⟩, ?_⟩
  cases ty <;> first | exact h1 | exact absurd hp Bool.false_ne_true
theorem arr_KQ {s : State} {args : Array Value} {C : String} (h : (Cond.arrayOver (.object C)).before args s = true) : ∃ cA : ClassId, ArrOfT s cA (.object C) ∧ va_RA s cA (.object C) := by
  obtain ⟨comp, cA, kA, h1, -, h3, h4, h5⟩ := Cond.arrayOver_spec (args := args) (first := s) (o := none) (s := s) (idx := []) h
  exact ⟨cA, fun n z => ⟨fun k h => (by cases h), kA, h3, comp, h4⟩, kA, comp, h3, h4, h1, h5⟩

set_option maxHeartbeats 4000000 in
set_option maxRecDepth 100000 in
theorem law_env {s : State} {args : Array Value} (hts0 : ∀ w ∈ lw_tbl, w.before args s = true) (hgv : (Jvm.Cond.and given_1 narrow_1).before args s = true) : ∃ E : cE, va_K E.1 vwCl (cTY E.2.1) s ∧ cZ E.2.2 (fun q : Nat => s.heap.size ≤ q) s s.heap := by
  have hts : ∀ w ∈ TB, w.before args s = true := fun w h => hts0 w (List.mem_filter.mp h).1
  have hn := an_r hgv
  have hA : ∀ a : Nat, a < s.heap.size → ¬ (fun q : Nat => s.heap.size ≤ q) a := fun a h => Nat.not_le.mpr h
  obtain ⟨kX0, iX0_, hkX0⟩ := u_known (C := RX0) (T := TX0) (N := 20) (n := 20) hts iX0 (hts _ wdI_RX0)
  obtain ⟨kX1, iX1_, hkX1⟩ := u_known (C := RX1) (T := TX1) (N := 17) (n := 17) hts iX1 (hts _ wdI_RX1)
  obtain ⟨kX2, iX2_, hkX2⟩ := u_known (C := RX2) (T := TX2) (N := 10) (n := 10) hts iX2 (hts _ wdI_RX2)
  obtain ⟨kX3, iX3_, hkX3⟩ := u_known (C := RX3) (T := TX3) (N := 10) (n := 10) hts iX3 (hts _ wdI_RX3)
  obtain ⟨kX4, iX4_, hkX4⟩ := u_known (C := RX4) (T := TX4) (N := 3) (n := 3) hts iX4 (hts _ wdI_RX4)
  obtain ⟨kX5, iX5_, hkX5⟩ := u_known (C := RX5) (T := TX5) (N := 8) (n := 8) hts iX5 (hts _ wdI_RX5)
  obtain ⟨kX6, iX6_, hkX6⟩ := u_known (C := RX6) (T := TX6) (N := 3) (n := 3) hts iX6 (hts _ wdI_RX6)
  obtain ⟨kX7, iX7_, hkX7⟩ := u_known (C := RX7) (T := TX7) (N := 13) (n := 13) hts iX7 (hts _ wdI_RX7)
  obtain ⟨kX8, iX8_, hkX8⟩ := u_known (C := RX8) (T := TX8) (N := 11) (n := 11) hts iX8 (hts _ wdI_RX8)
  obtain ⟨kX9, iX9_, hkX9⟩ := u_known (C := RX9) (T := TX9) (N := 18) (n := 18) hts iX9 (hts _ wdI_RX9)
  obtain ⟨kX10, iX10_, hkX10⟩ := u_known (C := RX10) (T := TX10) (N := 8) (n := 8) hts iX10 (hts _ wdI_RX10)
  obtain ⟨kX11, iX11_, hkX11⟩ := u_known (C := RX11) (T := TX11) (N := 17) (n := 17) hts iX11 (hts _ wdI_RX11)
  obtain ⟨kX12, iX12_, hkX12⟩ := u_known (C := RX12) (T := TX12) (N := 116) (n := 116) hts iX12 (hts _ wdI_RX12)
  obtain ⟨dC, dI, hKc⟩ : ∃ (dC : Nat → ClassId) (dI : Nat → Nat → Nat), ∀ (k : Nat) (q : vw_C), vwCl[k]? = some q → u_Kn s q.1 q.2.1 q.2.2 (dC k) (dI k) := by
    refine ⟨fun k => ([kX0, kX1, kX2, kX3, kX4, kX5, kX6, kX7, kX8, kX9, kX10, kX11, kX12] : List ClassId).getD k kX0, fun k => ([iX0_, iX1_, iX2_, iX3_, iX4_, iX5_, iX6_, iX7_, iX8_, iX9_, iX10_, iX11_, iX12_] : List (Nat → Nat)).getD k iX0_, ?_⟩
    intro k q hq
    match k, hq with
    | 0, hq => cases hq; exact hkX0
    | 1, hq => cases hq; exact hkX1
    | 2, hq => cases hq; exact hkX2
    | 3, hq => cases hq; exact hkX3
    | 4, hq => cases hq; exact hkX4
    | 5, hq => cases hq; exact hkX5
    | 6, hq => cases hq; exact hkX6
    | 7, hq => cases hq; exact hkX7
    | 8, hq => cases hq; exact hkX8
    | 9, hq => cases hq; exact hkX9
    | 10, hq => cases hq; exact hkX10
    | 11, hq => cases hq; exact hkX11
    | 12, hq => cases hq; exact hkX12
    | k + 13, hq => simp [vwCl] at hq
  obtain ⟨c0, hc0a, hc0b⟩ := arr_K (hts _ wdA_byte) rfl
  obtain ⟨c1, hc1a, hc1b⟩ := arr_K (hts _ wdA_int) rfl
  obtain ⟨c2, hc2a, hc2b⟩ := arr_K (hts _ wdA_long) rfl
  obtain ⟨c3, hc3a, hc3b⟩ := arr_K (hts _ wdA_short) rfl
  obtain ⟨c4, hc4a, hc4b⟩ := arr_KQ (hts0 _ wtO)
  obtain ⟨tX, eX, hTX⟩ := va_Tof (N := 8) (f := fun j => .int (sqX j)) (A := fun q : Nat => s.heap.size ≤ q) (by decide) (nv_sx hn).1 (va_eqt (nv_sx hn).2.1) (fun j hj => va_eqt ((nv_sx hn).2.2 j hj)) hA
  obtain ⟨tY, eY, hTY⟩ := va_Tof (N := 8) (f := fun j => .int (sqY j)) (A := fun q : Nat => s.heap.size ≤ q) (by decide) (nv_sy hn).1 (va_eqt (nv_sy hn).2.1) (fun j hj => va_eqt ((nv_sy hn).2.2 j hj)) hA
  obtain ⟨akw, vkw, ekw, hSkw⟩ := str_of (hn := by decide) (nv_kw hn) hA
  obtain ⟨asg, vsg, esg, hSsg⟩ := str_of (hn := by decide) (nv_sg hn) hA
  refine ⟨((dC, dI), (fun k => ([c0, c1, c2, c3, c4] : List ClassId).getD k c0), (fun k => ([tX, tY, akw, vkw, asg, vsg] : List Nat).getD k 0)), ⟨hKc, ?_⟩, ⟨va_Zof (hts0 _ wtL_SQUARE_X) (hts0 _ wtZ_CallerHallFloor) eX hA, hTX⟩, ⟨va_Zof (hts0 _ wtL_SQUARE_Y) (hts0 _ wtZ_CallerHallFloor) eY hA, hTY⟩, va_AO.of (hts0 _ wtO), va_Nw.of rfl (hts0 _ wtN_RX11_18), va_Nw.of rfl (hts0 _ wtN_RX11_43), va_Nw.of rfl (hts0 _ wtN_RX11_65), va_Nw.of rfl (hts0 _ wtN_RX10_83), va_Nw.of rfl (hts0 _ wtN_RX4_22), ⟨vk_R_at (hts0 _ wtS_RX10_32) ekw, vk_R_at (hts0 _ wtS_RX12_297) (va_eqR (nv_rest hn).1 ekw), vk_R_at (hts0 _ wtS_RX10_78) esg⟩, hSkw, hSsg, va_Zof (hts0 _ wtL_COMPACT_STRINGS) (hts0 _ wtZ_javalangString) (va_eqi (nv_rest hn).2.1) hA, va_Zqof (hts0 _ wtL_SIOOBE_FORMATTER) (hts0 _ wtZ_jdkinternalutilPreconditions) (nv_rest hn).2.2 hA⟩
  intro k q hq
  match k, hq with
  | 0, hq => cases hq; exact ⟨hc0a, hc0b⟩
  | 1, hq => cases hq; exact ⟨hc1a, hc1b⟩
  | 2, hq => cases hq; exact ⟨hc2a, hc2b⟩
  | 3, hq => cases hq; exact ⟨hc3a, hc3b⟩
  | 4, hq => cases hq; exact ⟨hc4a, hc4b⟩
  | k + 5, hq => simp [cTY] at hq
