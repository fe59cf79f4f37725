theorem kw336 : Cond.methodLink RX9 99 yX9_within ∈ Tg := mem_Tg (List.mem_append_right _ (List.mem_of_getElem? (i := 336) (by decide +kernel))) (by decide +kernel)
theorem kw337 : Cond.static yX9_within ∈ Tg := mem_Tg (List.mem_append_right _ (List.mem_of_getElem? (i := 337) (by decide +kernel))) (by decide +kernel)
theorem kw1 : Cond.initialized RX9 ∈ Tg := mem_Tg (List.mem_append_right _ (List.mem_of_getElem? (i := 1) (by decide +kernel))) (by decide +kernel)
theorem kw339 : Cond.methodLink RX9 133 yX9_isSide ∈ Tg := mem_Tg (List.mem_append_right _ (List.mem_of_getElem? (i := 339) (by decide +kernel))) (by decide +kernel)
theorem kw340 : Cond.static yX9_isSide ∈ Tg := mem_Tg (List.mem_append_right _ (List.mem_of_getElem? (i := 340) (by decide +kernel))) (by decide +kernel)
theorem kw376 : Cond.methodLink RX9 274 Lib.Math.min.name ∈ Tg := mem_Tg (List.mem_append_right _ (List.mem_of_getElem? (i := 376) (by decide +kernel))) (by decide +kernel)
theorem kw377 : Cond.static Lib.Math.min.name ∈ Tg := mem_Tg (List.mem_append_right _ (List.mem_of_getElem? (i := 377) (by decide +kernel))) (by decide +kernel)
theorem kw9 : Cond.initialized RJ9 ∈ Tg := mem_Tg (List.mem_append_right _ (List.mem_of_getElem? (i := 9) (by decide +kernel))) (by decide +kernel)
theorem kw378 : Cond.code Lib.Math.min.name Lib.Math.min.code 2 (some .int) ∈ Tg := mem_Tg (List.mem_append_right _ (List.mem_of_getElem? (i := 378) (by decide +kernel))) (by decide +kernel)
theorem in0 : ∀ w ∈ u_ws RX0 TX0 3, w ∈ Tg := by decide +kernel
theorem kw105 : Cond.fieldLink RX0 9 "LeftAndRight$Log" "length" "I" ∈ Tg := mem_Tg (List.mem_append_right _ (List.mem_of_getElem? (i := 105) (by decide +kernel))) (by decide +kernel)
theorem kw107 : Cond.fieldLink RX0 15 "LeftAndRight$Log" "block" "I" ∈ Tg := mem_Tg (List.mem_append_right _ (List.mem_of_getElem? (i := 107) (by decide +kernel))) (by decide +kernel)
theorem kw109 : Cond.fieldLink RX0 18 "LeftAndRight$Log" "knots" "J" ∈ Tg := mem_Tg (List.mem_append_right _ (List.mem_of_getElem? (i := 109) (by decide +kernel))) (by decide +kernel)
theorem kw770 : Cond.methodLink RX0 22 yJ13_bitCount_95d88 ∈ Tg := mem_Tg (List.mem_append_right _ (List.mem_of_getElem? (i := 770) (by decide +kernel))) (by decide +kernel)
theorem kw771 : Cond.static yJ13_bitCount_95d88 ∈ Tg := mem_Tg (List.mem_append_right _ (List.mem_of_getElem? (i := 771) (by decide +kernel))) (by decide +kernel)
theorem kw20 : Cond.initialized RJ13 ∈ Tg := mem_Tg (List.mem_append_right _ (List.mem_of_getElem? (i := 20) (by decide +kernel))) (by decide +kernel)
theorem kw668 : Cond.methodLink RX0 28 yX0_isBlock ∈ Tg := mem_Tg (List.mem_append_right _ (List.mem_of_getElem? (i := 668) (by decide +kernel))) (by decide +kernel)
theorem kw670 : Cond.instanceMethod yX0_isBlock ∈ Tg := mem_Tg (List.mem_append_right _ (List.mem_of_getElem? (i := 670) (by decide +kernel))) (by decide +kernel)
theorem ks18 : Cond.selects RX0 yX0_isBlock yX0_isBlock ∈ Tg := mem_Tg (List.mem_append_left _ (List.mem_of_getElem? (i := 18) (by decide +kernel))) (by decide +kernel)
theorem kw6 : Cond.initialized RX0 ∈ Tg := mem_Tg (List.mem_append_right _ (List.mem_of_getElem? (i := 6) (by decide +kernel))) (by decide +kernel)
theorem in5 : ∀ w ∈ u_ws RX5 TX5 2, w ∈ Tg := by decide +kernel
theorem kw36 : Cond.fieldLink RX5 15 "LeftAndRight$Text" "length" "I" ∈ Tg := mem_Tg (List.mem_append_right _ (List.mem_of_getElem? (i := 36) (by decide +kernel))) (by decide +kernel)
theorem kw35 : Cond.fieldLink RX5 9 "LeftAndRight$Text" "letters" "[C" ∈ Tg := mem_Tg (List.mem_append_right _ (List.mem_of_getElem? (i := 35) (by decide +kernel))) (by decide +kernel)
theorem kw314 : Cond.methodLink RX5 19 yX5_letterAt ∈ Tg := mem_Tg (List.mem_append_right _ (List.mem_of_getElem? (i := 314) (by decide +kernel))) (by decide +kernel)
theorem kw315 : Cond.instanceMethod yX5_letterAt ∈ Tg := mem_Tg (List.mem_append_right _ (List.mem_of_getElem? (i := 315) (by decide +kernel))) (by decide +kernel)
theorem kw316 : Cond.selects RX5 yX5_letterAt yX5_letterAt ∈ Tg := mem_Tg (List.mem_append_right _ (List.mem_of_getElem? (i := 316) (by decide +kernel))) (by decide +kernel)
theorem kw2 : Cond.initialized RX5 ∈ Tg := mem_Tg (List.mem_append_right _ (List.mem_of_getElem? (i := 2) (by decide +kernel))) (by decide +kernel)
theorem in6 : ∀ w ∈ u_ws RX6 TX6 4, w ∈ Tg := by decide +kernel
theorem kw83 : Cond.fieldLink RX6 18 "LeftAndRight$Waiting" "number" "I" ∈ Tg := mem_Tg (List.mem_append_right _ (List.mem_of_getElem? (i := 83) (by decide +kernel))) (by decide +kernel)
theorem kw87 : Cond.fieldLink RX6 22 "LeftAndRight$Waiting" "stocking" "I" ∈ Tg := mem_Tg (List.mem_append_right _ (List.mem_of_getElem? (i := 87) (by decide +kernel))) (by decide +kernel)
theorem kw81 : Cond.fieldLink RX6 9 "LeftAndRight$Waiting" "lefts" "[I" ∈ Tg := mem_Tg (List.mem_append_right _ (List.mem_of_getElem? (i := 81) (by decide +kernel))) (by decide +kernel)
theorem kn20 : (RX6, 25, yX9_copyRow, "LeftAndRight") ∈ NSt := List.mem_of_getElem? (i := 20) rfl
theorem kw374 : Cond.static yX9_copyRow ∈ Tg := mem_Tg (List.mem_append_right _ (List.mem_of_getElem? (i := 374) (by decide +kernel))) (by decide +kernel)
theorem kw82 : Cond.fieldLink RX6 15 "LeftAndRight$Waiting" "rights" "[I" ∈ Tg := mem_Tg (List.mem_append_right _ (List.mem_of_getElem? (i := 82) (by decide +kernel))) (by decide +kernel)
theorem kn18 : (RX6, 29, yX9_put, "LeftAndRight") ∈ NSt := List.mem_of_getElem? (i := 18) rfl
theorem kw319 : Cond.static yX9_put ∈ Tg := mem_Tg (List.mem_append_right _ (List.mem_of_getElem? (i := 319) (by decide +kernel))) (by decide +kernel)
theorem kn22 : (RX6, 33, yX9_at, "LeftAndRight") ∈ NSt := List.mem_of_getElem? (i := 22) rfl
theorem kw331 : Cond.static yX9_at ∈ Tg := mem_Tg (List.mem_append_right _ (List.mem_of_getElem? (i := 331) (by decide +kernel))) (by decide +kernel)
theorem kw635 : Cond.methodLink RX6 37 yX6_foot ∈ Tg := mem_Tg (List.mem_append_right _ (List.mem_of_getElem? (i := 635) (by decide +kernel))) (by decide +kernel)
theorem kw480 : Cond.instanceMethod yX6_foot ∈ Tg := mem_Tg (List.mem_append_right _ (List.mem_of_getElem? (i := 480) (by decide +kernel))) (by decide +kernel)
theorem kw481 : Cond.selects RX6 yX6_foot yX6_foot ∈ Tg := mem_Tg (List.mem_append_right _ (List.mem_of_getElem? (i := 481) (by decide +kernel))) (by decide +kernel)
theorem kw5 : Cond.initialized RX6 ∈ Tg := mem_Tg (List.mem_append_right _ (List.mem_of_getElem? (i := 5) (by decide +kernel))) (by decide +kernel)
theorem kn27 : (RX6, 41, yX9_within, "LeftAndRight") ∈ NSt := List.mem_of_getElem? (i := 27) rfl
theorem in7 : ∀ w ∈ u_ws RX7 TX7 4, w ∈ Tg := by decide +kernel
theorem kw152 : Cond.fieldLink RX7 21 "LeftAndRight$Walls" "sounds" "I" ∈ Tg := mem_Tg (List.mem_append_right _ (List.mem_of_getElem? (i := 152) (by decide +kernel))) (by decide +kernel)
theorem kw149 : Cond.fieldLink RX7 9 "LeftAndRight$Walls" "clogs" "[I" ∈ Tg := mem_Tg (List.mem_append_right _ (List.mem_of_getElem? (i := 149) (by decide +kernel))) (by decide +kernel)
theorem kn28 : (RX7, 25, yX9_put, "LeftAndRight") ∈ NSt := List.mem_of_getElem? (i := 28) rfl
theorem kw150 : Cond.fieldLink RX7 15 "LeftAndRight$Walls" "limits" "[I" ∈ Tg := mem_Tg (List.mem_append_right _ (List.mem_of_getElem? (i := 150) (by decide +kernel))) (by decide +kernel)
theorem kw151 : Cond.fieldLink RX7 18 "LeftAndRight$Walls" "clears" "[I" ∈ Tg := mem_Tg (List.mem_append_right _ (List.mem_of_getElem? (i := 151) (by decide +kernel))) (by decide +kernel)
theorem kn29 : (RX7, 33, yX9_at, "LeftAndRight") ∈ NSt := List.mem_of_getElem? (i := 29) rfl
theorem kw701 : Cond.methodLink RX7 29 yX7_agrees ∈ Tg := mem_Tg (List.mem_append_right _ (List.mem_of_getElem? (i := 701) (by decide +kernel))) (by decide +kernel)
theorem kw703 : Cond.instanceMethod yX7_agrees ∈ Tg := mem_Tg (List.mem_append_right _ (List.mem_of_getElem? (i := 703) (by decide +kernel))) (by decide +kernel)
theorem ks19 : Cond.selects RX7 yX7_agrees yX7_agrees ∈ Tg := mem_Tg (List.mem_append_left _ (List.mem_of_getElem? (i := 19) (by decide +kernel))) (by decide +kernel)
theorem kw7 : Cond.initialized RX7 ∈ Tg := mem_Tg (List.mem_append_right _ (List.mem_of_getElem? (i := 7) (by decide +kernel))) (by decide +kernel)
theorem in4 : ∀ w ∈ u_ws RX4 TX4 3, w ∈ Tg := by decide +kernel
theorem kw58 : Cond.fieldLink RX4 15 "LeftAndRight$Shelf" "clogs" "I" ∈ Tg := mem_Tg (List.mem_append_right _ (List.mem_of_getElem? (i := 58) (by decide +kernel))) (by decide +kernel)
theorem kw63 : Cond.fieldLink RX4 19 "LeftAndRight$Shelf" "day" "I" ∈ Tg := mem_Tg (List.mem_append_right _ (List.mem_of_getElem? (i := 63) (by decide +kernel))) (by decide +kernel)
theorem kw57 : Cond.fieldLink RX4 9 "LeftAndRight$Shelf" "cells" "[I" ∈ Tg := mem_Tg (List.mem_append_right _ (List.mem_of_getElem? (i := 57) (by decide +kernel))) (by decide +kernel)
theorem kn19 : (RX4, 22, yX9_copyRow, "LeftAndRight") ∈ NSt := List.mem_of_getElem? (i := 19) rfl
theorem kn21 : (RX4, 26, yX9_within, "LeftAndRight") ∈ NSt := List.mem_of_getElem? (i := 21) rfl
theorem kw519 : Cond.methodLink RX4 30 yX4_holds ∈ Tg := mem_Tg (List.mem_append_right _ (List.mem_of_getElem? (i := 519) (by decide +kernel))) (by decide +kernel)
theorem kw452 : Cond.instanceMethod yX4_holds ∈ Tg := mem_Tg (List.mem_append_right _ (List.mem_of_getElem? (i := 452) (by decide +kernel))) (by decide +kernel)
theorem kw453 : Cond.selects RX4 yX4_holds yX4_holds ∈ Tg := mem_Tg (List.mem_append_right _ (List.mem_of_getElem? (i := 453) (by decide +kernel))) (by decide +kernel)
theorem kw4 : Cond.initialized RX4 ∈ Tg := mem_Tg (List.mem_append_right _ (List.mem_of_getElem? (i := 4) (by decide +kernel))) (by decide +kernel)
theorem kn16 : (RX4, 34, yX9_put, "LeftAndRight") ∈ NSt := List.mem_of_getElem? (i := 16) rfl
theorem kw460 : Cond.methodLink RX4 38 yX4_cell ∈ Tg := mem_Tg (List.mem_append_right _ (List.mem_of_getElem? (i := 460) (by decide +kernel))) (by decide +kernel)
theorem kw461 : Cond.instanceMethod yX4_cell ∈ Tg := mem_Tg (List.mem_append_right _ (List.mem_of_getElem? (i := 461) (by decide +kernel))) (by decide +kernel)
theorem kw462 : Cond.selects RX4 yX4_cell yX4_cell ∈ Tg := mem_Tg (List.mem_append_right _ (List.mem_of_getElem? (i := 462) (by decide +kernel))) (by decide +kernel)
theorem kw515 : Cond.methodLink RX4 42 yX4_isOfSide ∈ Tg := mem_Tg (List.mem_append_right _ (List.mem_of_getElem? (i := 515) (by decide +kernel))) (by decide +kernel)
theorem kw516 : Cond.instanceMethod yX4_isOfSide ∈ Tg := mem_Tg (List.mem_append_right _ (List.mem_of_getElem? (i := 516) (by decide +kernel))) (by decide +kernel)
theorem kw517 : Cond.selects RX4 yX4_isOfSide yX4_isOfSide ∈ Tg := mem_Tg (List.mem_append_right _ (List.mem_of_getElem? (i := 517) (by decide +kernel))) (by decide +kernel)
theorem kn23 : (RX4, 58, yX9_at, "LeftAndRight") ∈ NSt := List.mem_of_getElem? (i := 23) rfl
theorem kw468 : Cond.methodLink RX4 46 Lib.Math.max.name ∈ Tg := mem_Tg (List.mem_append_right _ (List.mem_of_getElem? (i := 468) (by decide +kernel))) (by decide +kernel)
theorem kw170 : Cond.static Lib.Math.max.name ∈ Tg := mem_Tg (List.mem_append_right _ (List.mem_of_getElem? (i := 170) (by decide +kernel))) (by decide +kernel)
theorem kw171 : Cond.code Lib.Math.max.name Lib.Math.max.code 2 (some .int) ∈ Tg := mem_Tg (List.mem_append_right _ (List.mem_of_getElem? (i := 171) (by decide +kernel))) (by decide +kernel)
theorem kw529 : Cond.methodLink RX4 51 yX4_removeOne ∈ Tg := mem_Tg (List.mem_append_right _ (List.mem_of_getElem? (i := 529) (by decide +kernel))) (by decide +kernel)
theorem kw531 : Cond.instanceMethod yX4_removeOne ∈ Tg := mem_Tg (List.mem_append_right _ (List.mem_of_getElem? (i := 531) (by decide +kernel))) (by decide +kernel)
theorem ks10 : Cond.selects RX4 yX4_removeOne yX4_removeOne ∈ Tg := mem_Tg (List.mem_append_left _ (List.mem_of_getElem? (i := 10) (by decide +kernel))) (by decide +kernel)
theorem kw469 : Cond.methodLink RX4 55 Lib.Math.min.name ∈ Tg := mem_Tg (List.mem_append_right _ (List.mem_of_getElem? (i := 469) (by decide +kernel))) (by decide +kernel)
theorem kw464 : Cond.methodLink RX4 62 yX4_driedBy ∈ Tg := mem_Tg (List.mem_append_right _ (List.mem_of_getElem? (i := 464) (by decide +kernel))) (by decide +kernel)
theorem kw466 : Cond.instanceMethod yX4_driedBy ∈ Tg := mem_Tg (List.mem_append_right _ (List.mem_of_getElem? (i := 466) (by decide +kernel))) (by decide +kernel)
theorem ks8 : Cond.selects RX4 yX4_driedBy yX4_driedBy ∈ Tg := mem_Tg (List.mem_append_left _ (List.mem_of_getElem? (i := 8) (by decide +kernel))) (by decide +kernel)
theorem kw520 : Cond.methodLink RX4 65 yX4_sizeOn ∈ Tg := mem_Tg (List.mem_append_right _ (List.mem_of_getElem? (i := 520) (by decide +kernel))) (by decide +kernel)
theorem kw457 : Cond.instanceMethod yX4_sizeOn ∈ Tg := mem_Tg (List.mem_append_right _ (List.mem_of_getElem? (i := 457) (by decide +kernel))) (by decide +kernel)
theorem kw458 : Cond.selects RX4 yX4_sizeOn yX4_sizeOn ∈ Tg := mem_Tg (List.mem_append_right _ (List.mem_of_getElem? (i := 458) (by decide +kernel))) (by decide +kernel)
theorem kw521 : Cond.methodLink RX4 68 Lib.Math.abs.name ∈ Tg := mem_Tg (List.mem_append_right _ (List.mem_of_getElem? (i := 521) (by decide +kernel))) (by decide +kernel)
theorem kw522 : Cond.static Lib.Math.abs.name ∈ Tg := mem_Tg (List.mem_append_right _ (List.mem_of_getElem? (i := 522) (by decide +kernel))) (by decide +kernel)
theorem kw523 : Cond.code Lib.Math.abs.name Lib.Math.abs.code 1 (some .int) ∈ Tg := mem_Tg (List.mem_append_right _ (List.mem_of_getElem? (i := 523) (by decide +kernel))) (by decide +kernel)
theorem kw524 : Cond.methodLink RX4 72 yX4_weightOn ∈ Tg := mem_Tg (List.mem_append_right _ (List.mem_of_getElem? (i := 524) (by decide +kernel))) (by decide +kernel)
theorem kw471 : Cond.instanceMethod yX4_weightOn ∈ Tg := mem_Tg (List.mem_append_right _ (List.mem_of_getElem? (i := 471) (by decide +kernel))) (by decide +kernel)
theorem kw472 : Cond.selects RX4 yX4_weightOn yX4_weightOn ∈ Tg := mem_Tg (List.mem_append_right _ (List.mem_of_getElem? (i := 472) (by decide +kernel))) (by decide +kernel)
theorem kw558 : Cond.methodLink RX4 75 yX4_areAlikeOn ∈ Tg := mem_Tg (List.mem_append_right _ (List.mem_of_getElem? (i := 558) (by decide +kernel))) (by decide +kernel)
theorem kw512 : Cond.instanceMethod yX4_areAlikeOn ∈ Tg := mem_Tg (List.mem_append_right _ (List.mem_of_getElem? (i := 512) (by decide +kernel))) (by decide +kernel)
theorem kw513 : Cond.selects RX4 yX4_areAlikeOn yX4_areAlikeOn ∈ Tg := mem_Tg (List.mem_append_right _ (List.mem_of_getElem? (i := 513) (by decide +kernel))) (by decide +kernel)
theorem in8 : ∀ w ∈ u_ws RX8 TX8 2, w ∈ Tg := by decide +kernel
theorem kw224 : Cond.fieldLink RX8 12 "LeftAndRight$Year" "shelf" "LLeftAndRight$Shelf;" ∈ Tg := mem_Tg (List.mem_append_right _ (List.mem_of_getElem? (i := 224) (by decide +kernel))) (by decide +kernel)
theorem kw60 : Cond.fieldLink RX8 26 "LeftAndRight$Shelf" "clogs" "I" ∈ Tg := mem_Tg (List.mem_append_right _ (List.mem_of_getElem? (i := 60) (by decide +kernel))) (by decide +kernel)
theorem kw65 : Cond.fieldLink RX8 40 "LeftAndRight$Shelf" "day" "I" ∈ Tg := mem_Tg (List.mem_append_right _ (List.mem_of_getElem? (i := 65) (by decide +kernel))) (by decide +kernel)
theorem kw751 : Cond.methodLink RX8 51 yX4_areAlikeOn ∈ Tg := mem_Tg (List.mem_append_right _ (List.mem_of_getElem? (i := 751) (by decide +kernel))) (by decide +kernel)
theorem kw752 : Cond.methodLink RX8 55 yX4_removeTwo ∈ Tg := mem_Tg (List.mem_append_right _ (List.mem_of_getElem? (i := 752) (by decide +kernel))) (by decide +kernel)
theorem kw526 : Cond.instanceMethod yX4_removeTwo ∈ Tg := mem_Tg (List.mem_append_right _ (List.mem_of_getElem? (i := 526) (by decide +kernel))) (by decide +kernel)
theorem kw527 : Cond.selects RX4 yX4_removeTwo yX4_removeTwo ∈ Tg := mem_Tg (List.mem_append_right _ (List.mem_of_getElem? (i := 527) (by decide +kernel))) (by decide +kernel)
theorem kw226 : Cond.fieldLink RX8 22 "LeftAndRight$Year" "wentAsPairs" "I" ∈ Tg := mem_Tg (List.mem_append_right _ (List.mem_of_getElem? (i := 226) (by decide +kernel))) (by decide +kernel)
theorem kw738 : Cond.methodLink RX8 18 yX4_copy ∈ Tg := mem_Tg (List.mem_append_right _ (List.mem_of_getElem? (i := 738) (by decide +kernel))) (by decide +kernel)
theorem kw370 : Cond.instanceMethod yX4_copy ∈ Tg := mem_Tg (List.mem_append_right _ (List.mem_of_getElem? (i := 370) (by decide +kernel))) (by decide +kernel)
theorem kw371 : Cond.selects RX4 yX4_copy yX4_copy ∈ Tg := mem_Tg (List.mem_append_right _ (List.mem_of_getElem? (i := 371) (by decide +kernel))) (by decide +kernel)
theorem kw747 : Cond.methodLink RX8 37 yX8_sendFirstPair ∈ Tg := mem_Tg (List.mem_append_right _ (List.mem_of_getElem? (i := 747) (by decide +kernel))) (by decide +kernel)
theorem kw749 : Cond.instanceMethod yX8_sendFirstPair ∈ Tg := mem_Tg (List.mem_append_right _ (List.mem_of_getElem? (i := 749) (by decide +kernel))) (by decide +kernel)
theorem ks20 : Cond.selects RX8 yX8_sendFirstPair yX8_sendFirstPair ∈ Tg := mem_Tg (List.mem_append_left _ (List.mem_of_getElem? (i := 20) (by decide +kernel))) (by decide +kernel)
theorem kw11 : Cond.initialized RX8 ∈ Tg := mem_Tg (List.mem_append_right _ (List.mem_of_getElem? (i := 11) (by decide +kernel))) (by decide +kernel)
theorem kw739 : Cond.methodLink RX8 29 yX8_drawOf ∈ Tg := mem_Tg (List.mem_append_right _ (List.mem_of_getElem? (i := 739) (by decide +kernel))) (by decide +kernel)
theorem kw740 : Cond.static yX8_drawOf ∈ Tg := mem_Tg (List.mem_append_right _ (List.mem_of_getElem? (i := 740) (by decide +kernel))) (by decide +kernel)
theorem kw746 : Cond.methodLink RX8 33 yX4_add ∈ Tg := mem_Tg (List.mem_append_right _ (List.mem_of_getElem? (i := 746) (by decide +kernel))) (by decide +kernel)
theorem kw343 : Cond.instanceMethod yX4_add ∈ Tg := mem_Tg (List.mem_append_right _ (List.mem_of_getElem? (i := 343) (by decide +kernel))) (by decide +kernel)
theorem kw344 : Cond.selects RX4 yX4_add yX4_add ∈ Tg := mem_Tg (List.mem_append_right _ (List.mem_of_getElem? (i := 344) (by decide +kernel))) (by decide +kernel)
theorem kw310 : Cond.methodLink RX3 59 yX5_figureAt ∈ Tg := mem_Tg (List.mem_append_right _ (List.mem_of_getElem? (i := 310) (by decide +kernel))) (by decide +kernel)
theorem kw311 : Cond.instanceMethod yX5_figureAt ∈ Tg := mem_Tg (List.mem_append_right _ (List.mem_of_getElem? (i := 311) (by decide +kernel))) (by decide +kernel)
theorem kw312 : Cond.selects RX5 yX5_figureAt yX5_figureAt ∈ Tg := mem_Tg (List.mem_append_right _ (List.mem_of_getElem? (i := 312) (by decide +kernel))) (by decide +kernel)
theorem in3 : ∀ w ∈ u_ws RX3 TX3 5, w ∈ Tg := by decide +kernel
theorem kw124 : Cond.fieldLink RX3 32 "LeftAndRight$Reader" "numbers" "[I" ∈ Tg := mem_Tg (List.mem_append_right _ (List.mem_of_getElem? (i := 124) (by decide +kernel))) (by decide +kernel)
theorem kn13 : (RX3, 62, yX9_put, "LeftAndRight") ∈ NSt := List.mem_of_getElem? (i := 13) rfl
theorem kw125 : Cond.fieldLink RX3 66 "LeftAndRight$Reader" "told" "I" ∈ Tg := mem_Tg (List.mem_append_right _ (List.mem_of_getElem? (i := 125) (by decide +kernel))) (by decide +kernel)
theorem kw321 : Cond.methodLink RX3 51 yX5_letterAt ∈ Tg := mem_Tg (List.mem_append_right _ (List.mem_of_getElem? (i := 321) (by decide +kernel))) (by decide +kernel)
theorem kw118 : Cond.fieldLink RX3 12 "LeftAndRight$Reader" "shelf" "LLeftAndRight$Shelf;" ∈ Tg := mem_Tg (List.mem_append_right _ (List.mem_of_getElem? (i := 118) (by decide +kernel))) (by decide +kernel)
theorem kw62 : Cond.fieldLink RX3 85 "LeftAndRight$Shelf" "clogs" "I" ∈ Tg := mem_Tg (List.mem_append_right _ (List.mem_of_getElem? (i := 62) (by decide +kernel))) (by decide +kernel)
theorem kn14 : (RX3, 88, yX9_at, "LeftAndRight") ∈ NSt := List.mem_of_getElem? (i := 14) rfl
theorem kn15 : (RX3, 92, yX9_isClog, "LeftAndRight") ∈ NSt := List.mem_of_getElem? (i := 15) rfl
theorem kw334 : Cond.static yX9_isClog ∈ Tg := mem_Tg (List.mem_append_right _ (List.mem_of_getElem? (i := 334) (by decide +kernel))) (by decide +kernel)
theorem kw342 : Cond.methodLink RX3 96 yX4_add ∈ Tg := mem_Tg (List.mem_append_right _ (List.mem_of_getElem? (i := 342) (by decide +kernel))) (by decide +kernel)
theorem kw120 : Cond.fieldLink RX3 21 "LeftAndRight$Reader" "waiting" "LLeftAndRight$Waiting;" ∈ Tg := mem_Tg (List.mem_append_right _ (List.mem_of_getElem? (i := 120) (by decide +kernel))) (by decide +kernel)
theorem kw84 : Cond.fieldLink RX3 100 "LeftAndRight$Waiting" "number" "I" ∈ Tg := mem_Tg (List.mem_append_right _ (List.mem_of_getElem? (i := 84) (by decide +kernel))) (by decide +kernel)
theorem kn17 : (RX3, 103, yX9_within, "LeftAndRight") ∈ NSt := List.mem_of_getElem? (i := 17) rfl
theorem kw352 : Cond.methodLink RX3 107 yX6_add ∈ Tg := mem_Tg (List.mem_append_right _ (List.mem_of_getElem? (i := 352) (by decide +kernel))) (by decide +kernel)
theorem kw353 : Cond.instanceMethod yX6_add ∈ Tg := mem_Tg (List.mem_append_right _ (List.mem_of_getElem? (i := 353) (by decide +kernel))) (by decide +kernel)
theorem kw354 : Cond.selects RX6 yX6_add yX6_add ∈ Tg := mem_Tg (List.mem_append_right _ (List.mem_of_getElem? (i := 354) (by decide +kernel))) (by decide +kernel)
theorem kw122 : Cond.fieldLink RX3 28 "LeftAndRight$Reader" "log" "LLeftAndRight$Log;" ∈ Tg := mem_Tg (List.mem_append_right _ (List.mem_of_getElem? (i := 122) (by decide +kernel))) (by decide +kernel)
theorem kw106 : Cond.fieldLink RX3 110 "LeftAndRight$Log" "length" "I" ∈ Tg := mem_Tg (List.mem_append_right _ (List.mem_of_getElem? (i := 106) (by decide +kernel))) (by decide +kernel)
theorem kw108 : Cond.fieldLink RX3 111 "LeftAndRight$Log" "block" "I" ∈ Tg := mem_Tg (List.mem_append_right _ (List.mem_of_getElem? (i := 108) (by decide +kernel))) (by decide +kernel)
theorem kw110 : Cond.fieldLink RX3 114 "LeftAndRight$Log" "knots" "J" ∈ Tg := mem_Tg (List.mem_append_right _ (List.mem_of_getElem? (i := 110) (by decide +kernel))) (by decide +kernel)
theorem kw88 : Cond.fieldLink RX3 118 "LeftAndRight$Waiting" "stocking" "I" ∈ Tg := mem_Tg (List.mem_append_right _ (List.mem_of_getElem? (i := 88) (by decide +kernel))) (by decide +kernel)
theorem kw326 : Cond.methodLink RX3 69 yX3_takeClog ∈ Tg := mem_Tg (List.mem_append_right _ (List.mem_of_getElem? (i := 326) (by decide +kernel))) (by decide +kernel)
theorem kw328 : Cond.instanceMethod yX3_takeClog ∈ Tg := mem_Tg (List.mem_append_right _ (List.mem_of_getElem? (i := 328) (by decide +kernel))) (by decide +kernel)
theorem ks3 : Cond.selects RX3 yX3_takeClog yX3_takeClog ∈ Tg := mem_Tg (List.mem_append_left _ (List.mem_of_getElem? (i := 3) (by decide +kernel))) (by decide +kernel)
theorem kw3 : Cond.initialized RX3 ∈ Tg := mem_Tg (List.mem_append_right _ (List.mem_of_getElem? (i := 3) (by decide +kernel))) (by decide +kernel)
theorem kw347 : Cond.methodLink RX3 73 yX3_takeFeet ∈ Tg := mem_Tg (List.mem_append_right _ (List.mem_of_getElem? (i := 347) (by decide +kernel))) (by decide +kernel)
theorem kw349 : Cond.instanceMethod yX3_takeFeet ∈ Tg := mem_Tg (List.mem_append_right _ (List.mem_of_getElem? (i := 349) (by decide +kernel))) (by decide +kernel)
theorem ks4 : Cond.selects RX3 yX3_takeFeet yX3_takeFeet ∈ Tg := mem_Tg (List.mem_append_left _ (List.mem_of_getElem? (i := 4) (by decide +kernel))) (by decide +kernel)
theorem kw357 : Cond.methodLink RX3 76 yX3_takeLog ∈ Tg := mem_Tg (List.mem_append_right _ (List.mem_of_getElem? (i := 357) (by decide +kernel))) (by decide +kernel)
theorem kw359 : Cond.instanceMethod yX3_takeLog ∈ Tg := mem_Tg (List.mem_append_right _ (List.mem_of_getElem? (i := 359) (by decide +kernel))) (by decide +kernel)
theorem ks5 : Cond.selects RX3 yX3_takeLog yX3_takeLog ∈ Tg := mem_Tg (List.mem_append_left _ (List.mem_of_getElem? (i := 5) (by decide +kernel))) (by decide +kernel)
theorem kw361 : Cond.methodLink RX3 79 yX3_takeKnot ∈ Tg := mem_Tg (List.mem_append_right _ (List.mem_of_getElem? (i := 361) (by decide +kernel))) (by decide +kernel)
theorem kw363 : Cond.instanceMethod yX3_takeKnot ∈ Tg := mem_Tg (List.mem_append_right _ (List.mem_of_getElem? (i := 363) (by decide +kernel))) (by decide +kernel)
theorem ks6 : Cond.selects RX3 yX3_takeKnot yX3_takeKnot ∈ Tg := mem_Tg (List.mem_append_left _ (List.mem_of_getElem? (i := 6) (by decide +kernel))) (by decide +kernel)
theorem kw365 : Cond.methodLink RX3 82 yX3_takeStocking ∈ Tg := mem_Tg (List.mem_append_right _ (List.mem_of_getElem? (i := 365) (by decide +kernel))) (by decide +kernel)
theorem kw367 : Cond.instanceMethod yX3_takeStocking ∈ Tg := mem_Tg (List.mem_append_right _ (List.mem_of_getElem? (i := 367) (by decide +kernel))) (by decide +kernel)
theorem ks7 : Cond.selects RX3 yX3_takeStocking yX3_takeStocking ∈ Tg := mem_Tg (List.mem_append_left _ (List.mem_of_getElem? (i := 7) (by decide +kernel))) (by decide +kernel)
theorem kw294 : Cond.methodLink RX3 36 yX4_clear ∈ Tg := mem_Tg (List.mem_append_right _ (List.mem_of_getElem? (i := 294) (by decide +kernel))) (by decide +kernel)
theorem kw295 : Cond.instanceMethod yX4_clear ∈ Tg := mem_Tg (List.mem_append_right _ (List.mem_of_getElem? (i := 295) (by decide +kernel))) (by decide +kernel)
theorem kw296 : Cond.selects RX4 yX4_clear yX4_clear ∈ Tg := mem_Tg (List.mem_append_right _ (List.mem_of_getElem? (i := 296) (by decide +kernel))) (by decide +kernel)
theorem kw298 : Cond.methodLink RX3 39 yX6_clear ∈ Tg := mem_Tg (List.mem_append_right _ (List.mem_of_getElem? (i := 298) (by decide +kernel))) (by decide +kernel)
theorem kw299 : Cond.instanceMethod yX6_clear ∈ Tg := mem_Tg (List.mem_append_right _ (List.mem_of_getElem? (i := 299) (by decide +kernel))) (by decide +kernel)
theorem kw300 : Cond.selects RX6 yX6_clear yX6_clear ∈ Tg := mem_Tg (List.mem_append_right _ (List.mem_of_getElem? (i := 300) (by decide +kernel))) (by decide +kernel)
theorem kw302 : Cond.methodLink RX3 40 yX0_clear ∈ Tg := mem_Tg (List.mem_append_right _ (List.mem_of_getElem? (i := 302) (by decide +kernel))) (by decide +kernel)
theorem kw303 : Cond.instanceMethod yX0_clear ∈ Tg := mem_Tg (List.mem_append_right _ (List.mem_of_getElem? (i := 303) (by decide +kernel))) (by decide +kernel)
theorem kw304 : Cond.selects RX0 yX0_clear yX0_clear ∈ Tg := mem_Tg (List.mem_append_right _ (List.mem_of_getElem? (i := 304) (by decide +kernel))) (by decide +kernel)
theorem kw38 : Cond.fieldLink RX3 41 "LeftAndRight$Text" "length" "I" ∈ Tg := mem_Tg (List.mem_append_right _ (List.mem_of_getElem? (i := 38) (by decide +kernel))) (by decide +kernel)
theorem kw306 : Cond.methodLink RX3 47 yX3_readNumbers ∈ Tg := mem_Tg (List.mem_append_right _ (List.mem_of_getElem? (i := 306) (by decide +kernel))) (by decide +kernel)
theorem kw308 : Cond.instanceMethod yX3_readNumbers ∈ Tg := mem_Tg (List.mem_append_right _ (List.mem_of_getElem? (i := 308) (by decide +kernel))) (by decide +kernel)
theorem ks1 : Cond.selects RX3 yX3_readNumbers yX3_readNumbers ∈ Tg := mem_Tg (List.mem_append_left _ (List.mem_of_getElem? (i := 1) (by decide +kernel))) (by decide +kernel)
theorem kw322 : Cond.methodLink RX3 55 yX3_take ∈ Tg := mem_Tg (List.mem_append_right _ (List.mem_of_getElem? (i := 322) (by decide +kernel))) (by decide +kernel)
theorem kw324 : Cond.instanceMethod yX3_take ∈ Tg := mem_Tg (List.mem_append_right _ (List.mem_of_getElem? (i := 324) (by decide +kernel))) (by decide +kernel)
theorem ks2 : Cond.selects RX3 yX3_take yX3_take ∈ Tg := mem_Tg (List.mem_append_left _ (List.mem_of_getElem? (i := 2) (by decide +kernel))) (by decide +kernel)
theorem kw59 : Cond.fieldLink RX1 24 "LeftAndRight$Shelf" "clogs" "I" ∈ Tg := mem_Tg (List.mem_append_right _ (List.mem_of_getElem? (i := 59) (by decide +kernel))) (by decide +kernel)
theorem kw567 : Cond.methodLink RX1 30 Lib.Math.min.name ∈ Tg := mem_Tg (List.mem_append_right _ (List.mem_of_getElem? (i := 567) (by decide +kernel))) (by decide +kernel)
theorem kw568 : Cond.methodLink RX1 36 Lib.Math.max.name ∈ Tg := mem_Tg (List.mem_append_right _ (List.mem_of_getElem? (i := 568) (by decide +kernel))) (by decide +kernel)
theorem in1 : ∀ w ∈ u_ws RX1 TX1 8, w ∈ Tg := by decide +kernel
theorem kw194 : Cond.fieldLink RX1 39 "LeftAndRight$Pairing" "clogs" "I" ∈ Tg := mem_Tg (List.mem_append_right _ (List.mem_of_getElem? (i := 194) (by decide +kernel))) (by decide +kernel)
theorem kw569 : Cond.methodLink RX1 40 yX4_ofSide ∈ Tg := mem_Tg (List.mem_append_right _ (List.mem_of_getElem? (i := 569) (by decide +kernel))) (by decide +kernel)
theorem kw570 : Cond.instanceMethod yX4_ofSide ∈ Tg := mem_Tg (List.mem_append_right _ (List.mem_of_getElem? (i := 570) (by decide +kernel))) (by decide +kernel)
theorem kw571 : Cond.selects RX4 yX4_ofSide yX4_ofSide ∈ Tg := mem_Tg (List.mem_append_right _ (List.mem_of_getElem? (i := 571) (by decide +kernel))) (by decide +kernel)
theorem kw193 : Cond.fieldLink RX1 44 "LeftAndRight$Pairing" "lefts" "I" ∈ Tg := mem_Tg (List.mem_append_right _ (List.mem_of_getElem? (i := 193) (by decide +kernel))) (by decide +kernel)
theorem kw190 : Cond.fieldLink RX1 15 "LeftAndRight$Pairing" "mates" "[I" ∈ Tg := mem_Tg (List.mem_append_right _ (List.mem_of_getElem? (i := 190) (by decide +kernel))) (by decide +kernel)
theorem kw573 : Cond.methodLink RX1 47 yX4_matesOf ∈ Tg := mem_Tg (List.mem_append_right _ (List.mem_of_getElem? (i := 573) (by decide +kernel))) (by decide +kernel)
theorem kw555 : Cond.instanceMethod yX4_matesOf ∈ Tg := mem_Tg (List.mem_append_right _ (List.mem_of_getElem? (i := 555) (by decide +kernel))) (by decide +kernel)
theorem kw556 : Cond.selects RX4 yX4_matesOf yX4_matesOf ∈ Tg := mem_Tg (List.mem_append_right _ (List.mem_of_getElem? (i := 556) (by decide +kernel))) (by decide +kernel)
theorem kn24 : (RX1, 50, yX9_put, "LeftAndRight") ∈ NSt := List.mem_of_getElem? (i := 24) rfl
theorem kw191 : Cond.fieldLink RX1 18 "LeftAndRight$Pairing" "sizes" "[I" ∈ Tg := mem_Tg (List.mem_append_right _ (List.mem_of_getElem? (i := 191) (by decide +kernel))) (by decide +kernel)
theorem kw64 : Cond.fieldLink RX1 54 "LeftAndRight$Shelf" "day" "I" ∈ Tg := mem_Tg (List.mem_append_right _ (List.mem_of_getElem? (i := 64) (by decide +kernel))) (by decide +kernel)
theorem kw575 : Cond.methodLink RX1 57 yX4_sizeOn ∈ Tg := mem_Tg (List.mem_append_right _ (List.mem_of_getElem? (i := 575) (by decide +kernel))) (by decide +kernel)
theorem kn26 : (RX1, 86, yX9_at, "LeftAndRight") ∈ NSt := List.mem_of_getElem? (i := 26) rfl
theorem kw596 : Cond.methodLink RX1 97 Lib.Math.abs.name ∈ Tg := mem_Tg (List.mem_append_right _ (List.mem_of_getElem? (i := 596) (by decide +kernel))) (by decide +kernel)
theorem kw189 : Cond.fieldLink RX1 9 "LeftAndRight$Pairing" "sets" "[I" ∈ Tg := mem_Tg (List.mem_append_right _ (List.mem_of_getElem? (i := 189) (by decide +kernel))) (by decide +kernel)
theorem kw592 : Cond.methodLink RX1 94 yX1_distance ∈ Tg := mem_Tg (List.mem_append_right _ (List.mem_of_getElem? (i := 592) (by decide +kernel))) (by decide +kernel)
theorem kw594 : Cond.instanceMethod yX1_distance ∈ Tg := mem_Tg (List.mem_append_right _ (List.mem_of_getElem? (i := 594) (by decide +kernel))) (by decide +kernel)
theorem ks13 : Cond.selects RX1 yX1_distance yX1_distance ∈ Tg := mem_Tg (List.mem_append_left _ (List.mem_of_getElem? (i := 13) (by decide +kernel))) (by decide +kernel)
theorem kw10 : Cond.initialized RX1 ∈ Tg := mem_Tg (List.mem_append_right _ (List.mem_of_getElem? (i := 10) (by decide +kernel))) (by decide +kernel)
theorem kn25 : (RX1, 75, yX9_hasBit, "LeftAndRight") ∈ NSt := List.mem_of_getElem? (i := 25) rfl
theorem kw585 : Cond.static yX9_hasBit ∈ Tg := mem_Tg (List.mem_append_right _ (List.mem_of_getElem? (i := 585) (by decide +kernel))) (by decide +kernel)
theorem kw588 : Cond.methodLink RX1 90 yX1_worthOf ∈ Tg := mem_Tg (List.mem_append_right _ (List.mem_of_getElem? (i := 588) (by decide +kernel))) (by decide +kernel)
theorem kw590 : Cond.instanceMethod yX1_worthOf ∈ Tg := mem_Tg (List.mem_append_right _ (List.mem_of_getElem? (i := 590) (by decide +kernel))) (by decide +kernel)
theorem ks12 : Cond.selects RX1 yX1_worthOf yX1_worthOf ∈ Tg := mem_Tg (List.mem_append_left _ (List.mem_of_getElem? (i := 12) (by decide +kernel))) (by decide +kernel)
theorem kw192 : Cond.fieldLink RX1 21 "LeftAndRight$Pairing" "partners" "[I" ∈ Tg := mem_Tg (List.mem_append_right _ (List.mem_of_getElem? (i := 192) (by decide +kernel))) (by decide +kernel)
theorem kw195 : Cond.fieldLink RX1 69 "LeftAndRight$Pairing" "number" "I" ∈ Tg := mem_Tg (List.mem_append_right _ (List.mem_of_getElem? (i := 195) (by decide +kernel))) (by decide +kernel)
theorem kw197 : Cond.fieldLink RX1 72 "LeftAndRight$Pairing" "apart" "I" ∈ Tg := mem_Tg (List.mem_append_right _ (List.mem_of_getElem? (i := 197) (by decide +kernel))) (by decide +kernel)
theorem kw580 : Cond.methodLink RX1 60 yX1_bestWithout ∈ Tg := mem_Tg (List.mem_append_right _ (List.mem_of_getElem? (i := 580) (by decide +kernel))) (by decide +kernel)
theorem kw582 : Cond.instanceMethod yX1_bestWithout ∈ Tg := mem_Tg (List.mem_append_right _ (List.mem_of_getElem? (i := 582) (by decide +kernel))) (by decide +kernel)
theorem ks11 : Cond.selects RX1 yX1_bestWithout yX1_bestWithout ∈ Tg := mem_Tg (List.mem_append_left _ (List.mem_of_getElem? (i := 11) (by decide +kernel))) (by decide +kernel)
theorem kw597 : Cond.methodLink RX1 63 yJ7_fill_53178 ∈ Tg := mem_Tg (List.mem_append_right _ (List.mem_of_getElem? (i := 597) (by decide +kernel))) (by decide +kernel)
theorem kw598 : Cond.static yJ7_fill_53178 ∈ Tg := mem_Tg (List.mem_append_right _ (List.mem_of_getElem? (i := 598) (by decide +kernel))) (by decide +kernel)
theorem kw18 : Cond.initialized RJ7 ∈ Tg := mem_Tg (List.mem_append_right _ (List.mem_of_getElem? (i := 18) (by decide +kernel))) (by decide +kernel)
theorem kw600 : Cond.methodLink RX1 79 yX1_firstBest ∈ Tg := mem_Tg (List.mem_append_right _ (List.mem_of_getElem? (i := 600) (by decide +kernel))) (by decide +kernel)
theorem kw602 : Cond.instanceMethod yX1_firstBest ∈ Tg := mem_Tg (List.mem_append_right _ (List.mem_of_getElem? (i := 602) (by decide +kernel))) (by decide +kernel)
theorem ks14 : Cond.selects RX1 yX1_firstBest yX1_firstBest ∈ Tg := mem_Tg (List.mem_append_left _ (List.mem_of_getElem? (i := 14) (by decide +kernel))) (by decide +kernel)
theorem kw604 : Cond.methodLink RX1 82 yX1_join ∈ Tg := mem_Tg (List.mem_append_right _ (List.mem_of_getElem? (i := 604) (by decide +kernel))) (by decide +kernel)
theorem kw606 : Cond.instanceMethod yX1_join ∈ Tg := mem_Tg (List.mem_append_right _ (List.mem_of_getElem? (i := 606) (by decide +kernel))) (by decide +kernel)
theorem ks15 : Cond.selects RX1 yX1_join yX1_join ∈ Tg := mem_Tg (List.mem_append_left _ (List.mem_of_getElem? (i := 15) (by decide +kernel))) (by decide +kernel)
theorem kw641 : Cond.methodLink RX1 116 yX1_giveOnTopOf ∈ Tg := mem_Tg (List.mem_append_right _ (List.mem_of_getElem? (i := 641) (by decide +kernel))) (by decide +kernel)
theorem kw643 : Cond.instanceMethod yX1_giveOnTopOf ∈ Tg := mem_Tg (List.mem_append_right _ (List.mem_of_getElem? (i := 643) (by decide +kernel))) (by decide +kernel)
theorem ks17 : Cond.selects RX1 yX1_giveOnTopOf yX1_giveOnTopOf ∈ Tg := mem_Tg (List.mem_append_left _ (List.mem_of_getElem? (i := 17) (by decide +kernel))) (by decide +kernel)
theorem kw86 : Cond.fieldLink RX1 100 "LeftAndRight$Waiting" "number" "I" ∈ Tg := mem_Tg (List.mem_append_right _ (List.mem_of_getElem? (i := 86) (by decide +kernel))) (by decide +kernel)
theorem kw631 : Cond.methodLink RX1 103 yX6_suits ∈ Tg := mem_Tg (List.mem_append_right _ (List.mem_of_getElem? (i := 631) (by decide +kernel))) (by decide +kernel)
theorem kw632 : Cond.instanceMethod yX6_suits ∈ Tg := mem_Tg (List.mem_append_right _ (List.mem_of_getElem? (i := 632) (by decide +kernel))) (by decide +kernel)
theorem kw633 : Cond.selects RX6 yX6_suits yX6_suits ∈ Tg := mem_Tg (List.mem_append_right _ (List.mem_of_getElem? (i := 633) (by decide +kernel))) (by decide +kernel)
theorem kw637 : Cond.methodLink RX1 107 yX1_giveOut ∈ Tg := mem_Tg (List.mem_append_right _ (List.mem_of_getElem? (i := 637) (by decide +kernel))) (by decide +kernel)
theorem kw639 : Cond.instanceMethod yX1_giveOut ∈ Tg := mem_Tg (List.mem_append_right _ (List.mem_of_getElem? (i := 639) (by decide +kernel))) (by decide +kernel)
theorem ks16 : Cond.selects RX1 yX1_giveOut yX1_giveOut ∈ Tg := mem_Tg (List.mem_append_left _ (List.mem_of_getElem? (i := 16) (by decide +kernel))) (by decide +kernel)
theorem kw645 : Cond.methodLink RX1 111 yJ6_bitCount_0f7a4 ∈ Tg := mem_Tg (List.mem_append_right _ (List.mem_of_getElem? (i := 645) (by decide +kernel))) (by decide +kernel)
theorem kw618 : Cond.static yJ6_bitCount_0f7a4 ∈ Tg := mem_Tg (List.mem_append_right _ (List.mem_of_getElem? (i := 618) (by decide +kernel))) (by decide +kernel)
theorem kw19 : Cond.initialized RJ6 ∈ Tg := mem_Tg (List.mem_append_right _ (List.mem_of_getElem? (i := 19) (by decide +kernel))) (by decide +kernel)
theorem in2 : ∀ w ∈ u_ws RX2 TX2 2, w ∈ Tg := by decide +kernel
theorem kw176 : Cond.fieldLink RX2 22 "LeftAndRight$Pile" "height" "I" ∈ Tg := mem_Tg (List.mem_append_right _ (List.mem_of_getElem? (i := 176) (by decide +kernel))) (by decide +kernel)
theorem kw175 : Cond.fieldLink RX2 15 "LeftAndRight$Pile" "shelves" "[LLeftAndRight$Shelf;" ∈ Tg := mem_Tg (List.mem_append_right _ (List.mem_of_getElem? (i := 175) (by decide +kernel))) (by decide +kernel)
theorem kw492 : Cond.methodLink RX2 26 yX2_isFull ∈ Tg := mem_Tg (List.mem_append_right _ (List.mem_of_getElem? (i := 492) (by decide +kernel))) (by decide +kernel)
theorem kw493 : Cond.instanceMethod yX2_isFull ∈ Tg := mem_Tg (List.mem_append_right _ (List.mem_of_getElem? (i := 493) (by decide +kernel))) (by decide +kernel)
theorem kw494 : Cond.selects RX2 yX2_isFull yX2_isFull ∈ Tg := mem_Tg (List.mem_append_right _ (List.mem_of_getElem? (i := 494) (by decide +kernel))) (by decide +kernel)
theorem kw8 : Cond.initialized RX2 ∈ Tg := mem_Tg (List.mem_append_right _ (List.mem_of_getElem? (i := 8) (by decide +kernel))) (by decide +kernel)
theorem kw500 : Cond.methodLink RX2 33 yX4_copy ∈ Tg := mem_Tg (List.mem_append_right _ (List.mem_of_getElem? (i := 500) (by decide +kernel))) (by decide +kernel)
theorem kw496 : Cond.methodLink RX2 30 yX2_dropLowest ∈ Tg := mem_Tg (List.mem_append_right _ (List.mem_of_getElem? (i := 496) (by decide +kernel))) (by decide +kernel)
theorem kw498 : Cond.instanceMethod yX2_dropLowest ∈ Tg := mem_Tg (List.mem_append_right _ (List.mem_of_getElem? (i := 498) (by decide +kernel))) (by decide +kernel)
theorem ks9 : Cond.selects RX2 yX2_dropLowest yX2_dropLowest ∈ Tg := mem_Tg (List.mem_append_left _ (List.mem_of_getElem? (i := 9) (by decide +kernel))) (by decide +kernel)
theorem in10 : ∀ w ∈ u_ws RX10 TX10 32, w ∈ Tg := by decide +kernel
theorem kw827 : Cond.fieldLink RX10 38 "LeftAndRightModel" "readFeet" "[I" ∈ Tg := mem_Tg (List.mem_append_right _ (List.mem_of_getElem? (i := 827) (by decide +kernel))) (by decide +kernel)
theorem kw826 : Cond.fieldLink RX10 87 "LeftAndRightModel" "readFeetMany" "I" ∈ Tg := mem_Tg (List.mem_append_right _ (List.mem_of_getElem? (i := 826) (by decide +kernel))) (by decide +kernel)
theorem kw814 : Cond.fieldLink RX10 17 "LeftAndRightModel" "st" "[I" ∈ Tg := mem_Tg (List.mem_append_right _ (List.mem_of_getElem? (i := 814) (by decide +kernel))) (by decide +kernel)
theorem kw910 : Cond.methodLink RX10 90 yX10_in ∈ Tg := mem_Tg (List.mem_append_right _ (List.mem_of_getElem? (i := 910) (by decide +kernel))) (by decide +kernel)
theorem kw911 : Cond.static yX10_in ∈ Tg := mem_Tg (List.mem_append_right _ (List.mem_of_getElem? (i := 911) (by decide +kernel))) (by decide +kernel)
theorem kw17 : Cond.initialized RX10 ∈ Tg := mem_Tg (List.mem_append_right _ (List.mem_of_getElem? (i := 17) (by decide +kernel))) (by decide +kernel)
theorem kw822 : Cond.fieldLink RX10 94 "LeftAndRightModel" "texted" "I" ∈ Tg := mem_Tg (List.mem_append_right _ (List.mem_of_getElem? (i := 822) (by decide +kernel))) (by decide +kernel)
theorem kw821 : Cond.fieldLink RX10 29 "LeftAndRightModel" "text" "[I" ∈ Tg := mem_Tg (List.mem_append_right _ (List.mem_of_getElem? (i := 821) (by decide +kernel))) (by decide +kernel)
theorem kw823 : Cond.fieldLink RX10 97 "LeftAndRightModel" "at" "I" ∈ Tg := mem_Tg (List.mem_append_right _ (List.mem_of_getElem? (i := 823) (by decide +kernel))) (by decide +kernel)
theorem kw925 : Cond.methodLink RX10 100 yX10_letterAt ∈ Tg := mem_Tg (List.mem_append_right _ (List.mem_of_getElem? (i := 925) (by decide +kernel))) (by decide +kernel)
theorem kw927 : Cond.instanceMethod yX10_letterAt ∈ Tg := mem_Tg (List.mem_append_right _ (List.mem_of_getElem? (i := 927) (by decide +kernel))) (by decide +kernel)
theorem ks26 : Cond.selects RX10 yX10_letterAt yX10_letterAt ∈ Tg := mem_Tg (List.mem_append_left _ (List.mem_of_getElem? (i := 26) (by decide +kernel))) (by decide +kernel)
theorem kw937 : Cond.methodLink RX10 104 yX10_isFigure ∈ Tg := mem_Tg (List.mem_append_right _ (List.mem_of_getElem? (i := 937) (by decide +kernel))) (by decide +kernel)
theorem kw938 : Cond.static yX10_isFigure ∈ Tg := mem_Tg (List.mem_append_right _ (List.mem_of_getElem? (i := 938) (by decide +kernel))) (by decide +kernel)
theorem kw824 : Cond.fieldLink RX10 32 "LeftAndRightModel" "told" "[I" ∈ Tg := mem_Tg (List.mem_append_right _ (List.mem_of_getElem? (i := 824) (by decide +kernel))) (by decide +kernel)
theorem kw825 : Cond.fieldLink RX10 35 "LeftAndRightModel" "read" "[I" ∈ Tg := mem_Tg (List.mem_append_right _ (List.mem_of_getElem? (i := 825) (by decide +kernel))) (by decide +kernel)
theorem kw830 : Cond.fieldLink RX10 41 "LeftAndRightModel" "readKnot" "[Z" ∈ Tg := mem_Tg (List.mem_append_right _ (List.mem_of_getElem? (i := 830) (by decide +kernel))) (by decide +kernel)
theorem kw828 : Cond.fieldLink RX10 73 "LeftAndRightModel" "readLog" "I" ∈ Tg := mem_Tg (List.mem_append_right _ (List.mem_of_getElem? (i := 828) (by decide +kernel))) (by decide +kernel)
theorem kw829 : Cond.fieldLink RX10 77 "LeftAndRightModel" "readBlock" "I" ∈ Tg := mem_Tg (List.mem_append_right _ (List.mem_of_getElem? (i := 829) (by decide +kernel))) (by decide +kernel)
theorem kw831 : Cond.fieldLink RX10 108 "LeftAndRightModel" "readStocking" "I" ∈ Tg := mem_Tg (List.mem_append_right _ (List.mem_of_getElem? (i := 831) (by decide +kernel))) (by decide +kernel)
theorem kw933 : Cond.methodLink RX10 111 yX10_readNumbers ∈ Tg := mem_Tg (List.mem_append_right _ (List.mem_of_getElem? (i := 933) (by decide +kernel))) (by decide +kernel)
theorem kw935 : Cond.instanceMethod yX10_readNumbers ∈ Tg := mem_Tg (List.mem_append_right _ (List.mem_of_getElem? (i := 935) (by decide +kernel))) (by decide +kernel)
theorem ks28 : Cond.selects RX10 yX10_readNumbers yX10_readNumbers ∈ Tg := mem_Tg (List.mem_append_left _ (List.mem_of_getElem? (i := 28) (by decide +kernel))) (by decide +kernel)
theorem kw947 : Cond.methodLink RX10 118 yX10_isTold ∈ Tg := mem_Tg (List.mem_append_right _ (List.mem_of_getElem? (i := 947) (by decide +kernel))) (by decide +kernel)
theorem kw949 : Cond.instanceMethod yX10_isTold ∈ Tg := mem_Tg (List.mem_append_right _ (List.mem_of_getElem? (i := 949) (by decide +kernel))) (by decide +kernel)
theorem ks30 : Cond.selects RX10 yX10_isTold yX10_isTold ∈ Tg := mem_Tg (List.mem_append_left _ (List.mem_of_getElem? (i := 30) (by decide +kernel))) (by decide +kernel)
theorem kw797 : Cond.methodLink RX10 69 yX10_tellsFeet ∈ Tg := mem_Tg (List.mem_append_right _ (List.mem_of_getElem? (i := 797) (by decide +kernel))) (by decide +kernel)
theorem kw799 : Cond.instanceMethod yX10_tellsFeet ∈ Tg := mem_Tg (List.mem_append_right _ (List.mem_of_getElem? (i := 799) (by decide +kernel))) (by decide +kernel)
theorem ks23 : Cond.selects RX10 yX10_tellsFeet yX10_tellsFeet ∈ Tg := mem_Tg (List.mem_append_left _ (List.mem_of_getElem? (i := 23) (by decide +kernel))) (by decide +kernel)
theorem kw805 : Cond.methodLink RX10 144 yX10_copies ∈ Tg := mem_Tg (List.mem_append_right _ (List.mem_of_getElem? (i := 805) (by decide +kernel))) (by decide +kernel)
theorem kw806 : Cond.static yX10_copies ∈ Tg := mem_Tg (List.mem_append_right _ (List.mem_of_getElem? (i := 806) (by decide +kernel))) (by decide +kernel)
theorem kw808 : Cond.fieldLink RX10 148 "LeftAndRightModel" "feetMany" "I" ∈ Tg := mem_Tg (List.mem_append_right _ (List.mem_of_getElem? (i := 808) (by decide +kernel))) (by decide +kernel)
theorem kw809 : Cond.fieldLink RX10 7 "LeftAndRightModel" "feet" "[I" ∈ Tg := mem_Tg (List.mem_append_right _ (List.mem_of_getElem? (i := 809) (by decide +kernel))) (by decide +kernel)
theorem kw810 : Cond.fieldLink RX10 151 "LeftAndRightModel" "log" "I" ∈ Tg := mem_Tg (List.mem_append_right _ (List.mem_of_getElem? (i := 810) (by decide +kernel))) (by decide +kernel)
theorem kw811 : Cond.fieldLink RX10 154 "LeftAndRightModel" "block" "I" ∈ Tg := mem_Tg (List.mem_append_right _ (List.mem_of_getElem? (i := 811) (by decide +kernel))) (by decide +kernel)
theorem kw812 : Cond.fieldLink RX10 13 "LeftAndRightModel" "knot" "[Z" ∈ Tg := mem_Tg (List.mem_append_right _ (List.mem_of_getElem? (i := 812) (by decide +kernel))) (by decide +kernel)
theorem kw813 : Cond.fieldLink RX10 157 "LeftAndRightModel" "stocking" "I" ∈ Tg := mem_Tg (List.mem_append_right _ (List.mem_of_getElem? (i := 813) (by decide +kernel))) (by decide +kernel)
theorem kw815 : Cond.fieldLink RX10 160 "LeftAndRightModel" "acts" "I" ∈ Tg := mem_Tg (List.mem_append_right _ (List.mem_of_getElem? (i := 815) (by decide +kernel))) (by decide +kernel)
theorem kw817 : Cond.fieldLink RX10 163 "LeftAndRightModel" "keeps" "I" ∈ Tg := mem_Tg (List.mem_append_right _ (List.mem_of_getElem? (i := 817) (by decide +kernel))) (by decide +kernel)
theorem kw819 : Cond.fieldLink RX10 166 "LeftAndRightModel" "hears" "I" ∈ Tg := mem_Tg (List.mem_append_right _ (List.mem_of_getElem? (i := 819) (by decide +kernel))) (by decide +kernel)
theorem kw794 : Cond.methodLink RX10 83 yX10_puts ∈ Tg := mem_Tg (List.mem_append_right _ (List.mem_of_getElem? (i := 794) (by decide +kernel))) (by decide +kernel)
theorem kw795 : Cond.static yX10_puts ∈ Tg := mem_Tg (List.mem_append_right _ (List.mem_of_getElem? (i := 795) (by decide +kernel))) (by decide +kernel)
theorem kw940 : Cond.methodLink RX10 114 yX10_isOne ∈ Tg := mem_Tg (List.mem_append_right _ (List.mem_of_getElem? (i := 940) (by decide +kernel))) (by decide +kernel)
theorem kw941 : Cond.static yX10_isOne ∈ Tg := mem_Tg (List.mem_append_right _ (List.mem_of_getElem? (i := 941) (by decide +kernel))) (by decide +kernel)
theorem kw790 : Cond.methodLink RX10 65 yX10_tellsClog ∈ Tg := mem_Tg (List.mem_append_right _ (List.mem_of_getElem? (i := 790) (by decide +kernel))) (by decide +kernel)
theorem kw792 : Cond.instanceMethod yX10_tellsClog ∈ Tg := mem_Tg (List.mem_append_right _ (List.mem_of_getElem? (i := 792) (by decide +kernel))) (by decide +kernel)
theorem ks22 : Cond.selects RX10 yX10_tellsClog yX10_tellsClog ∈ Tg := mem_Tg (List.mem_append_left _ (List.mem_of_getElem? (i := 22) (by decide +kernel))) (by decide +kernel)
theorem kw929 : Cond.methodLink RX10 121 yX10_readClogOf ∈ Tg := mem_Tg (List.mem_append_right _ (List.mem_of_getElem? (i := 929) (by decide +kernel))) (by decide +kernel)
theorem kw931 : Cond.instanceMethod yX10_readClogOf ∈ Tg := mem_Tg (List.mem_append_right _ (List.mem_of_getElem? (i := 931) (by decide +kernel))) (by decide +kernel)
theorem ks27 : Cond.selects RX10 yX10_readClogOf yX10_readClogOf ∈ Tg := mem_Tg (List.mem_append_left _ (List.mem_of_getElem? (i := 27) (by decide +kernel))) (by decide +kernel)
theorem kw943 : Cond.methodLink RX10 125 yX10_readFeetOf ∈ Tg := mem_Tg (List.mem_append_right _ (List.mem_of_getElem? (i := 943) (by decide +kernel))) (by decide +kernel)
theorem kw945 : Cond.instanceMethod yX10_readFeetOf ∈ Tg := mem_Tg (List.mem_append_right _ (List.mem_of_getElem? (i := 945) (by decide +kernel))) (by decide +kernel)
theorem ks29 : Cond.selects RX10 yX10_readFeetOf yX10_readFeetOf ∈ Tg := mem_Tg (List.mem_append_left _ (List.mem_of_getElem? (i := 29) (by decide +kernel))) (by decide +kernel)
theorem kw951 : Cond.methodLink RX10 128 yX10_readLogOf ∈ Tg := mem_Tg (List.mem_append_right _ (List.mem_of_getElem? (i := 951) (by decide +kernel))) (by decide +kernel)
theorem kw953 : Cond.instanceMethod yX10_readLogOf ∈ Tg := mem_Tg (List.mem_append_right _ (List.mem_of_getElem? (i := 953) (by decide +kernel))) (by decide +kernel)
theorem ks31 : Cond.selects RX10 yX10_readLogOf yX10_readLogOf ∈ Tg := mem_Tg (List.mem_append_left _ (List.mem_of_getElem? (i := 31) (by decide +kernel))) (by decide +kernel)
theorem kw955 : Cond.methodLink RX10 131 yX10_readKnotOf ∈ Tg := mem_Tg (List.mem_append_right _ (List.mem_of_getElem? (i := 955) (by decide +kernel))) (by decide +kernel)
theorem kw957 : Cond.instanceMethod yX10_readKnotOf ∈ Tg := mem_Tg (List.mem_append_right _ (List.mem_of_getElem? (i := 957) (by decide +kernel))) (by decide +kernel)
theorem ks32 : Cond.selects RX10 yX10_readKnotOf yX10_readKnotOf ∈ Tg := mem_Tg (List.mem_append_left _ (List.mem_of_getElem? (i := 32) (by decide +kernel))) (by decide +kernel)
theorem kw959 : Cond.methodLink RX10 134 yX10_readStockingOf ∈ Tg := mem_Tg (List.mem_append_right _ (List.mem_of_getElem? (i := 959) (by decide +kernel))) (by decide +kernel)
theorem kw961 : Cond.instanceMethod yX10_readStockingOf ∈ Tg := mem_Tg (List.mem_append_right _ (List.mem_of_getElem? (i := 961) (by decide +kernel))) (by decide +kernel)
theorem ks33 : Cond.selects RX10 yX10_readStockingOf yX10_readStockingOf ∈ Tg := mem_Tg (List.mem_append_left _ (List.mem_of_getElem? (i := 33) (by decide +kernel))) (by decide +kernel)
theorem kw786 : Cond.methodLink RX10 62 yX10_clearTold ∈ Tg := mem_Tg (List.mem_append_right _ (List.mem_of_getElem? (i := 786) (by decide +kernel))) (by decide +kernel)
theorem kw788 : Cond.instanceMethod yX10_clearTold ∈ Tg := mem_Tg (List.mem_append_right _ (List.mem_of_getElem? (i := 788) (by decide +kernel))) (by decide +kernel)
theorem ks21 : Cond.selects RX10 yX10_clearTold yX10_clearTold ∈ Tg := mem_Tg (List.mem_append_left _ (List.mem_of_getElem? (i := 21) (by decide +kernel))) (by decide +kernel)
theorem kw921 : Cond.methodLink RX10 137 yX10_readItem ∈ Tg := mem_Tg (List.mem_append_right _ (List.mem_of_getElem? (i := 921) (by decide +kernel))) (by decide +kernel)
theorem kw923 : Cond.instanceMethod yX10_readItem ∈ Tg := mem_Tg (List.mem_append_right _ (List.mem_of_getElem? (i := 923) (by decide +kernel))) (by decide +kernel)
theorem ks25 : Cond.selects RX10 yX10_readItem yX10_readItem ∈ Tg := mem_Tg (List.mem_append_left _ (List.mem_of_getElem? (i := 25) (by decide +kernel))) (by decide +kernel)
theorem kw967 : Cond.methodLink RX10 140 yX10_fault ∈ Tg := mem_Tg (List.mem_append_right _ (List.mem_of_getElem? (i := 967) (by decide +kernel))) (by decide +kernel)
theorem kw918 : Cond.instanceMethod yX10_fault ∈ Tg := mem_Tg (List.mem_append_right _ (List.mem_of_getElem? (i := 918) (by decide +kernel))) (by decide +kernel)
theorem kw919 : Cond.selects RX10 yX10_fault yX10_fault ∈ Tg := mem_Tg (List.mem_append_right _ (List.mem_of_getElem? (i := 919) (by decide +kernel))) (by decide +kernel)
theorem kw801 : Cond.methodLink RX10 80 yX10_settles ∈ Tg := mem_Tg (List.mem_append_right _ (List.mem_of_getElem? (i := 801) (by decide +kernel))) (by decide +kernel)
theorem kw803 : Cond.instanceMethod yX10_settles ∈ Tg := mem_Tg (List.mem_append_right _ (List.mem_of_getElem? (i := 803) (by decide +kernel))) (by decide +kernel)
theorem ks24 : Cond.selects RX10 yX10_settles yX10_settles ∈ Tg := mem_Tg (List.mem_append_left _ (List.mem_of_getElem? (i := 24) (by decide +kernel))) (by decide +kernel)
theorem kw832 : Cond.fieldLink RX10 44 "LeftAndRightModel" "now" "[I" ∈ Tg := mem_Tg (List.mem_append_right _ (List.mem_of_getElem? (i := 832) (by decide +kernel))) (by decide +kernel)
theorem kw980 : Cond.methodLink RX10 169 yX10_kindOf ∈ Tg := mem_Tg (List.mem_append_right _ (List.mem_of_getElem? (i := 980) (by decide +kernel))) (by decide +kernel)
theorem kw982 : Cond.instanceMethod yX10_kindOf ∈ Tg := mem_Tg (List.mem_append_right _ (List.mem_of_getElem? (i := 982) (by decide +kernel))) (by decide +kernel)
theorem ks36 : Cond.selects RX10 yX10_kindOf yX10_kindOf ∈ Tg := mem_Tg (List.mem_append_left _ (List.mem_of_getElem? (i := 36) (by decide +kernel))) (by decide +kernel)
theorem kw992 : Cond.methodLink RX10 172 yX10_driedFor ∈ Tg := mem_Tg (List.mem_append_right _ (List.mem_of_getElem? (i := 992) (by decide +kernel))) (by decide +kernel)
theorem kw994 : Cond.instanceMethod yX10_driedFor ∈ Tg := mem_Tg (List.mem_append_right _ (List.mem_of_getElem? (i := 994) (by decide +kernel))) (by decide +kernel)
theorem ks39 : Cond.selects RX10 yX10_driedFor yX10_driedFor ∈ Tg := mem_Tg (List.mem_append_left _ (List.mem_of_getElem? (i := 39) (by decide +kernel))) (by decide +kernel)
theorem kw984 : Cond.methodLink RX10 175 yX10_sideOf ∈ Tg := mem_Tg (List.mem_append_right _ (List.mem_of_getElem? (i := 984) (by decide +kernel))) (by decide +kernel)
theorem kw986 : Cond.instanceMethod yX10_sideOf ∈ Tg := mem_Tg (List.mem_append_right _ (List.mem_of_getElem? (i := 986) (by decide +kernel))) (by decide +kernel)
theorem ks37 : Cond.selects RX10 yX10_sideOf yX10_sideOf ∈ Tg := mem_Tg (List.mem_append_left _ (List.mem_of_getElem? (i := 37) (by decide +kernel))) (by decide +kernel)
theorem kw988 : Cond.methodLink RX10 178 yX10_sizeOf ∈ Tg := mem_Tg (List.mem_append_right _ (List.mem_of_getElem? (i := 988) (by decide +kernel))) (by decide +kernel)
theorem kw990 : Cond.instanceMethod yX10_sizeOf ∈ Tg := mem_Tg (List.mem_append_right _ (List.mem_of_getElem? (i := 990) (by decide +kernel))) (by decide +kernel)
theorem ks38 : Cond.selects RX10 yX10_sizeOf yX10_sizeOf ∈ Tg := mem_Tg (List.mem_append_left _ (List.mem_of_getElem? (i := 38) (by decide +kernel))) (by decide +kernel)
theorem kw1024 : Cond.methodLink RX10 181 yX10_apart ∈ Tg := mem_Tg (List.mem_append_right _ (List.mem_of_getElem? (i := 1024) (by decide +kernel))) (by decide +kernel)
theorem kw1025 : Cond.static yX10_apart ∈ Tg := mem_Tg (List.mem_append_right _ (List.mem_of_getElem? (i := 1025) (by decide +kernel))) (by decide +kernel)
theorem kw996 : Cond.methodLink RX10 185 yX10_weightOf ∈ Tg := mem_Tg (List.mem_append_right _ (List.mem_of_getElem? (i := 996) (by decide +kernel))) (by decide +kernel)
theorem kw998 : Cond.instanceMethod yX10_weightOf ∈ Tg := mem_Tg (List.mem_append_right _ (List.mem_of_getElem? (i := 998) (by decide +kernel))) (by decide +kernel)
theorem ks40 : Cond.selects RX10 yX10_weightOf yX10_weightOf ∈ Tg := mem_Tg (List.mem_append_left _ (List.mem_of_getElem? (i := 40) (by decide +kernel))) (by decide +kernel)
theorem kw972 : Cond.methodLink RX10 188 yX10_isClog ∈ Tg := mem_Tg (List.mem_append_right _ (List.mem_of_getElem? (i := 972) (by decide +kernel))) (by decide +kernel)
theorem kw974 : Cond.instanceMethod yX10_isClog ∈ Tg := mem_Tg (List.mem_append_right _ (List.mem_of_getElem? (i := 974) (by decide +kernel))) (by decide +kernel)
theorem ks34 : Cond.selects RX10 yX10_isClog yX10_isClog ∈ Tg := mem_Tg (List.mem_append_left _ (List.mem_of_getElem? (i := 34) (by decide +kernel))) (by decide +kernel)
theorem kw976 : Cond.methodLink RX10 191 yX10_asItIs ∈ Tg := mem_Tg (List.mem_append_right _ (List.mem_of_getElem? (i := 976) (by decide +kernel))) (by decide +kernel)
theorem kw978 : Cond.instanceMethod yX10_asItIs ∈ Tg := mem_Tg (List.mem_append_right _ (List.mem_of_getElem? (i := 978) (by decide +kernel))) (by decide +kernel)
theorem ks35 : Cond.selects RX10 yX10_asItIs yX10_asItIs ∈ Tg := mem_Tg (List.mem_append_left _ (List.mem_of_getElem? (i := 35) (by decide +kernel))) (by decide +kernel)
theorem kw816 : Cond.fieldLink RX10 20 "LeftAndRightModel" "was" "[I" ∈ Tg := mem_Tg (List.mem_append_right _ (List.mem_of_getElem? (i := 816) (by decide +kernel))) (by decide +kernel)
theorem kw1008 : Cond.methodLink RX10 194 yX10_remembers ∈ Tg := mem_Tg (List.mem_append_right _ (List.mem_of_getElem? (i := 1008) (by decide +kernel))) (by decide +kernel)
theorem kw1010 : Cond.instanceMethod yX10_remembers ∈ Tg := mem_Tg (List.mem_append_right _ (List.mem_of_getElem? (i := 1010) (by decide +kernel))) (by decide +kernel)
theorem ks41 : Cond.selects RX10 yX10_remembers yX10_remembers ∈ Tg := mem_Tg (List.mem_append_left _ (List.mem_of_getElem? (i := 41) (by decide +kernel))) (by decide +kernel)
theorem kw1020 : Cond.methodLink RX10 197 yX10_areAlike ∈ Tg := mem_Tg (List.mem_append_right _ (List.mem_of_getElem? (i := 1020) (by decide +kernel))) (by decide +kernel)
theorem kw1022 : Cond.instanceMethod yX10_areAlike ∈ Tg := mem_Tg (List.mem_append_right _ (List.mem_of_getElem? (i := 1022) (by decide +kernel))) (by decide +kernel)
theorem ks42 : Cond.selects RX10 yX10_areAlike yX10_areAlike ∈ Tg := mem_Tg (List.mem_append_left _ (List.mem_of_getElem? (i := 42) (by decide +kernel))) (by decide +kernel)
theorem kw1027 : Cond.methodLink RX10 201 yX10_leaves ∈ Tg := mem_Tg (List.mem_append_right _ (List.mem_of_getElem? (i := 1027) (by decide +kernel))) (by decide +kernel)
theorem kw1028 : Cond.static yX10_leaves ∈ Tg := mem_Tg (List.mem_append_right _ (List.mem_of_getElem? (i := 1028) (by decide +kernel))) (by decide +kernel)
theorem kw833 : Cond.fieldLink RX10 205 "LeftAndRightModel" "lefts" "I" ∈ Tg := mem_Tg (List.mem_append_right _ (List.mem_of_getElem? (i := 833) (by decide +kernel))) (by decide +kernel)
theorem kw834 : Cond.fieldLink RX10 208 "LeftAndRightModel" "rights" "I" ∈ Tg := mem_Tg (List.mem_append_right _ (List.mem_of_getElem? (i := 834) (by decide +kernel))) (by decide +kernel)
theorem kw836 : Cond.fieldLink RX10 50 "LeftAndRightModel" "right" "[I" ∈ Tg := mem_Tg (List.mem_append_right _ (List.mem_of_getElem? (i := 836) (by decide +kernel))) (by decide +kernel)
theorem kw835 : Cond.fieldLink RX10 47 "LeftAndRightModel" "left" "[I" ∈ Tg := mem_Tg (List.mem_append_right _ (List.mem_of_getElem? (i := 835) (by decide +kernel))) (by decide +kernel)
theorem kw837 : Cond.fieldLink RX10 53 "LeftAndRightModel" "best" "[I" ∈ Tg := mem_Tg (List.mem_append_right _ (List.mem_of_getElem? (i := 837) (by decide +kernel))) (by decide +kernel)
theorem kw1058 : Cond.methodLink RX10 211 yX10_has ∈ Tg := mem_Tg (List.mem_append_right _ (List.mem_of_getElem? (i := 1058) (by decide +kernel))) (by decide +kernel)
theorem kw1059 : Cond.static yX10_has ∈ Tg := mem_Tg (List.mem_append_right _ (List.mem_of_getElem? (i := 1059) (by decide +kernel))) (by decide +kernel)
theorem kw1050 : Cond.methodLink RX10 214 yX10_findSides ∈ Tg := mem_Tg (List.mem_append_right _ (List.mem_of_getElem? (i := 1050) (by decide +kernel))) (by decide +kernel)
theorem kw1052 : Cond.instanceMethod yX10_findSides ∈ Tg := mem_Tg (List.mem_append_right _ (List.mem_of_getElem? (i := 1052) (by decide +kernel))) (by decide +kernel)
theorem ks44 : Cond.selects RX10 yX10_findSides yX10_findSides ∈ Tg := mem_Tg (List.mem_append_left _ (List.mem_of_getElem? (i := 44) (by decide +kernel))) (by decide +kernel)
theorem kw1054 : Cond.methodLink RX10 217 yX10_mayPair ∈ Tg := mem_Tg (List.mem_append_right _ (List.mem_of_getElem? (i := 1054) (by decide +kernel))) (by decide +kernel)
theorem kw1056 : Cond.instanceMethod yX10_mayPair ∈ Tg := mem_Tg (List.mem_append_right _ (List.mem_of_getElem? (i := 1056) (by decide +kernel))) (by decide +kernel)
theorem ks45 : Cond.selects RX10 yX10_mayPair yX10_mayPair ∈ Tg := mem_Tg (List.mem_append_left _ (List.mem_of_getElem? (i := 45) (by decide +kernel))) (by decide +kernel)
theorem kw1061 : Cond.methodLink RX10 220 yX10_bestWith ∈ Tg := mem_Tg (List.mem_append_right _ (List.mem_of_getElem? (i := 1061) (by decide +kernel))) (by decide +kernel)
theorem kw1063 : Cond.instanceMethod yX10_bestWith ∈ Tg := mem_Tg (List.mem_append_right _ (List.mem_of_getElem? (i := 1063) (by decide +kernel))) (by decide +kernel)
theorem ks46 : Cond.selects RX10 yX10_bestWith yX10_bestWith ∈ Tg := mem_Tg (List.mem_append_left _ (List.mem_of_getElem? (i := 46) (by decide +kernel))) (by decide +kernel)
theorem kw838 : Cond.fieldLink RX10 56 "LeftAndRightModel" "with" "[I" ∈ Tg := mem_Tg (List.mem_append_right _ (List.mem_of_getElem? (i := 838) (by decide +kernel))) (by decide +kernel)
theorem kw1046 : Cond.methodLink RX10 224 yX10_findPairs ∈ Tg := mem_Tg (List.mem_append_right _ (List.mem_of_getElem? (i := 1046) (by decide +kernel))) (by decide +kernel)
theorem kw1048 : Cond.instanceMethod yX10_findPairs ∈ Tg := mem_Tg (List.mem_append_right _ (List.mem_of_getElem? (i := 1048) (by decide +kernel))) (by decide +kernel)
theorem ks43 : Cond.selects RX10 yX10_findPairs yX10_findPairs ∈ Tg := mem_Tg (List.mem_append_left _ (List.mem_of_getElem? (i := 43) (by decide +kernel))) (by decide +kernel)
theorem kw1077 : Cond.methodLink RX10 230 yX10_fits ∈ Tg := mem_Tg (List.mem_append_right _ (List.mem_of_getElem? (i := 1077) (by decide +kernel))) (by decide +kernel)
theorem kw1079 : Cond.instanceMethod yX10_fits ∈ Tg := mem_Tg (List.mem_append_right _ (List.mem_of_getElem? (i := 1079) (by decide +kernel))) (by decide +kernel)
theorem ks48 : Cond.selects RX10 yX10_fits yX10_fits ∈ Tg := mem_Tg (List.mem_append_left _ (List.mem_of_getElem? (i := 48) (by decide +kernel))) (by decide +kernel)
theorem kw839 : Cond.fieldLink RX10 59 "LeftAndRightModel" "serves" "[I" ∈ Tg := mem_Tg (List.mem_append_right _ (List.mem_of_getElem? (i := 839) (by decide +kernel))) (by decide +kernel)
theorem kw1073 : Cond.methodLink RX10 227 yX10_serveMore ∈ Tg := mem_Tg (List.mem_append_right _ (List.mem_of_getElem? (i := 1073) (by decide +kernel))) (by decide +kernel)
theorem kw1075 : Cond.instanceMethod yX10_serveMore ∈ Tg := mem_Tg (List.mem_append_right _ (List.mem_of_getElem? (i := 1075) (by decide +kernel))) (by decide +kernel)
theorem ks47 : Cond.selects RX10 yX10_serveMore yX10_serveMore ∈ Tg := mem_Tg (List.mem_append_left _ (List.mem_of_getElem? (i := 47) (by decide +kernel))) (by decide +kernel)
theorem kw1097 : Cond.methodLink RX10 233 yX10_isClear ∈ Tg := mem_Tg (List.mem_append_right _ (List.mem_of_getElem? (i := 1097) (by decide +kernel))) (by decide +kernel)
theorem kw1099 : Cond.instanceMethod yX10_isClear ∈ Tg := mem_Tg (List.mem_append_right _ (List.mem_of_getElem? (i := 1099) (by decide +kernel))) (by decide +kernel)
theorem ks49 : Cond.selects RX10 yX10_isClear yX10_isClear ∈ Tg := mem_Tg (List.mem_append_left _ (List.mem_of_getElem? (i := 49) (by decide +kernel))) (by decide +kernel)
theorem kw820 : Cond.fieldLink RX10 26 "LeftAndRightModel" "heard" "[I" ∈ Tg := mem_Tg (List.mem_append_right _ (List.mem_of_getElem? (i := 820) (by decide +kernel))) (by decide +kernel)
theorem kw1136 : Cond.methodLink RX10 249 yX10_firstGo ∈ Tg := mem_Tg (List.mem_append_right _ (List.mem_of_getElem? (i := 1136) (by decide +kernel))) (by decide +kernel)
theorem kw1138 : Cond.instanceMethod yX10_firstGo ∈ Tg := mem_Tg (List.mem_append_right _ (List.mem_of_getElem? (i := 1138) (by decide +kernel))) (by decide +kernel)
theorem ks50 : Cond.selects RX10 yX10_firstGo yX10_firstGo ∈ Tg := mem_Tg (List.mem_append_left _ (List.mem_of_getElem? (i := 50) (by decide +kernel))) (by decide +kernel)
theorem kw818 : Cond.fieldLink RX10 23 "LeftAndRightModel" "kept" "[I" ∈ Tg := mem_Tg (List.mem_append_right _ (List.mem_of_getElem? (i := 818) (by decide +kernel))) (by decide +kernel)
theorem kw1152 : Cond.methodLink RX10 252 yX10_knots ∈ Tg := mem_Tg (List.mem_append_right _ (List.mem_of_getElem? (i := 1152) (by decide +kernel))) (by decide +kernel)
theorem kw1154 : Cond.instanceMethod yX10_knots ∈ Tg := mem_Tg (List.mem_append_right _ (List.mem_of_getElem? (i := 1154) (by decide +kernel))) (by decide +kernel)
theorem ks51 : Cond.selects RX10 yX10_knots yX10_knots ∈ Tg := mem_Tg (List.mem_append_left _ (List.mem_of_getElem? (i := 51) (by decide +kernel))) (by decide +kernel)
theorem kw1156 : Cond.methodLink RX10 255 yX10_holed ∈ Tg := mem_Tg (List.mem_append_right _ (List.mem_of_getElem? (i := 1156) (by decide +kernel))) (by decide +kernel)
theorem kw1158 : Cond.instanceMethod yX10_holed ∈ Tg := mem_Tg (List.mem_append_right _ (List.mem_of_getElem? (i := 1158) (by decide +kernel))) (by decide +kernel)
theorem ks52 : Cond.selects RX10 yX10_holed yX10_holed ∈ Tg := mem_Tg (List.mem_append_left _ (List.mem_of_getElem? (i := 52) (by decide +kernel))) (by decide +kernel)
theorem in9 : ∀ w ∈ u_ws RX9 TX9 10, w ∈ Tg := by decide +kernel
theorem kw399 : Cond.fieldLink RX9 10 "LeftAndRight" "text" "LLeftAndRight$Text;" ∈ Tg := mem_Tg (List.mem_append_right _ (List.mem_of_getElem? (i := 399) (by decide +kernel))) (by decide +kernel)
theorem kw37 : Cond.fieldLink RX9 103 "LeftAndRight$Text" "length" "I" ∈ Tg := mem_Tg (List.mem_append_right _ (List.mem_of_getElem? (i := 37) (by decide +kernel))) (by decide +kernel)
theorem kw282 : Cond.methodLink RX9 89 yX5_append ∈ Tg := mem_Tg (List.mem_append_right _ (List.mem_of_getElem? (i := 282) (by decide +kernel))) (by decide +kernel)
theorem kw283 : Cond.instanceMethod yX5_append ∈ Tg := mem_Tg (List.mem_append_right _ (List.mem_of_getElem? (i := 283) (by decide +kernel))) (by decide +kernel)
theorem kw284 : Cond.selects RX5 yX5_append yX5_append ∈ Tg := mem_Tg (List.mem_append_right _ (List.mem_of_getElem? (i := 284) (by decide +kernel))) (by decide +kernel)
theorem kw395 : Cond.methodLink RX9 96 yX5_clear ∈ Tg := mem_Tg (List.mem_append_right _ (List.mem_of_getElem? (i := 395) (by decide +kernel))) (by decide +kernel)
theorem kw396 : Cond.instanceMethod yX5_clear ∈ Tg := mem_Tg (List.mem_append_right _ (List.mem_of_getElem? (i := 396) (by decide +kernel))) (by decide +kernel)
theorem kw397 : Cond.selects RX5 yX5_clear yX5_clear ∈ Tg := mem_Tg (List.mem_append_right _ (List.mem_of_getElem? (i := 397) (by decide +kernel))) (by decide +kernel)
theorem kw400 : Cond.fieldLink RX9 19 "LeftAndRight" "reader" "LLeftAndRight$Reader;" ∈ Tg := mem_Tg (List.mem_append_right _ (List.mem_of_getElem? (i := 400) (by decide +kernel))) (by decide +kernel)
theorem kw290 : Cond.methodLink RX9 106 yX3_read ∈ Tg := mem_Tg (List.mem_append_right _ (List.mem_of_getElem? (i := 290) (by decide +kernel))) (by decide +kernel)
theorem kw291 : Cond.instanceMethod yX3_read ∈ Tg := mem_Tg (List.mem_append_right _ (List.mem_of_getElem? (i := 291) (by decide +kernel))) (by decide +kernel)
theorem kw292 : Cond.selects RX3 yX3_read yX3_read ∈ Tg := mem_Tg (List.mem_append_right _ (List.mem_of_getElem? (i := 292) (by decide +kernel))) (by decide +kernel)
theorem kw401 : Cond.fieldLink RX9 26 "LeftAndRight" "shelf" "LLeftAndRight$Shelf;" ∈ Tg := mem_Tg (List.mem_append_right _ (List.mem_of_getElem? (i := 401) (by decide +kernel))) (by decide +kernel)
theorem kw451 : Cond.methodLink RX9 113 yX4_holds ∈ Tg := mem_Tg (List.mem_append_right _ (List.mem_of_getElem? (i := 451) (by decide +kernel))) (by decide +kernel)
theorem kw474 : Cond.methodLink RX9 127 yX4_cell ∈ Tg := mem_Tg (List.mem_append_right _ (List.mem_of_getElem? (i := 474) (by decide +kernel))) (by decide +kernel)
theorem kw66 : Cond.fieldLink RX9 117 "LeftAndRight$Shelf" "day" "I" ∈ Tg := mem_Tg (List.mem_append_right _ (List.mem_of_getElem? (i := 66) (by decide +kernel))) (by decide +kernel)
theorem kw470 : Cond.methodLink RX9 124 yX4_weightOn ∈ Tg := mem_Tg (List.mem_append_right _ (List.mem_of_getElem? (i := 470) (by decide +kernel))) (by decide +kernel)
theorem kw456 : Cond.methodLink RX9 120 yX4_sizeOn ∈ Tg := mem_Tg (List.mem_append_right _ (List.mem_of_getElem? (i := 456) (by decide +kernel))) (by decide +kernel)
theorem kw402 : Cond.fieldLink RX9 33 "LeftAndRight" "waiting" "LLeftAndRight$Waiting;" ∈ Tg := mem_Tg (List.mem_append_right _ (List.mem_of_getElem? (i := 402) (by decide +kernel))) (by decide +kernel)
theorem kw85 : Cond.fieldLink RX9 130 "LeftAndRight$Waiting" "number" "I" ∈ Tg := mem_Tg (List.mem_append_right _ (List.mem_of_getElem? (i := 85) (by decide +kernel))) (by decide +kernel)
theorem kw479 : Cond.methodLink RX9 136 yX6_foot ∈ Tg := mem_Tg (List.mem_append_right _ (List.mem_of_getElem? (i := 479) (by decide +kernel))) (by decide +kernel)
theorem kw554 : Cond.methodLink RX9 168 yX4_matesOf ∈ Tg := mem_Tg (List.mem_append_right _ (List.mem_of_getElem? (i := 554) (by decide +kernel))) (by decide +kernel)
theorem kw61 : Cond.fieldLink RX9 110 "LeftAndRight$Shelf" "clogs" "I" ∈ Tg := mem_Tg (List.mem_append_right _ (List.mem_of_getElem? (i := 61) (by decide +kernel))) (by decide +kernel)
theorem kw407 : Cond.fieldLink RX9 66 "LeftAndRight" "pairing" "LLeftAndRight$Pairing;" ∈ Tg := mem_Tg (List.mem_append_right _ (List.mem_of_getElem? (i := 407) (by decide +kernel))) (by decide +kernel)
theorem kw563 : Cond.methodLink RX9 172 yX1_look ∈ Tg := mem_Tg (List.mem_append_right _ (List.mem_of_getElem? (i := 563) (by decide +kernel))) (by decide +kernel)
theorem kw564 : Cond.instanceMethod yX1_look ∈ Tg := mem_Tg (List.mem_append_right _ (List.mem_of_getElem? (i := 564) (by decide +kernel))) (by decide +kernel)
theorem kw565 : Cond.selects RX1 yX1_look yX1_look ∈ Tg := mem_Tg (List.mem_append_right _ (List.mem_of_getElem? (i := 565) (by decide +kernel))) (by decide +kernel)
theorem kw576 : Cond.methodLink RX9 175 yX1_match ∈ Tg := mem_Tg (List.mem_append_right _ (List.mem_of_getElem? (i := 576) (by decide +kernel))) (by decide +kernel)
theorem kw577 : Cond.instanceMethod yX1_match ∈ Tg := mem_Tg (List.mem_append_right _ (List.mem_of_getElem? (i := 577) (by decide +kernel))) (by decide +kernel)
theorem kw578 : Cond.selects RX1 yX1_match yX1_match ∈ Tg := mem_Tg (List.mem_append_right _ (List.mem_of_getElem? (i := 578) (by decide +kernel))) (by decide +kernel)
theorem kw608 : Cond.methodLink RX9 182 yX1_partnerOf ∈ Tg := mem_Tg (List.mem_append_right _ (List.mem_of_getElem? (i := 608) (by decide +kernel))) (by decide +kernel)
theorem kw609 : Cond.instanceMethod yX1_partnerOf ∈ Tg := mem_Tg (List.mem_append_right _ (List.mem_of_getElem? (i := 609) (by decide +kernel))) (by decide +kernel)
theorem kw610 : Cond.selects RX1 yX1_partnerOf yX1_partnerOf ∈ Tg := mem_Tg (List.mem_append_right _ (List.mem_of_getElem? (i := 610) (by decide +kernel))) (by decide +kernel)
theorem kw198 : Cond.fieldLink RX9 179 "LeftAndRight$Pairing" "apart" "I" ∈ Tg := mem_Tg (List.mem_append_right _ (List.mem_of_getElem? (i := 198) (by decide +kernel))) (by decide +kernel)
theorem kw196 : Cond.fieldLink RX9 178 "LeftAndRight$Pairing" "number" "I" ∈ Tg := mem_Tg (List.mem_append_right _ (List.mem_of_getElem? (i := 196) (by decide +kernel))) (by decide +kernel)
theorem kw616 : Cond.methodLink RX9 185 yX4_ofSide ∈ Tg := mem_Tg (List.mem_append_right _ (List.mem_of_getElem? (i := 616) (by decide +kernel))) (by decide +kernel)
theorem kw617 : Cond.methodLink RX9 188 yJ6_bitCount_0f7a4 ∈ Tg := mem_Tg (List.mem_append_right _ (List.mem_of_getElem? (i := 617) (by decide +kernel))) (by decide +kernel)
theorem kw627 : Cond.methodLink RX9 193 yX1_serve ∈ Tg := mem_Tg (List.mem_append_right _ (List.mem_of_getElem? (i := 627) (by decide +kernel))) (by decide +kernel)
theorem kw628 : Cond.instanceMethod yX1_serve ∈ Tg := mem_Tg (List.mem_append_right _ (List.mem_of_getElem? (i := 628) (by decide +kernel))) (by decide +kernel)
theorem kw629 : Cond.selects RX1 yX1_serve yX1_serve ∈ Tg := mem_Tg (List.mem_append_right _ (List.mem_of_getElem? (i := 629) (by decide +kernel))) (by decide +kernel)
theorem kw650 : Cond.methodLink RX9 197 yX6_suits ∈ Tg := mem_Tg (List.mem_append_right _ (List.mem_of_getElem? (i := 650) (by decide +kernel))) (by decide +kernel)
theorem kw655 : Cond.methodLink RX9 200 yX4_isOfSide ∈ Tg := mem_Tg (List.mem_append_right _ (List.mem_of_getElem? (i := 655) (by decide +kernel))) (by decide +kernel)
theorem kw511 : Cond.methodLink RX9 151 yX4_areAlikeOn ∈ Tg := mem_Tg (List.mem_append_right _ (List.mem_of_getElem? (i := 511) (by decide +kernel))) (by decide +kernel)
theorem kw403 : Cond.fieldLink RX9 40 "LeftAndRight" "log" "LLeftAndRight$Log;" ∈ Tg := mem_Tg (List.mem_append_right _ (List.mem_of_getElem? (i := 403) (by decide +kernel))) (by decide +kernel)
theorem kw664 : Cond.methodLink RX9 204 yX0_saw ∈ Tg := mem_Tg (List.mem_append_right _ (List.mem_of_getElem? (i := 664) (by decide +kernel))) (by decide +kernel)
theorem kw665 : Cond.instanceMethod yX0_saw ∈ Tg := mem_Tg (List.mem_append_right _ (List.mem_of_getElem? (i := 665) (by decide +kernel))) (by decide +kernel)
theorem kw666 : Cond.selects RX0 yX0_saw yX0_saw ∈ Tg := mem_Tg (List.mem_append_right _ (List.mem_of_getElem? (i := 666) (by decide +kernel))) (by decide +kernel)
theorem kw676 : Cond.methodLink RX9 207 yX4_unholedFrom ∈ Tg := mem_Tg (List.mem_append_right _ (List.mem_of_getElem? (i := 676) (by decide +kernel))) (by decide +kernel)
theorem kw677 : Cond.instanceMethod yX4_unholedFrom ∈ Tg := mem_Tg (List.mem_append_right _ (List.mem_of_getElem? (i := 677) (by decide +kernel))) (by decide +kernel)
theorem kw678 : Cond.selects RX4 yX4_unholedFrom yX4_unholedFrom ∈ Tg := mem_Tg (List.mem_append_right _ (List.mem_of_getElem? (i := 678) (by decide +kernel))) (by decide +kernel)
theorem kw404 : Cond.fieldLink RX9 47 "LeftAndRight" "walls" "LLeftAndRight$Walls;" ∈ Tg := mem_Tg (List.mem_append_right _ (List.mem_of_getElem? (i := 404) (by decide +kernel))) (by decide +kernel)
theorem kw153 : Cond.fieldLink RX9 210 "LeftAndRight$Walls" "sounds" "I" ∈ Tg := mem_Tg (List.mem_append_right _ (List.mem_of_getElem? (i := 153) (by decide +kernel))) (by decide +kernel)
theorem kw684 : Cond.methodLink RX9 213 yX7_add ∈ Tg := mem_Tg (List.mem_append_right _ (List.mem_of_getElem? (i := 684) (by decide +kernel))) (by decide +kernel)
theorem kw685 : Cond.instanceMethod yX7_add ∈ Tg := mem_Tg (List.mem_append_right _ (List.mem_of_getElem? (i := 685) (by decide +kernel))) (by decide +kernel)
theorem kw686 : Cond.selects RX7 yX7_add yX7_add ∈ Tg := mem_Tg (List.mem_append_right _ (List.mem_of_getElem? (i := 686) (by decide +kernel))) (by decide +kernel)
theorem kw697 : Cond.methodLink RX9 216 yX7_thicknesses ∈ Tg := mem_Tg (List.mem_append_right _ (List.mem_of_getElem? (i := 697) (by decide +kernel))) (by decide +kernel)
theorem kw698 : Cond.instanceMethod yX7_thicknesses ∈ Tg := mem_Tg (List.mem_append_right _ (List.mem_of_getElem? (i := 698) (by decide +kernel))) (by decide +kernel)
theorem kw699 : Cond.selects RX7 yX7_thicknesses yX7_thicknesses ∈ Tg := mem_Tg (List.mem_append_right _ (List.mem_of_getElem? (i := 699) (by decide +kernel))) (by decide +kernel)
theorem kw710 : Cond.methodLink RX9 219 yX9_commonDivisorWithTen ∈ Tg := mem_Tg (List.mem_append_right _ (List.mem_of_getElem? (i := 710) (by decide +kernel))) (by decide +kernel)
theorem kw711 : Cond.static yX9_commonDivisorWithTen ∈ Tg := mem_Tg (List.mem_append_right _ (List.mem_of_getElem? (i := 711) (by decide +kernel))) (by decide +kernel)
theorem kw713 : Cond.methodLink RX9 222 Lib.Math.max.name ∈ Tg := mem_Tg (List.mem_append_right _ (List.mem_of_getElem? (i := 713) (by decide +kernel))) (by decide +kernel)
theorem kw714 : Cond.methodLink RX9 227 yX9_power ∈ Tg := mem_Tg (List.mem_append_right _ (List.mem_of_getElem? (i := 714) (by decide +kernel))) (by decide +kernel)
theorem kw715 : Cond.static yX9_power ∈ Tg := mem_Tg (List.mem_append_right _ (List.mem_of_getElem? (i := 715) (by decide +kernel))) (by decide +kernel)
theorem kw722 : Cond.methodLink RX9 232 yX9_cutsInTheMean ∈ Tg := mem_Tg (List.mem_append_right _ (List.mem_of_getElem? (i := 722) (by decide +kernel))) (by decide +kernel)
theorem kw723 : Cond.static yX9_cutsInTheMean ∈ Tg := mem_Tg (List.mem_append_right _ (List.mem_of_getElem? (i := 723) (by decide +kernel))) (by decide +kernel)
theorem kw726 : Cond.methodLink RX9 236 Lib.MathLoose.max_long.x ∈ Tg := mem_Tg (List.mem_append_right _ (List.mem_of_getElem? (i := 726) (by decide +kernel))) (by decide +kernel)
theorem kw727 : Cond.static Lib.MathLoose.max_long.x ∈ Tg := mem_Tg (List.mem_append_right _ (List.mem_of_getElem? (i := 727) (by decide +kernel))) (by decide +kernel)
theorem kw728 : Cond.code Lib.MathLoose.max_long.x Lib.MathLoose.max_long.code 4 (some .long) ∈ Tg := mem_Tg (List.mem_append_right _ (List.mem_of_getElem? (i := 728) (by decide +kernel))) (by decide +kernel)
theorem kw408 : Cond.fieldLink RX9 73 "LeftAndRight" "draws" "LLeftAndRight$Year;" ∈ Tg := mem_Tg (List.mem_append_right _ (List.mem_of_getElem? (i := 408) (by decide +kernel))) (by decide +kernel)
theorem kw734 : Cond.methodLink RX9 241 yX8_live ∈ Tg := mem_Tg (List.mem_append_right _ (List.mem_of_getElem? (i := 734) (by decide +kernel))) (by decide +kernel)
theorem kw735 : Cond.instanceMethod yX8_live ∈ Tg := mem_Tg (List.mem_append_right _ (List.mem_of_getElem? (i := 735) (by decide +kernel))) (by decide +kernel)
theorem kw736 : Cond.selects RX8 yX8_live yX8_live ∈ Tg := mem_Tg (List.mem_append_right _ (List.mem_of_getElem? (i := 736) (by decide +kernel))) (by decide +kernel)
theorem kw225 : Cond.fieldLink RX9 248 "LeftAndRight$Year" "shelf" "LLeftAndRight$Shelf;" ∈ Tg := mem_Tg (List.mem_append_right _ (List.mem_of_getElem? (i := 225) (by decide +kernel))) (by decide +kernel)
theorem kw227 : Cond.fieldLink RX9 245 "LeftAndRight$Year" "wentAsPairs" "I" ∈ Tg := mem_Tg (List.mem_append_right _ (List.mem_of_getElem? (i := 227) (by decide +kernel))) (by decide +kernel)
theorem kw766 : Cond.methodLink RX9 253 yX0_knotsInside ∈ Tg := mem_Tg (List.mem_append_right _ (List.mem_of_getElem? (i := 766) (by decide +kernel))) (by decide +kernel)
theorem kw767 : Cond.instanceMethod yX0_knotsInside ∈ Tg := mem_Tg (List.mem_append_right _ (List.mem_of_getElem? (i := 767) (by decide +kernel))) (by decide +kernel)
theorem kw768 : Cond.selects RX0 yX0_knotsInside yX0_knotsInside ∈ Tg := mem_Tg (List.mem_append_right _ (List.mem_of_getElem? (i := 768) (by decide +kernel))) (by decide +kernel)
theorem kw776 : Cond.methodLink RX9 256 yX4_holedOnes ∈ Tg := mem_Tg (List.mem_append_right _ (List.mem_of_getElem? (i := 776) (by decide +kernel))) (by decide +kernel)
theorem kw777 : Cond.instanceMethod yX4_holedOnes ∈ Tg := mem_Tg (List.mem_append_right _ (List.mem_of_getElem? (i := 777) (by decide +kernel))) (by decide +kernel)
theorem kw778 : Cond.selects RX4 yX4_holedOnes yX4_holedOnes ∈ Tg := mem_Tg (List.mem_append_right _ (List.mem_of_getElem? (i := 778) (by decide +kernel))) (by decide +kernel)
theorem kw405 : Cond.fieldLink RX9 56 "LeftAndRight" "acts" "LLeftAndRight$Pile;" ∈ Tg := mem_Tg (List.mem_append_right _ (List.mem_of_getElem? (i := 405) (by decide +kernel))) (by decide +kernel)
theorem kw177 : Cond.fieldLink RX9 165 "LeftAndRight$Pile" "height" "I" ∈ Tg := mem_Tg (List.mem_append_right _ (List.mem_of_getElem? (i := 177) (by decide +kernel))) (by decide +kernel)
theorem kw406 : Cond.fieldLink RX9 60 "LeftAndRight" "kept" "LLeftAndRight$Pile;" ∈ Tg := mem_Tg (List.mem_append_right _ (List.mem_of_getElem? (i := 406) (by decide +kernel))) (by decide +kernel)
theorem kw89 : Cond.fieldLink RX9 259 "LeftAndRight$Waiting" "stocking" "I" ∈ Tg := mem_Tg (List.mem_append_right _ (List.mem_of_getElem? (i := 89) (by decide +kernel))) (by decide +kernel)
theorem kw488 : Cond.methodLink RX9 139 yX2_push ∈ Tg := mem_Tg (List.mem_append_right _ (List.mem_of_getElem? (i := 488) (by decide +kernel))) (by decide +kernel)
theorem kw489 : Cond.instanceMethod yX2_push ∈ Tg := mem_Tg (List.mem_append_right _ (List.mem_of_getElem? (i := 489) (by decide +kernel))) (by decide +kernel)
theorem kw490 : Cond.selects RX2 yX2_push yX2_push ∈ Tg := mem_Tg (List.mem_append_right _ (List.mem_of_getElem? (i := 490) (by decide +kernel))) (by decide +kernel)
theorem kw505 : Cond.methodLink RX9 143 yX9_isClog ∈ Tg := mem_Tg (List.mem_append_right _ (List.mem_of_getElem? (i := 505) (by decide +kernel))) (by decide +kernel)
theorem kw506 : Cond.methodLink RX9 147 yX4_add ∈ Tg := mem_Tg (List.mem_append_right _ (List.mem_of_getElem? (i := 506) (by decide +kernel))) (by decide +kernel)
theorem kw525 : Cond.methodLink RX9 154 yX4_removeTwo ∈ Tg := mem_Tg (List.mem_append_right _ (List.mem_of_getElem? (i := 525) (by decide +kernel))) (by decide +kernel)
theorem kw538 : Cond.methodLink RX9 158 yX4_pierce ∈ Tg := mem_Tg (List.mem_append_right _ (List.mem_of_getElem? (i := 538) (by decide +kernel))) (by decide +kernel)
theorem kw539 : Cond.instanceMethod yX4_pierce ∈ Tg := mem_Tg (List.mem_append_right _ (List.mem_of_getElem? (i := 539) (by decide +kernel))) (by decide +kernel)
theorem kw540 : Cond.selects RX4 yX4_pierce yX4_pierce ∈ Tg := mem_Tg (List.mem_append_right _ (List.mem_of_getElem? (i := 540) (by decide +kernel))) (by decide +kernel)
theorem kw546 : Cond.methodLink RX9 161 yX2_popInto ∈ Tg := mem_Tg (List.mem_append_right _ (List.mem_of_getElem? (i := 546) (by decide +kernel))) (by decide +kernel)
theorem kw547 : Cond.instanceMethod yX2_popInto ∈ Tg := mem_Tg (List.mem_append_right _ (List.mem_of_getElem? (i := 547) (by decide +kernel))) (by decide +kernel)
theorem kw548 : Cond.selects RX2 yX2_popInto yX2_popInto ∈ Tg := mem_Tg (List.mem_append_right _ (List.mem_of_getElem? (i := 548) (by decide +kernel))) (by decide +kernel)
theorem kw757 : Cond.methodLink RX9 249 yX2_isFull ∈ Tg := mem_Tg (List.mem_append_right _ (List.mem_of_getElem? (i := 757) (by decide +kernel))) (by decide +kernel)
theorem kw391 : Cond.methodLink RX9 252 yX2_clear ∈ Tg := mem_Tg (List.mem_append_right _ (List.mem_of_getElem? (i := 391) (by decide +kernel))) (by decide +kernel)
theorem kw392 : Cond.instanceMethod yX2_clear ∈ Tg := mem_Tg (List.mem_append_right _ (List.mem_of_getElem? (i := 392) (by decide +kernel))) (by decide +kernel)
theorem kw393 : Cond.selects RX2 yX2_clear yX2_clear ∈ Tg := mem_Tg (List.mem_append_right _ (List.mem_of_getElem? (i := 393) (by decide +kernel))) (by decide +kernel)
theorem kw119 : Cond.fieldLink RX9 262 "LeftAndRight$Reader" "shelf" "LLeftAndRight$Shelf;" ∈ Tg := mem_Tg (List.mem_append_right _ (List.mem_of_getElem? (i := 119) (by decide +kernel))) (by decide +kernel)
theorem kw369 : Cond.methodLink RX9 263 yX4_copy ∈ Tg := mem_Tg (List.mem_append_right _ (List.mem_of_getElem? (i := 369) (by decide +kernel))) (by decide +kernel)
theorem kw121 : Cond.fieldLink RX9 266 "LeftAndRight$Reader" "waiting" "LLeftAndRight$Waiting;" ∈ Tg := mem_Tg (List.mem_append_right _ (List.mem_of_getElem? (i := 121) (by decide +kernel))) (by decide +kernel)
theorem kw382 : Cond.methodLink RX9 267 yX6_copy ∈ Tg := mem_Tg (List.mem_append_right _ (List.mem_of_getElem? (i := 382) (by decide +kernel))) (by decide +kernel)
theorem kw383 : Cond.instanceMethod yX6_copy ∈ Tg := mem_Tg (List.mem_append_right _ (List.mem_of_getElem? (i := 383) (by decide +kernel))) (by decide +kernel)
theorem kw384 : Cond.selects RX6 yX6_copy yX6_copy ∈ Tg := mem_Tg (List.mem_append_right _ (List.mem_of_getElem? (i := 384) (by decide +kernel))) (by decide +kernel)
theorem kw123 : Cond.fieldLink RX9 270 "LeftAndRight$Reader" "log" "LLeftAndRight$Log;" ∈ Tg := mem_Tg (List.mem_append_right _ (List.mem_of_getElem? (i := 123) (by decide +kernel))) (by decide +kernel)
theorem kw387 : Cond.methodLink RX9 271 yX0_copy ∈ Tg := mem_Tg (List.mem_append_right _ (List.mem_of_getElem? (i := 387) (by decide +kernel))) (by decide +kernel)
theorem kw388 : Cond.instanceMethod yX0_copy ∈ Tg := mem_Tg (List.mem_append_right _ (List.mem_of_getElem? (i := 388) (by decide +kernel))) (by decide +kernel)
theorem kw389 : Cond.selects RX0 yX0_copy yX0_copy ∈ Tg := mem_Tg (List.mem_append_right _ (List.mem_of_getElem? (i := 389) (by decide +kernel))) (by decide +kernel)
theorem kw286 : Cond.methodLink RX9 92 yX9_layText ∈ Tg := mem_Tg (List.mem_append_right _ (List.mem_of_getElem? (i := 286) (by decide +kernel))) (by decide +kernel)
theorem kw288 : Cond.instanceMethod yX9_layText ∈ Tg := mem_Tg (List.mem_append_right _ (List.mem_of_getElem? (i := 288) (by decide +kernel))) (by decide +kernel)
theorem ks0 : Cond.selects RX9 yX9_layText yX9_layText ∈ Tg := mem_Tg (List.mem_append_left _ (List.mem_of_getElem? (i := 0) (by decide +kernel))) (by decide +kernel)
theorem kw222 : Cond.classLink RX8 9 RX4 ∈ Tg := mem_Tg (List.mem_append_right _ (List.mem_of_getElem? (i := 222) (by decide +kernel))) (by decide +kernel)
theorem kw52 : Cond.instantiable RX4 3 ∈ Tg := mem_Tg (List.mem_append_right _ (List.mem_of_getElem? (i := 52) (by decide +kernel))) (by decide +kernel)
theorem kn12 : (RX8, 11, yX4_init, "LeftAndRight") ∈ NSt := List.mem_of_getElem? (i := 12) rfl
theorem kw54 : Cond.instanceMethod yX4_init ∈ Tg := mem_Tg (List.mem_append_right _ (List.mem_of_getElem? (i := 54) (by decide +kernel))) (by decide +kernel)
theorem kw169 : Cond.methodLink RX2 7 Lib.Math.max.name ∈ Tg := mem_Tg (List.mem_append_right _ (List.mem_of_getElem? (i := 169) (by decide +kernel))) (by decide +kernel)
theorem kw172 : Cond.classLink RX2 13 RX4 ∈ Tg := mem_Tg (List.mem_append_right _ (List.mem_of_getElem? (i := 172) (by decide +kernel))) (by decide +kernel)
theorem kn9 : (RX2, 21, yX4_init, "LeftAndRight") ∈ NSt := List.mem_of_getElem? (i := 9) rfl
theorem kw51 : Cond.classLink RX3 9 RX4 ∈ Tg := mem_Tg (List.mem_append_right _ (List.mem_of_getElem? (i := 51) (by decide +kernel))) (by decide +kernel)
theorem kn2 : (RX3, 11, yX4_init, "LeftAndRight") ∈ NSt := List.mem_of_getElem? (i := 2) rfl
theorem kw75 : Cond.classLink RX3 18 RX6 ∈ Tg := mem_Tg (List.mem_append_right _ (List.mem_of_getElem? (i := 75) (by decide +kernel))) (by decide +kernel)
theorem kw76 : Cond.instantiable RX6 4 ∈ Tg := mem_Tg (List.mem_append_right _ (List.mem_of_getElem? (i := 76) (by decide +kernel))) (by decide +kernel)
theorem kn3 : (RX3, 20, yX6_init, "LeftAndRight") ∈ NSt := List.mem_of_getElem? (i := 3) rfl
theorem kw78 : Cond.instanceMethod yX6_init ∈ Tg := mem_Tg (List.mem_append_right _ (List.mem_of_getElem? (i := 78) (by decide +kernel))) (by decide +kernel)
theorem kw99 : Cond.classLink RX3 25 RX0 ∈ Tg := mem_Tg (List.mem_append_right _ (List.mem_of_getElem? (i := 99) (by decide +kernel))) (by decide +kernel)
theorem kw100 : Cond.instantiable RX0 3 ∈ Tg := mem_Tg (List.mem_append_right _ (List.mem_of_getElem? (i := 100) (by decide +kernel))) (by decide +kernel)
theorem kn4 : (RX3, 27, yX0_init, "LeftAndRight") ∈ NSt := List.mem_of_getElem? (i := 4) rfl
theorem kw102 : Cond.instanceMethod yX0_init ∈ Tg := mem_Tg (List.mem_append_right _ (List.mem_of_getElem? (i := 102) (by decide +kernel))) (by decide +kernel)
theorem kw260 : Cond.methodLink RJ0 1059 yJ3_checkIndex_8e157 ∈ Tg := mem_Tg (List.mem_append_right _ (List.mem_of_getElem? (i := 260) (by decide +kernel))) (by decide +kernel)
theorem kw261 : Cond.static yJ3_checkIndex_8e157 ∈ Tg := mem_Tg (List.mem_append_right _ (List.mem_of_getElem? (i := 261) (by decide +kernel))) (by decide +kernel)
theorem kw14 : Cond.initialized RJ3 ∈ Tg := mem_Tg (List.mem_append_right _ (List.mem_of_getElem? (i := 14) (by decide +kernel))) (by decide +kernel)
theorem kw255 : Cond.methodLink RJ1 9 yJ0_checkIndex_df160 ∈ Tg := mem_Tg (List.mem_append_right _ (List.mem_of_getElem? (i := 255) (by decide +kernel))) (by decide +kernel)
theorem kw256 : Cond.static yJ0_checkIndex_df160 ∈ Tg := mem_Tg (List.mem_append_right _ (List.mem_of_getElem? (i := 256) (by decide +kernel))) (by decide +kernel)
theorem kw12 : Cond.initialized RJ0 ∈ Tg := mem_Tg (List.mem_append_right _ (List.mem_of_getElem? (i := 12) (by decide +kernel))) (by decide +kernel)
theorem kw238 : Cond.methodLink RJ0 335 yJ0_coder_7d493 ∈ Tg := mem_Tg (List.mem_append_right _ (List.mem_of_getElem? (i := 238) (by decide +kernel))) (by decide +kernel)
theorem kw239 : Cond.instanceMethod yJ0_coder_7d493 ∈ Tg := mem_Tg (List.mem_append_right _ (List.mem_of_getElem? (i := 239) (by decide +kernel))) (by decide +kernel)
theorem kw240 : Cond.selects RJ0 yJ0_coder_7d493 yJ0_coder_7d493 ∈ Tg := mem_Tg (List.mem_append_right _ (List.mem_of_getElem? (i := 240) (by decide +kernel))) (by decide +kernel)
theorem kw248 : Cond.methodLink RJ0 492 yJ0_isLatin1_aae02 ∈ Tg := mem_Tg (List.mem_append_right _ (List.mem_of_getElem? (i := 248) (by decide +kernel))) (by decide +kernel)
theorem kw249 : Cond.instanceMethod yJ0_isLatin1_aae02 ∈ Tg := mem_Tg (List.mem_append_right _ (List.mem_of_getElem? (i := 249) (by decide +kernel))) (by decide +kernel)
theorem kw250 : Cond.selects RJ0 yJ0_isLatin1_aae02 yJ0_isLatin1_aae02 ∈ Tg := mem_Tg (List.mem_append_right _ (List.mem_of_getElem? (i := 250) (by decide +kernel))) (by decide +kernel)
theorem kw252 : Cond.methodLink RJ0 495 yJ1_charAt_3b067 ∈ Tg := mem_Tg (List.mem_append_right _ (List.mem_of_getElem? (i := 252) (by decide +kernel))) (by decide +kernel)
theorem kw253 : Cond.static yJ1_charAt_3b067 ∈ Tg := mem_Tg (List.mem_append_right _ (List.mem_of_getElem? (i := 253) (by decide +kernel))) (by decide +kernel)
theorem kw13 : Cond.initialized RJ1 ∈ Tg := mem_Tg (List.mem_append_right _ (List.mem_of_getElem? (i := 13) (by decide +kernel))) (by decide +kernel)
theorem dJ6_bitCount_0f7a4_0 : decode cJ6_bitCount_0f7a4 0 = .ok (.iload_n 0, 1) := by decide +kernel
theorem dJ6_bitCount_0f7a4_1 : decode cJ6_bitCount_0f7a4 1 = .ok (.iload_n 0, 1) := by decide +kernel
theorem dJ6_bitCount_0f7a4_2 : decode cJ6_bitCount_0f7a4 2 = .ok (.iconst 1, 1) := by decide +kernel
theorem dJ6_bitCount_0f7a4_3 : decode cJ6_bitCount_0f7a4 3 = .ok (.iushr, 1) := by decide +kernel
theorem kw620 : Cond.constant RJ6 265 (1431655765) ∈ Tg := mem_Tg (List.mem_append_right _ (List.mem_of_getElem? (i := 620) (by decide +kernel))) (by decide +kernel)
theorem dJ6_bitCount_0f7a4_4 : decode cJ6_bitCount_0f7a4 4 = .ok (.ldc_w 265, 3) := by decide +kernel
theorem dJ6_bitCount_0f7a4_7 : decode cJ6_bitCount_0f7a4 7 = .ok (.iand, 1) := by decide +kernel
theorem dJ6_bitCount_0f7a4_8 : decode cJ6_bitCount_0f7a4 8 = .ok (.isub, 1) := by decide +kernel
theorem dJ6_bitCount_0f7a4_9 : decode cJ6_bitCount_0f7a4 9 = .ok (.istore_n 0, 1) := by decide +kernel
theorem dJ6_bitCount_0f7a4_10 : decode cJ6_bitCount_0f7a4 10 = .ok (.iload_n 0, 1) := by decide +kernel
theorem kw621 : Cond.constant RJ6 266 (858993459) ∈ Tg := mem_Tg (List.mem_append_right _ (List.mem_of_getElem? (i := 621) (by decide +kernel))) (by decide +kernel)
theorem dJ6_bitCount_0f7a4_11 : decode cJ6_bitCount_0f7a4 11 = .ok (.ldc_w 266, 3) := by decide +kernel
theorem dJ6_bitCount_0f7a4_14 : decode cJ6_bitCount_0f7a4 14 = .ok (.iand, 1) := by decide +kernel
theorem dJ6_bitCount_0f7a4_15 : decode cJ6_bitCount_0f7a4 15 = .ok (.iload_n 0, 1) := by decide +kernel
theorem dJ6_bitCount_0f7a4_16 : decode cJ6_bitCount_0f7a4 16 = .ok (.iconst 2, 1) := by decide +kernel
theorem dJ6_bitCount_0f7a4_17 : decode cJ6_bitCount_0f7a4 17 = .ok (.iushr, 1) := by decide +kernel
theorem dJ6_bitCount_0f7a4_18 : decode cJ6_bitCount_0f7a4 18 = .ok (.ldc_w 266, 3) := by decide +kernel
theorem dJ6_bitCount_0f7a4_21 : decode cJ6_bitCount_0f7a4 21 = .ok (.iand, 1) := by decide +kernel
theorem dJ6_bitCount_0f7a4_22 : decode cJ6_bitCount_0f7a4 22 = .ok (.iadd, 1) := by decide +kernel
theorem dJ6_bitCount_0f7a4_23 : decode cJ6_bitCount_0f7a4 23 = .ok (.istore_n 0, 1) := by decide +kernel
theorem dJ6_bitCount_0f7a4_24 : decode cJ6_bitCount_0f7a4 24 = .ok (.iload_n 0, 1) := by decide +kernel
theorem dJ6_bitCount_0f7a4_25 : decode cJ6_bitCount_0f7a4 25 = .ok (.iload_n 0, 1) := by decide +kernel
theorem dJ6_bitCount_0f7a4_26 : decode cJ6_bitCount_0f7a4 26 = .ok (.iconst 4, 1) := by decide +kernel
theorem dJ6_bitCount_0f7a4_27 : decode cJ6_bitCount_0f7a4 27 = .ok (.iushr, 1) := by decide +kernel
theorem dJ6_bitCount_0f7a4_28 : decode cJ6_bitCount_0f7a4 28 = .ok (.iadd, 1) := by decide +kernel
theorem kw622 : Cond.constant RJ6 267 (252645135) ∈ Tg := mem_Tg (List.mem_append_right _ (List.mem_of_getElem? (i := 622) (by decide +kernel))) (by decide +kernel)
theorem dJ6_bitCount_0f7a4_29 : decode cJ6_bitCount_0f7a4 29 = .ok (.ldc_w 267, 3) := by decide +kernel
theorem dJ6_bitCount_0f7a4_32 : decode cJ6_bitCount_0f7a4 32 = .ok (.iand, 1) := by decide +kernel
theorem dJ6_bitCount_0f7a4_33 : decode cJ6_bitCount_0f7a4 33 = .ok (.istore_n 0, 1) := by decide +kernel
theorem dJ6_bitCount_0f7a4_34 : decode cJ6_bitCount_0f7a4 34 = .ok (.iload_n 0, 1) := by decide +kernel
theorem dJ6_bitCount_0f7a4_35 : decode cJ6_bitCount_0f7a4 35 = .ok (.iload_n 0, 1) := by decide +kernel
theorem dJ6_bitCount_0f7a4_36 : decode cJ6_bitCount_0f7a4 36 = .ok (.bipush 8, 2) := by decide +kernel
theorem dJ6_bitCount_0f7a4_38 : decode cJ6_bitCount_0f7a4 38 = .ok (.iushr, 1) := by decide +kernel
theorem dJ6_bitCount_0f7a4_39 : decode cJ6_bitCount_0f7a4 39 = .ok (.iadd, 1) := by decide +kernel
theorem dJ6_bitCount_0f7a4_40 : decode cJ6_bitCount_0f7a4 40 = .ok (.istore_n 0, 1) := by decide +kernel
theorem dJ6_bitCount_0f7a4_41 : decode cJ6_bitCount_0f7a4 41 = .ok (.iload_n 0, 1) := by decide +kernel
theorem dJ6_bitCount_0f7a4_42 : decode cJ6_bitCount_0f7a4 42 = .ok (.iload_n 0, 1) := by decide +kernel
theorem dJ6_bitCount_0f7a4_43 : decode cJ6_bitCount_0f7a4 43 = .ok (.bipush 16, 2) := by decide +kernel
theorem dJ6_bitCount_0f7a4_45 : decode cJ6_bitCount_0f7a4 45 = .ok (.iushr, 1) := by decide +kernel
theorem dJ6_bitCount_0f7a4_46 : decode cJ6_bitCount_0f7a4 46 = .ok (.iadd, 1) := by decide +kernel
theorem dJ6_bitCount_0f7a4_47 : decode cJ6_bitCount_0f7a4 47 = .ok (.istore_n 0, 1) := by decide +kernel
theorem dJ6_bitCount_0f7a4_48 : decode cJ6_bitCount_0f7a4 48 = .ok (.iload_n 0, 1) := by decide +kernel
theorem dJ6_bitCount_0f7a4_49 : decode cJ6_bitCount_0f7a4 49 = .ok (.bipush 63, 2) := by decide +kernel
theorem dJ6_bitCount_0f7a4_51 : decode cJ6_bitCount_0f7a4 51 = .ok (.iand, 1) := by decide +kernel
theorem dJ6_bitCount_0f7a4_52 : decode cJ6_bitCount_0f7a4 52 = .ok (.ireturn, 1) := by decide +kernel
theorem dJ13_bitCount_95d88_0 : decode cJ13_bitCount_95d88 0 = .ok (.lload_n 0, 1) := by decide +kernel
theorem dJ13_bitCount_95d88_1 : decode cJ13_bitCount_95d88 1 = .ok (.lload_n 0, 1) := by decide +kernel
theorem dJ13_bitCount_95d88_2 : decode cJ13_bitCount_95d88 2 = .ok (.iconst 1, 1) := by decide +kernel
theorem dJ13_bitCount_95d88_3 : decode cJ13_bitCount_95d88 3 = .ok (.lushr, 1) := by decide +kernel
theorem kw773 : Cond.constantLong RJ13 314 (6148914691236517205) ∈ Tg := mem_Tg (List.mem_append_right _ (List.mem_of_getElem? (i := 773) (by decide +kernel))) (by decide +kernel)
theorem dJ13_bitCount_95d88_4 : decode cJ13_bitCount_95d88 4 = .ok (.ldc2_w 314, 3) := by decide +kernel
theorem dJ13_bitCount_95d88_7 : decode cJ13_bitCount_95d88 7 = .ok (.land, 1) := by decide +kernel
theorem dJ13_bitCount_95d88_8 : decode cJ13_bitCount_95d88 8 = .ok (.lsub, 1) := by decide +kernel
theorem dJ13_bitCount_95d88_9 : decode cJ13_bitCount_95d88 9 = .ok (.lstore_n 0, 1) := by decide +kernel
theorem dJ13_bitCount_95d88_10 : decode cJ13_bitCount_95d88 10 = .ok (.lload_n 0, 1) := by decide +kernel
theorem kw774 : Cond.constantLong RJ13 316 (3689348814741910323) ∈ Tg := mem_Tg (List.mem_append_right _ (List.mem_of_getElem? (i := 774) (by decide +kernel))) (by decide +kernel)
theorem dJ13_bitCount_95d88_11 : decode cJ13_bitCount_95d88 11 = .ok (.ldc2_w 316, 3) := by decide +kernel
theorem dJ13_bitCount_95d88_14 : decode cJ13_bitCount_95d88 14 = .ok (.land, 1) := by decide +kernel
theorem dJ13_bitCount_95d88_15 : decode cJ13_bitCount_95d88 15 = .ok (.lload_n 0, 1) := by decide +kernel
theorem dJ13_bitCount_95d88_16 : decode cJ13_bitCount_95d88 16 = .ok (.iconst 2, 1) := by decide +kernel
theorem dJ13_bitCount_95d88_17 : decode cJ13_bitCount_95d88 17 = .ok (.lushr, 1) := by decide +kernel
theorem dJ13_bitCount_95d88_18 : decode cJ13_bitCount_95d88 18 = .ok (.ldc2_w 316, 3) := by decide +kernel
theorem dJ13_bitCount_95d88_21 : decode cJ13_bitCount_95d88 21 = .ok (.land, 1) := by decide +kernel
theorem dJ13_bitCount_95d88_22 : decode cJ13_bitCount_95d88 22 = .ok (.ladd, 1) := by decide +kernel
theorem dJ13_bitCount_95d88_23 : decode cJ13_bitCount_95d88 23 = .ok (.lstore_n 0, 1) := by decide +kernel
theorem dJ13_bitCount_95d88_24 : decode cJ13_bitCount_95d88 24 = .ok (.lload_n 0, 1) := by decide +kernel
theorem dJ13_bitCount_95d88_25 : decode cJ13_bitCount_95d88 25 = .ok (.lload_n 0, 1) := by decide +kernel
theorem dJ13_bitCount_95d88_26 : decode cJ13_bitCount_95d88 26 = .ok (.iconst 4, 1) := by decide +kernel
theorem dJ13_bitCount_95d88_27 : decode cJ13_bitCount_95d88 27 = .ok (.lushr, 1) := by decide +kernel
theorem dJ13_bitCount_95d88_28 : decode cJ13_bitCount_95d88 28 = .ok (.ladd, 1) := by decide +kernel
theorem kw775 : Cond.constantLong RJ13 318 (1085102592571150095) ∈ Tg := mem_Tg (List.mem_append_right _ (List.mem_of_getElem? (i := 775) (by decide +kernel))) (by decide +kernel)
theorem dJ13_bitCount_95d88_29 : decode cJ13_bitCount_95d88 29 = .ok (.ldc2_w 318, 3) := by decide +kernel
theorem dJ13_bitCount_95d88_32 : decode cJ13_bitCount_95d88 32 = .ok (.land, 1) := by decide +kernel
theorem dJ13_bitCount_95d88_33 : decode cJ13_bitCount_95d88 33 = .ok (.lstore_n 0, 1) := by decide +kernel
theorem dJ13_bitCount_95d88_34 : decode cJ13_bitCount_95d88 34 = .ok (.lload_n 0, 1) := by decide +kernel
theorem dJ13_bitCount_95d88_35 : decode cJ13_bitCount_95d88 35 = .ok (.lload_n 0, 1) := by decide +kernel
theorem dJ13_bitCount_95d88_36 : decode cJ13_bitCount_95d88 36 = .ok (.bipush 8, 2) := by decide +kernel
theorem dJ13_bitCount_95d88_38 : decode cJ13_bitCount_95d88 38 = .ok (.lushr, 1) := by decide +kernel
theorem dJ13_bitCount_95d88_39 : decode cJ13_bitCount_95d88 39 = .ok (.ladd, 1) := by decide +kernel
theorem dJ13_bitCount_95d88_40 : decode cJ13_bitCount_95d88 40 = .ok (.lstore_n 0, 1) := by decide +kernel
theorem dJ13_bitCount_95d88_41 : decode cJ13_bitCount_95d88 41 = .ok (.lload_n 0, 1) := by decide +kernel
theorem dJ13_bitCount_95d88_42 : decode cJ13_bitCount_95d88 42 = .ok (.lload_n 0, 1) := by decide +kernel
theorem dJ13_bitCount_95d88_43 : decode cJ13_bitCount_95d88 43 = .ok (.bipush 16, 2) := by decide +kernel
theorem dJ13_bitCount_95d88_45 : decode cJ13_bitCount_95d88 45 = .ok (.lushr, 1) := by decide +kernel
theorem dJ13_bitCount_95d88_46 : decode cJ13_bitCount_95d88 46 = .ok (.ladd, 1) := by decide +kernel
theorem dJ13_bitCount_95d88_47 : decode cJ13_bitCount_95d88 47 = .ok (.lstore_n 0, 1) := by decide +kernel
theorem dJ13_bitCount_95d88_48 : decode cJ13_bitCount_95d88 48 = .ok (.lload_n 0, 1) := by decide +kernel
theorem dJ13_bitCount_95d88_49 : decode cJ13_bitCount_95d88 49 = .ok (.lload_n 0, 1) := by decide +kernel
theorem dJ13_bitCount_95d88_50 : decode cJ13_bitCount_95d88 50 = .ok (.bipush 32, 2) := by decide +kernel
theorem dJ13_bitCount_95d88_52 : decode cJ13_bitCount_95d88 52 = .ok (.lushr, 1) := by decide +kernel
theorem dJ13_bitCount_95d88_53 : decode cJ13_bitCount_95d88 53 = .ok (.ladd, 1) := by decide +kernel
theorem dJ13_bitCount_95d88_54 : decode cJ13_bitCount_95d88 54 = .ok (.lstore_n 0, 1) := by decide +kernel
theorem dJ13_bitCount_95d88_55 : decode cJ13_bitCount_95d88 55 = .ok (.lload_n 0, 1) := by decide +kernel
theorem dJ13_bitCount_95d88_56 : decode cJ13_bitCount_95d88 56 = .ok (.l2i, 1) := by decide +kernel
theorem dJ13_bitCount_95d88_57 : decode cJ13_bitCount_95d88 57 = .ok (.bipush 127, 2) := by decide +kernel
theorem dJ13_bitCount_95d88_59 : decode cJ13_bitCount_95d88 59 = .ok (.iand, 1) := by decide +kernel
theorem dJ13_bitCount_95d88_60 : decode cJ13_bitCount_95d88 60 = .ok (.ireturn, 1) := by decide +kernel
theorem dJ7_fill_53178_0 : decode cJ7_fill_53178 0 = .ok (.iconst 0, 1) := by decide +kernel
theorem dJ7_fill_53178_1 : decode cJ7_fill_53178 1 = .ok (.istore_n 2, 1) := by decide +kernel
theorem dJ7_fill_53178_2 : decode cJ7_fill_53178 2 = .ok (.aload_n 0, 1) := by decide +kernel
theorem dJ7_fill_53178_3 : decode cJ7_fill_53178 3 = .ok (.arraylength, 1) := by decide +kernel
theorem dJ7_fill_53178_4 : decode cJ7_fill_53178 4 = .ok (.istore_n 3, 1) := by decide +kernel
theorem dJ7_fill_53178_5 : decode cJ7_fill_53178 5 = .ok (.iload_n 2, 1) := by decide +kernel
theorem dJ7_fill_53178_6 : decode cJ7_fill_53178 6 = .ok (.iload_n 3, 1) := by decide +kernel
theorem dJ7_fill_53178_7 : decode cJ7_fill_53178 7 = .ok (.if_icmp .ge 13, 3) := by decide +kernel
theorem dJ7_fill_53178_10 : decode cJ7_fill_53178 10 = .ok (.aload_n 0, 1) := by decide +kernel
theorem dJ7_fill_53178_11 : decode cJ7_fill_53178 11 = .ok (.iload_n 2, 1) := by decide +kernel
theorem dJ7_fill_53178_12 : decode cJ7_fill_53178 12 = .ok (.iload_n 1, 1) := by decide +kernel
theorem dJ7_fill_53178_13 : decode cJ7_fill_53178 13 = .ok (.iastore, 1) := by decide +kernel
theorem dJ7_fill_53178_14 : decode cJ7_fill_53178 14 = .ok (.iinc 2 1, 3) := by decide +kernel
theorem dJ7_fill_53178_17 : decode cJ7_fill_53178 17 = .ok (.goto (-12), 3) := by decide +kernel
theorem dJ7_fill_53178_20 : decode cJ7_fill_53178 20 = .ok (.return_, 1) := by decide +kernel
theorem dX9_within_0 : decode cX9_within 0 = .ok (.iload_n 0, 1) := by decide +kernel
theorem dX9_within_1 : decode cX9_within 1 = .ok (.iload_n 1, 1) := by decide +kernel
theorem dX9_within_2 : decode cX9_within 2 = .ok (.if_icmp .lt 12, 3) := by decide +kernel
theorem dX9_within_14 : decode cX9_within 14 = .ok (.iconst 0, 1) := by decide +kernel
theorem dX9_within_15 : decode cX9_within 15 = .ok (.ireturn, 1) := by decide +kernel
theorem dX9_within_5 : decode cX9_within 5 = .ok (.iload_n 0, 1) := by decide +kernel
theorem dX9_within_6 : decode cX9_within 6 = .ok (.iload_n 2, 1) := by decide +kernel
theorem dX9_within_7 : decode cX9_within 7 = .ok (.if_icmp .gt 7, 3) := by decide +kernel
theorem dX9_within_10 : decode cX9_within 10 = .ok (.iconst 1, 1) := by decide +kernel
theorem dX9_within_11 : decode cX9_within 11 = .ok (.goto 4, 3) := by decide +kernel
theorem dX9_isSide_0 : decode cX9_isSide 0 = .ok (.iload_n 0, 1) := by decide +kernel
theorem dX9_isSide_1 : decode cX9_isSide 1 = .ok (.ifCond .eq 8, 3) := by decide +kernel
theorem dX9_isSide_9 : decode cX9_isSide 9 = .ok (.iconst 1, 1) := by decide +kernel
theorem dX9_isSide_10 : decode cX9_isSide 10 = .ok (.goto 4, 3) := by decide +kernel
theorem dX9_isSide_14 : decode cX9_isSide 14 = .ok (.ireturn, 1) := by decide +kernel
theorem dX9_isSide_4 : decode cX9_isSide 4 = .ok (.iload_n 0, 1) := by decide +kernel
theorem dX9_isSide_5 : decode cX9_isSide 5 = .ok (.iconst 1, 1) := by decide +kernel
theorem dX9_isSide_6 : decode cX9_isSide 6 = .ok (.if_icmp .ne 7, 3) := by decide +kernel
theorem dX9_isSide_13 : decode cX9_isSide 13 = .ok (.iconst 0, 1) := by decide +kernel
theorem dX9_isClog_0 : decode cX9_isClog 0 = .ok (.iload_n 0, 1) := by decide +kernel
theorem dX9_isClog_1 : decode cX9_isClog 1 = .ok (.iconst 0, 1) := by decide +kernel
theorem dX9_isClog_2 : decode cX9_isClog 2 = .ok (.iconst 3, 1) := by decide +kernel
theorem kw338 : Cond.code yX9_within cX9_within 3 (some .boolean) ∈ Tg := mem_Tg (List.mem_append_right _ (List.mem_of_getElem? (i := 338) (by decide +kernel))) (by decide +kernel)
theorem dX9_isClog_3 : decode cX9_isClog 3 = .ok (.invokestatic 99, 3) := by decide +kernel
theorem dX9_isClog_6 : decode cX9_isClog 6 = .ok (.ifCond .eq 35, 3) := by decide +kernel
theorem dX9_isClog_41 : decode cX9_isClog 41 = .ok (.iconst 0, 1) := by decide +kernel
theorem dX9_isClog_42 : decode cX9_isClog 42 = .ok (.ireturn, 1) := by decide +kernel
theorem dX9_isClog_9 : decode cX9_isClog 9 = .ok (.iload_n 1, 1) := by decide +kernel
theorem kw341 : Cond.code yX9_isSide cX9_isSide 1 (some .boolean) ∈ Tg := mem_Tg (List.mem_append_right _ (List.mem_of_getElem? (i := 341) (by decide +kernel))) (by decide +kernel)
theorem dX9_isClog_10 : decode cX9_isClog 10 = .ok (.invokestatic 133, 3) := by decide +kernel
theorem dX9_isClog_13 : decode cX9_isClog 13 = .ok (.ifCond .eq 28, 3) := by decide +kernel
theorem dX9_isClog_16 : decode cX9_isClog 16 = .ok (.iload_n 2, 1) := by decide +kernel
theorem dX9_isClog_17 : decode cX9_isClog 17 = .ok (.bipush 12, 2) := by decide +kernel
theorem dX9_isClog_19 : decode cX9_isClog 19 = .ok (.bipush 72, 2) := by decide +kernel
theorem dX9_isClog_21 : decode cX9_isClog 21 = .ok (.invokestatic 99, 3) := by decide +kernel
theorem dX9_isClog_24 : decode cX9_isClog 24 = .ok (.ifCond .eq 17, 3) := by decide +kernel
theorem dX9_isClog_27 : decode cX9_isClog 27 = .ok (.iload_n 3, 1) := by decide +kernel
theorem dX9_isClog_28 : decode cX9_isClog 28 = .ok (.iconst 1, 1) := by decide +kernel
theorem dX9_isClog_29 : decode cX9_isClog 29 = .ok (.bipush 40, 2) := by decide +kernel
theorem dX9_isClog_31 : decode cX9_isClog 31 = .ok (.invokestatic 99, 3) := by decide +kernel
theorem dX9_isClog_34 : decode cX9_isClog 34 = .ok (.ifCond .eq 7, 3) := by decide +kernel
theorem dX9_isClog_37 : decode cX9_isClog 37 = .ok (.iconst 1, 1) := by decide +kernel
theorem dX9_isClog_38 : decode cX9_isClog 38 = .ok (.goto 4, 3) := by decide +kernel
theorem dX9_at_0 : decode cX9_at 0 = .ok (.aload_n 0, 1) := by decide +kernel
theorem dX9_at_1 : decode cX9_at 1 = .ok (.ifnull 13, 3) := by decide +kernel
theorem dX9_at_4 : decode cX9_at 4 = .ok (.iload_n 1, 1) := by decide +kernel
theorem dX9_at_5 : decode cX9_at 5 = .ok (.ifCond .lt 9, 3) := by decide +kernel
theorem dX9_at_14 : decode cX9_at 14 = .ok (.iconst 0, 1) := by decide +kernel
theorem dX9_at_15 : decode cX9_at 15 = .ok (.goto 6, 3) := by decide +kernel
theorem dX9_at_21 : decode cX9_at 21 = .ok (.ireturn, 1) := by decide +kernel
theorem dX9_at_8 : decode cX9_at 8 = .ok (.iload_n 1, 1) := by decide +kernel
theorem dX9_at_9 : decode cX9_at 9 = .ok (.aload_n 0, 1) := by decide +kernel
theorem dX9_at_10 : decode cX9_at 10 = .ok (.arraylength, 1) := by decide +kernel
theorem dX9_at_11 : decode cX9_at 11 = .ok (.if_icmp .lt 7, 3) := by decide +kernel
theorem dX9_at_18 : decode cX9_at 18 = .ok (.aload_n 0, 1) := by decide +kernel
theorem dX9_at_19 : decode cX9_at 19 = .ok (.iload_n 1, 1) := by decide +kernel
theorem dX9_at_20 : decode cX9_at 20 = .ok (.iaload, 1) := by decide +kernel
theorem dX9_put_0 : decode cX9_put 0 = .ok (.aload_n 0, 1) := by decide +kernel
theorem dX9_put_1 : decode cX9_put 1 = .ok (.ifnull 17, 3) := by decide +kernel
theorem dX9_put_4 : decode cX9_put 4 = .ok (.iload_n 1, 1) := by decide +kernel
theorem dX9_put_5 : decode cX9_put 5 = .ok (.ifCond .lt 13, 3) := by decide +kernel
theorem dX9_put_18 : decode cX9_put 18 = .ok (.return_, 1) := by decide +kernel
theorem dX9_put_8 : decode cX9_put 8 = .ok (.iload_n 1, 1) := by decide +kernel
theorem dX9_put_9 : decode cX9_put 9 = .ok (.aload_n 0, 1) := by decide +kernel
theorem dX9_put_10 : decode cX9_put 10 = .ok (.arraylength, 1) := by decide +kernel
theorem dX9_put_11 : decode cX9_put 11 = .ok (.if_icmp .ge 7, 3) := by decide +kernel
theorem dX9_put_14 : decode cX9_put 14 = .ok (.aload_n 0, 1) := by decide +kernel
theorem dX9_put_15 : decode cX9_put 15 = .ok (.iload_n 1, 1) := by decide +kernel
theorem dX9_put_16 : decode cX9_put 16 = .ok (.iload_n 2, 1) := by decide +kernel
theorem dX9_put_17 : decode cX9_put 17 = .ok (.iastore, 1) := by decide +kernel
theorem dX9_copyRow_0 : decode cX9_copyRow 0 = .ok (.aload_n 0, 1) := by decide +kernel
theorem dX9_copyRow_1 : decode cX9_copyRow 1 = .ok (.ifnull 21, 3) := by decide +kernel
theorem dX9_copyRow_4 : decode cX9_copyRow 4 = .ok (.aload_n 1, 1) := by decide +kernel
theorem dX9_copyRow_5 : decode cX9_copyRow 5 = .ok (.ifnull 17, 3) := by decide +kernel
theorem dX9_copyRow_8 : decode cX9_copyRow 8 = .ok (.aload_n 0, 1) := by decide +kernel
theorem dX9_copyRow_9 : decode cX9_copyRow 9 = .ok (.iconst 0, 1) := by decide +kernel
theorem dX9_copyRow_10 : decode cX9_copyRow 10 = .ok (.aload_n 1, 1) := by decide +kernel
theorem dX9_copyRow_11 : decode cX9_copyRow 11 = .ok (.iconst 0, 1) := by decide +kernel
theorem dX9_copyRow_12 : decode cX9_copyRow 12 = .ok (.aload_n 0, 1) := by decide +kernel
theorem dX9_copyRow_13 : decode cX9_copyRow 13 = .ok (.arraylength, 1) := by decide +kernel
theorem dX9_copyRow_14 : decode cX9_copyRow 14 = .ok (.aload_n 1, 1) := by decide +kernel
theorem dX9_copyRow_15 : decode cX9_copyRow 15 = .ok (.arraylength, 1) := by decide +kernel
theorem dX9_copyRow_16 : decode cX9_copyRow 16 = .ok (.invokestatic 274, 3) := by decide +kernel
theorem kw379 : Cond.methodLink RX9 277 arraycopyName ∈ Tg := mem_Tg (List.mem_append_right _ (List.mem_of_getElem? (i := 379) (by decide +kernel))) (by decide +kernel)
theorem kw381 : Cond.native arraycopyName ∈ Tg := mem_Tg (List.mem_append_right _ (List.mem_of_getElem? (i := 381) (by decide +kernel))) (by decide +kernel)
theorem kw380 : Cond.static arraycopyName ∈ Tg := mem_Tg (List.mem_append_right _ (List.mem_of_getElem? (i := 380) (by decide +kernel))) (by decide +kernel)
theorem kw16 : Cond.initialized RJ10 ∈ Tg := mem_Tg (List.mem_append_right _ (List.mem_of_getElem? (i := 16) (by decide +kernel))) (by decide +kernel)
theorem dX9_copyRow_19 : decode cX9_copyRow 19 = .ok (.invokestatic 277, 3) := by decide +kernel
theorem dX9_copyRow_22 : decode cX9_copyRow 22 = .ok (.return_, 1) := by decide +kernel
theorem dX9_hasBit_0 : decode cX9_hasBit 0 = .ok (.iload_n 1, 1) := by decide +kernel
theorem dX9_hasBit_1 : decode cX9_hasBit 1 = .ok (.ifCond .lt 21, 3) := by decide +kernel
theorem dX9_hasBit_22 : decode cX9_hasBit 22 = .ok (.iconst 0, 1) := by decide +kernel
theorem dX9_hasBit_23 : decode cX9_hasBit 23 = .ok (.ireturn, 1) := by decide +kernel
theorem dX9_hasBit_4 : decode cX9_hasBit 4 = .ok (.iload_n 1, 1) := by decide +kernel
theorem dX9_hasBit_5 : decode cX9_hasBit 5 = .ok (.bipush 31, 2) := by decide +kernel
theorem dX9_hasBit_7 : decode cX9_hasBit 7 = .ok (.if_icmp .ge 15, 3) := by decide +kernel
theorem dX9_hasBit_10 : decode cX9_hasBit 10 = .ok (.iload_n 0, 1) := by decide +kernel
theorem dX9_hasBit_11 : decode cX9_hasBit 11 = .ok (.iload_n 1, 1) := by decide +kernel
theorem dX9_hasBit_12 : decode cX9_hasBit 12 = .ok (.ishr, 1) := by decide +kernel
theorem dX9_hasBit_13 : decode cX9_hasBit 13 = .ok (.iconst 1, 1) := by decide +kernel
theorem dX9_hasBit_14 : decode cX9_hasBit 14 = .ok (.iand, 1) := by decide +kernel
theorem dX9_hasBit_15 : decode cX9_hasBit 15 = .ok (.ifCond .eq 7, 3) := by decide +kernel
theorem dX9_hasBit_18 : decode cX9_hasBit 18 = .ok (.iconst 1, 1) := by decide +kernel
theorem dX9_hasBit_19 : decode cX9_hasBit 19 = .ok (.goto 4, 3) := by decide +kernel
theorem dX9_power_0 : decode cX9_power 0 = .ok (.lconst 1, 1) := by decide +kernel
theorem dX9_power_1 : decode cX9_power 1 = .ok (.lstore_n 2, 1) := by decide +kernel
theorem dX9_power_2 : decode cX9_power 2 = .ok (.iconst 0, 1) := by decide +kernel
theorem dX9_power_3 : decode cX9_power 3 = .ok (.istore 4, 2) := by decide +kernel
theorem dX9_power_5 : decode cX9_power 5 = .ok (.iload 4, 2) := by decide +kernel
theorem dX9_power_7 : decode cX9_power 7 = .ok (.iload_n 1, 1) := by decide +kernel
theorem dX9_power_8 : decode cX9_power 8 = .ok (.if_icmp .ge 14, 3) := by decide +kernel
theorem dX9_power_11 : decode cX9_power 11 = .ok (.lload_n 2, 1) := by decide +kernel
theorem dX9_power_12 : decode cX9_power 12 = .ok (.iload_n 0, 1) := by decide +kernel
theorem dX9_power_13 : decode cX9_power 13 = .ok (.i2l, 1) := by decide +kernel
theorem dX9_power_14 : decode cX9_power 14 = .ok (.lmul, 1) := by decide +kernel
theorem dX9_power_15 : decode cX9_power 15 = .ok (.lstore_n 2, 1) := by decide +kernel
theorem dX9_power_16 : decode cX9_power 16 = .ok (.iinc 4 1, 3) := by decide +kernel
theorem dX9_power_19 : decode cX9_power 19 = .ok (.goto (-14), 3) := by decide +kernel
theorem dX9_power_22 : decode cX9_power 22 = .ok (.lload_n 2, 1) := by decide +kernel
theorem dX9_power_23 : decode cX9_power 23 = .ok (.lreturn, 1) := by decide +kernel
theorem dX9_commonDivisorWithTen_0 : decode cX9_commonDivisorWithTen 0 = .ok (.bipush 10, 2) := by decide +kernel
theorem dX9_commonDivisorWithTen_2 : decode cX9_commonDivisorWithTen 2 = .ok (.istore_n 1, 1) := by decide +kernel
theorem dX9_commonDivisorWithTen_3 : decode cX9_commonDivisorWithTen 3 = .ok (.iload_n 1, 1) := by decide +kernel
theorem dX9_commonDivisorWithTen_4 : decode cX9_commonDivisorWithTen 4 = .ok (.iconst 1, 1) := by decide +kernel
theorem dX9_commonDivisorWithTen_5 : decode cX9_commonDivisorWithTen 5 = .ok (.if_icmp .le 24, 3) := by decide +kernel
theorem dX9_commonDivisorWithTen_8 : decode cX9_commonDivisorWithTen 8 = .ok (.iload_n 0, 1) := by decide +kernel
theorem dX9_commonDivisorWithTen_9 : decode cX9_commonDivisorWithTen 9 = .ok (.iload_n 1, 1) := by decide +kernel
theorem dX9_commonDivisorWithTen_10 : decode cX9_commonDivisorWithTen 10 = .ok (.irem, 1) := by decide +kernel
theorem dX9_commonDivisorWithTen_11 : decode cX9_commonDivisorWithTen 11 = .ok (.ifCond .ne 12, 3) := by decide +kernel
theorem dX9_commonDivisorWithTen_23 : decode cX9_commonDivisorWithTen 23 = .ok (.iinc 1 (-1), 3) := by decide +kernel
theorem dX9_commonDivisorWithTen_26 : decode cX9_commonDivisorWithTen 26 = .ok (.goto (-23), 3) := by decide +kernel
theorem dX9_commonDivisorWithTen_14 : decode cX9_commonDivisorWithTen 14 = .ok (.bipush 10, 2) := by decide +kernel
theorem dX9_commonDivisorWithTen_16 : decode cX9_commonDivisorWithTen 16 = .ok (.iload_n 1, 1) := by decide +kernel
theorem dX9_commonDivisorWithTen_17 : decode cX9_commonDivisorWithTen 17 = .ok (.irem, 1) := by decide +kernel
theorem dX9_commonDivisorWithTen_18 : decode cX9_commonDivisorWithTen 18 = .ok (.ifCond .ne 5, 3) := by decide +kernel
theorem dX9_commonDivisorWithTen_21 : decode cX9_commonDivisorWithTen 21 = .ok (.iload_n 1, 1) := by decide +kernel
theorem dX9_commonDivisorWithTen_22 : decode cX9_commonDivisorWithTen 22 = .ok (.ireturn, 1) := by decide +kernel
theorem dX9_commonDivisorWithTen_29 : decode cX9_commonDivisorWithTen 29 = .ok (.iconst 1, 1) := by decide +kernel
theorem dX9_commonDivisorWithTen_30 : decode cX9_commonDivisorWithTen 30 = .ok (.ireturn, 1) := by decide +kernel
theorem dX9_cutsInTheMean_0 : decode cX9_cutsInTheMean 0 = .ok (.lconst 0, 1) := by decide +kernel
theorem dX9_cutsInTheMean_1 : decode cX9_cutsInTheMean 1 = .ok (.lstore_n 3, 1) := by decide +kernel
theorem dX9_cutsInTheMean_2 : decode cX9_cutsInTheMean 2 = .ok (.lconst 1, 1) := by decide +kernel
theorem dX9_cutsInTheMean_3 : decode cX9_cutsInTheMean 3 = .ok (.lstore 5, 2) := by decide +kernel
theorem dX9_cutsInTheMean_5 : decode cX9_cutsInTheMean 5 = .ok (.iconst 0, 1) := by decide +kernel
theorem dX9_cutsInTheMean_6 : decode cX9_cutsInTheMean 6 = .ok (.istore 7, 2) := by decide +kernel
theorem dX9_cutsInTheMean_8 : decode cX9_cutsInTheMean 8 = .ok (.iload 7, 2) := by decide +kernel
theorem dX9_cutsInTheMean_10 : decode cX9_cutsInTheMean 10 = .ok (.iconst 2, 1) := by decide +kernel
theorem dX9_cutsInTheMean_11 : decode cX9_cutsInTheMean 11 = .ok (.iload_n 0, 1) := by decide +kernel
theorem dX9_cutsInTheMean_12 : decode cX9_cutsInTheMean 12 = .ok (.imul, 1) := by decide +kernel
theorem dX9_cutsInTheMean_13 : decode cX9_cutsInTheMean 13 = .ok (.if_icmp .ge 63, 3) := by decide +kernel
theorem dX9_cutsInTheMean_16 : decode cX9_cutsInTheMean 16 = .ok (.lload_n 3, 1) := by decide +kernel
theorem kw725 : Cond.constantLong RX9 283 (100) ∈ Tg := mem_Tg (List.mem_append_right _ (List.mem_of_getElem? (i := 725) (by decide +kernel))) (by decide +kernel)
theorem dX9_cutsInTheMean_17 : decode cX9_cutsInTheMean 17 = .ok (.ldc2_w 283, 3) := by decide +kernel
theorem dX9_cutsInTheMean_20 : decode cX9_cutsInTheMean 20 = .ok (.lmul, 1) := by decide +kernel
theorem dX9_cutsInTheMean_21 : decode cX9_cutsInTheMean 21 = .ok (.lload 5, 2) := by decide +kernel
theorem dX9_cutsInTheMean_23 : decode cX9_cutsInTheMean 23 = .ok (.ladd, 1) := by decide +kernel
theorem dX9_cutsInTheMean_24 : decode cX9_cutsInTheMean 24 = .ok (.lstore_n 3, 1) := by decide +kernel
theorem dX9_cutsInTheMean_25 : decode cX9_cutsInTheMean 25 = .ok (.iload_n 2, 1) := by decide +kernel
theorem dX9_cutsInTheMean_26 : decode cX9_cutsInTheMean 26 = .ok (.ifCond .eq 12, 3) := by decide +kernel
theorem dX9_cutsInTheMean_38 : decode cX9_cutsInTheMean 38 = .ok (.iload 7, 2) := by decide +kernel
theorem dX9_cutsInTheMean_40 : decode cX9_cutsInTheMean 40 = .ok (.iload_n 0, 1) := by decide +kernel
theorem dX9_cutsInTheMean_41 : decode cX9_cutsInTheMean 41 = .ok (.if_icmp .ge 8, 3) := by decide +kernel
theorem dX9_cutsInTheMean_49 : decode cX9_cutsInTheMean 49 = .ok (.iload 7, 2) := by decide +kernel
theorem dX9_cutsInTheMean_51 : decode cX9_cutsInTheMean 51 = .ok (.iload_n 0, 1) := by decide +kernel
theorem dX9_cutsInTheMean_52 : decode cX9_cutsInTheMean 52 = .ok (.isub, 1) := by decide +kernel
theorem dX9_cutsInTheMean_53 : decode cX9_cutsInTheMean 53 = .ok (.iconst 1, 1) := by decide +kernel
theorem dX9_cutsInTheMean_54 : decode cX9_cutsInTheMean 54 = .ok (.iadd, 1) := by decide +kernel
theorem dX9_cutsInTheMean_55 : decode cX9_cutsInTheMean 55 = .ok (.istore 8, 2) := by decide +kernel
theorem dX9_cutsInTheMean_57 : decode cX9_cutsInTheMean 57 = .ok (.lload 5, 2) := by decide +kernel
theorem dX9_cutsInTheMean_59 : decode cX9_cutsInTheMean 59 = .ok (.bipush 100, 2) := by decide +kernel
theorem dX9_cutsInTheMean_61 : decode cX9_cutsInTheMean 61 = .ok (.iload 8, 2) := by decide +kernel
theorem dX9_cutsInTheMean_63 : decode cX9_cutsInTheMean 63 = .ok (.iload_n 1, 1) := by decide +kernel
theorem dX9_cutsInTheMean_64 : decode cX9_cutsInTheMean 64 = .ok (.imul, 1) := by decide +kernel
theorem dX9_cutsInTheMean_65 : decode cX9_cutsInTheMean 65 = .ok (.isub, 1) := by decide +kernel
theorem dX9_cutsInTheMean_66 : decode cX9_cutsInTheMean 66 = .ok (.i2l, 1) := by decide +kernel
theorem dX9_cutsInTheMean_67 : decode cX9_cutsInTheMean 67 = .ok (.lmul, 1) := by decide +kernel
theorem dX9_cutsInTheMean_68 : decode cX9_cutsInTheMean 68 = .ok (.lstore 5, 2) := by decide +kernel
theorem dX9_cutsInTheMean_70 : decode cX9_cutsInTheMean 70 = .ok (.iinc 7 1, 3) := by decide +kernel
theorem dX9_cutsInTheMean_73 : decode cX9_cutsInTheMean 73 = .ok (.goto (-65), 3) := by decide +kernel
theorem dX9_cutsInTheMean_44 : decode cX9_cutsInTheMean 44 = .ok (.iload 7, 2) := by decide +kernel
theorem dX9_cutsInTheMean_46 : decode cX9_cutsInTheMean 46 = .ok (.goto 7, 3) := by decide +kernel
theorem dX9_cutsInTheMean_29 : decode cX9_cutsInTheMean 29 = .ok (.iload 7, 2) := by decide +kernel
theorem dX9_cutsInTheMean_31 : decode cX9_cutsInTheMean 31 = .ok (.iconst 2, 1) := by decide +kernel
theorem dX9_cutsInTheMean_32 : decode cX9_cutsInTheMean 32 = .ok (.idiv, 1) := by decide +kernel
theorem dX9_cutsInTheMean_33 : decode cX9_cutsInTheMean 33 = .ok (.iconst 1, 1) := by decide +kernel
theorem dX9_cutsInTheMean_34 : decode cX9_cutsInTheMean 34 = .ok (.iadd, 1) := by decide +kernel
theorem dX9_cutsInTheMean_35 : decode cX9_cutsInTheMean 35 = .ok (.goto 20, 3) := by decide +kernel
theorem dX9_cutsInTheMean_76 : decode cX9_cutsInTheMean 76 = .ok (.lload_n 3, 1) := by decide +kernel
theorem dX9_cutsInTheMean_77 : decode cX9_cutsInTheMean 77 = .ok (.lreturn, 1) := by decide +kernel
theorem dX0_clear_0 : decode cX0_clear 0 = .ok (.aload_n 0, 1) := by decide +kernel
theorem dX0_clear_1 : decode cX0_clear 1 = .ok (.bipush 20, 2) := by decide +kernel
theorem dX0_clear_3 : decode cX0_clear 3 = .ok (.putfield 9, 3) := by decide +kernel
theorem dX0_clear_6 : decode cX0_clear 6 = .ok (.aload_n 0, 1) := by decide +kernel
theorem dX0_clear_7 : decode cX0_clear 7 = .ok (.iconst 4, 1) := by decide +kernel
theorem dX0_clear_8 : decode cX0_clear 8 = .ok (.putfield 15, 3) := by decide +kernel
theorem dX0_clear_11 : decode cX0_clear 11 = .ok (.aload_n 0, 1) := by decide +kernel
theorem dX0_clear_12 : decode cX0_clear 12 = .ok (.lconst 0, 1) := by decide +kernel
theorem dX0_clear_13 : decode cX0_clear 13 = .ok (.putfield 18, 3) := by decide +kernel
theorem dX0_clear_16 : decode cX0_clear 16 = .ok (.return_, 1) := by decide +kernel
theorem dX0_copy_0 : decode cX0_copy 0 = .ok (.aload_n 1, 1) := by decide +kernel
theorem dX0_copy_1 : decode cX0_copy 1 = .ok (.ifnull 27, 3) := by decide +kernel
theorem dX0_copy_4 : decode cX0_copy 4 = .ok (.aload_n 0, 1) := by decide +kernel
theorem dX0_copy_5 : decode cX0_copy 5 = .ok (.aload_n 1, 1) := by decide +kernel
theorem dX0_copy_6 : decode cX0_copy 6 = .ok (.getfield 9, 3) := by decide +kernel
theorem dX0_copy_9 : decode cX0_copy 9 = .ok (.putfield 9, 3) := by decide +kernel
theorem dX0_copy_12 : decode cX0_copy 12 = .ok (.aload_n 0, 1) := by decide +kernel
theorem dX0_copy_13 : decode cX0_copy 13 = .ok (.aload_n 1, 1) := by decide +kernel
theorem dX0_copy_14 : decode cX0_copy 14 = .ok (.getfield 15, 3) := by decide +kernel
theorem dX0_copy_17 : decode cX0_copy 17 = .ok (.putfield 15, 3) := by decide +kernel
theorem dX0_copy_20 : decode cX0_copy 20 = .ok (.aload_n 0, 1) := by decide +kernel
theorem dX0_copy_21 : decode cX0_copy 21 = .ok (.aload_n 1, 1) := by decide +kernel
theorem dX0_copy_22 : decode cX0_copy 22 = .ok (.getfield 18, 3) := by decide +kernel
theorem dX0_copy_25 : decode cX0_copy 25 = .ok (.putfield 18, 3) := by decide +kernel
theorem dX0_copy_28 : decode cX0_copy 28 = .ok (.return_, 1) := by decide +kernel
theorem dX0_knotsInside_0 : decode cX0_knotsInside 0 = .ok (.aload_n 0, 1) := by decide +kernel
theorem dX0_knotsInside_1 : decode cX0_knotsInside 1 = .ok (.getfield 18, 3) := by decide +kernel
theorem dX0_knotsInside_4 : decode cX0_knotsInside 4 = .ok (.lconst 1, 1) := by decide +kernel
theorem dX0_knotsInside_5 : decode cX0_knotsInside 5 = .ok (.aload_n 0, 1) := by decide +kernel
theorem dX0_knotsInside_6 : decode cX0_knotsInside 6 = .ok (.getfield 9, 3) := by decide +kernel
theorem dX0_knotsInside_9 : decode cX0_knotsInside 9 = .ok (.lshl, 1) := by decide +kernel
theorem dX0_knotsInside_10 : decode cX0_knotsInside 10 = .ok (.lconst 1, 1) := by decide +kernel
theorem dX0_knotsInside_11 : decode cX0_knotsInside 11 = .ok (.lsub, 1) := by decide +kernel
theorem dX0_knotsInside_12 : decode cX0_knotsInside 12 = .ok (.land, 1) := by decide +kernel
theorem kw772 : Cond.code yJ13_bitCount_95d88 cJ13_bitCount_95d88 2 (some .int) ∈ Tg := mem_Tg (List.mem_append_right _ (List.mem_of_getElem? (i := 772) (by decide +kernel))) (by decide +kernel)
theorem dX0_knotsInside_13 : decode cX0_knotsInside 13 = .ok (.invokestatic 22, 3) := by decide +kernel
theorem dX0_knotsInside_16 : decode cX0_knotsInside 16 = .ok (.ireturn, 1) := by decide +kernel
theorem dX0_isBlock_0 : decode cX0_isBlock 0 = .ok (.lconst 1, 1) := by decide +kernel
theorem dX0_isBlock_1 : decode cX0_isBlock 1 = .ok (.aload_n 0, 1) := by decide +kernel
theorem dX0_isBlock_2 : decode cX0_isBlock 2 = .ok (.getfield 15, 3) := by decide +kernel
theorem dX0_isBlock_5 : decode cX0_isBlock 5 = .ok (.lshl, 1) := by decide +kernel
theorem dX0_isBlock_6 : decode cX0_isBlock 6 = .ok (.lconst 1, 1) := by decide +kernel
theorem dX0_isBlock_7 : decode cX0_isBlock 7 = .ok (.lsub, 1) := by decide +kernel
theorem dX0_isBlock_8 : decode cX0_isBlock 8 = .ok (.iload_n 1, 1) := by decide +kernel
theorem dX0_isBlock_9 : decode cX0_isBlock 9 = .ok (.lshl, 1) := by decide +kernel
theorem dX0_isBlock_10 : decode cX0_isBlock 10 = .ok (.lstore_n 2, 1) := by decide +kernel
theorem dX0_isBlock_11 : decode cX0_isBlock 11 = .ok (.iload_n 1, 1) := by decide +kernel
theorem dX0_isBlock_12 : decode cX0_isBlock 12 = .ok (.aload_n 0, 1) := by decide +kernel
theorem dX0_isBlock_13 : decode cX0_isBlock 13 = .ok (.getfield 15, 3) := by decide +kernel
theorem dX0_isBlock_16 : decode cX0_isBlock 16 = .ok (.iadd, 1) := by decide +kernel
theorem dX0_isBlock_17 : decode cX0_isBlock 17 = .ok (.aload_n 0, 1) := by decide +kernel
theorem dX0_isBlock_18 : decode cX0_isBlock 18 = .ok (.getfield 9, 3) := by decide +kernel
theorem dX0_isBlock_21 : decode cX0_isBlock 21 = .ok (.if_icmp .gt 18, 3) := by decide +kernel
theorem dX0_isBlock_39 : decode cX0_isBlock 39 = .ok (.iconst 0, 1) := by decide +kernel
theorem dX0_isBlock_40 : decode cX0_isBlock 40 = .ok (.ireturn, 1) := by decide +kernel
theorem dX0_isBlock_24 : decode cX0_isBlock 24 = .ok (.aload_n 0, 1) := by decide +kernel
theorem dX0_isBlock_25 : decode cX0_isBlock 25 = .ok (.getfield 18, 3) := by decide +kernel
theorem dX0_isBlock_28 : decode cX0_isBlock 28 = .ok (.lload_n 2, 1) := by decide +kernel
theorem dX0_isBlock_29 : decode cX0_isBlock 29 = .ok (.land, 1) := by decide +kernel
theorem dX0_isBlock_30 : decode cX0_isBlock 30 = .ok (.lconst 0, 1) := by decide +kernel
theorem dX0_isBlock_31 : decode cX0_isBlock 31 = .ok (.lcmp, 1) := by decide +kernel
theorem dX0_isBlock_32 : decode cX0_isBlock 32 = .ok (.ifCond .ne 7, 3) := by decide +kernel
theorem dX0_isBlock_35 : decode cX0_isBlock 35 = .ok (.iconst 1, 1) := by decide +kernel
theorem dX0_isBlock_36 : decode cX0_isBlock 36 = .ok (.goto 4, 3) := by decide +kernel
theorem dX0_saw_0 : decode cX0_saw 0 = .ok (.iconst 0, 1) := by decide +kernel
theorem dX0_saw_1 : decode cX0_saw 1 = .ok (.istore_n 2, 1) := by decide +kernel
theorem dX0_saw_2 : decode cX0_saw 2 = .ok (.iconst 0, 1) := by decide +kernel
theorem dX0_saw_3 : decode cX0_saw 3 = .ok (.istore_n 3, 1) := by decide +kernel
theorem dX0_saw_4 : decode cX0_saw 4 = .ok (.iconst 0, 1) := by decide +kernel
theorem dX0_saw_5 : decode cX0_saw 5 = .ok (.istore 4, 2) := by decide +kernel
theorem dX0_saw_7 : decode cX0_saw 7 = .ok (.iload 4, 2) := by decide +kernel
theorem dX0_saw_9 : decode cX0_saw 9 = .ok (.aload_n 0, 1) := by decide +kernel
theorem dX0_saw_10 : decode cX0_saw 10 = .ok (.getfield 9, 3) := by decide +kernel
theorem dX0_saw_13 : decode cX0_saw 13 = .ok (.if_icmp .ge 43, 3) := by decide +kernel
theorem dX0_saw_16 : decode cX0_saw 16 = .ok (.iload 4, 2) := by decide +kernel
theorem dX0_saw_18 : decode cX0_saw 18 = .ok (.iload_n 3, 1) := by decide +kernel
theorem dX0_saw_19 : decode cX0_saw 19 = .ok (.if_icmp .lt 31, 3) := by decide +kernel
theorem dX0_saw_50 : decode cX0_saw 50 = .ok (.iinc 4 1, 3) := by decide +kernel
theorem dX0_saw_53 : decode cX0_saw 53 = .ok (.goto (-46), 3) := by decide +kernel
theorem dX0_saw_22 : decode cX0_saw 22 = .ok (.aload_n 0, 1) := by decide +kernel
theorem dX0_saw_23 : decode cX0_saw 23 = .ok (.iload 4, 2) := by decide +kernel
theorem kw671 : Cond.code yX0_isBlock cX0_isBlock 4 (some .boolean) ∈ Tg := mem_Tg (List.mem_append_right _ (List.mem_of_getElem? (i := 671) (by decide +kernel))) (by decide +kernel)
theorem dX0_saw_25 : decode cX0_saw 25 = .ok (.invokevirtual 28, 3) := by decide +kernel
theorem dX0_saw_28 : decode cX0_saw 28 = .ok (.ifCond .eq 22, 3) := by decide +kernel
theorem dX0_saw_31 : decode cX0_saw 31 = .ok (.iload_n 2, 1) := by decide +kernel
theorem dX0_saw_32 : decode cX0_saw 32 = .ok (.iload_n 1, 1) := by decide +kernel
theorem dX0_saw_33 : decode cX0_saw 33 = .ok (.if_icmp .ne 6, 3) := by decide +kernel
theorem dX0_saw_39 : decode cX0_saw 39 = .ok (.iinc 2 1, 3) := by decide +kernel
theorem dX0_saw_42 : decode cX0_saw 42 = .ok (.iload 4, 2) := by decide +kernel
theorem dX0_saw_44 : decode cX0_saw 44 = .ok (.aload_n 0, 1) := by decide +kernel
theorem dX0_saw_45 : decode cX0_saw 45 = .ok (.getfield 15, 3) := by decide +kernel
theorem dX0_saw_48 : decode cX0_saw 48 = .ok (.iadd, 1) := by decide +kernel
theorem dX0_saw_49 : decode cX0_saw 49 = .ok (.istore_n 3, 1) := by decide +kernel
theorem dX0_saw_36 : decode cX0_saw 36 = .ok (.iload 4, 2) := by decide +kernel
theorem dX0_saw_38 : decode cX0_saw 38 = .ok (.ireturn, 1) := by decide +kernel
theorem dX0_saw_56 : decode cX0_saw 56 = .ok (.iload_n 1, 1) := by decide +kernel
theorem dX0_saw_57 : decode cX0_saw 57 = .ok (.iconst (-1), 1) := by decide +kernel
theorem dX0_saw_58 : decode cX0_saw 58 = .ok (.if_icmp .ne 7, 3) := by decide +kernel
theorem dX0_saw_65 : decode cX0_saw 65 = .ok (.bipush (-4), 2) := by decide +kernel
theorem dX0_saw_67 : decode cX0_saw 67 = .ok (.ireturn, 1) := by decide +kernel
theorem dX0_saw_61 : decode cX0_saw 61 = .ok (.iload_n 2, 1) := by decide +kernel
theorem dX0_saw_62 : decode cX0_saw 62 = .ok (.goto 5, 3) := by decide +kernel
theorem dX5_append_0 : decode cX5_append 0 = .ok (.aload_n 0, 1) := by decide +kernel
theorem dX5_append_1 : decode cX5_append 1 = .ok (.getfield 15, 3) := by decide +kernel
theorem dX5_append_4 : decode cX5_append 4 = .ok (.ifCond .lt 36, 3) := by decide +kernel
theorem dX5_append_40 : decode cX5_append 40 = .ok (.return_, 1) := by decide +kernel
theorem dX5_append_7 : decode cX5_append 7 = .ok (.aload_n 0, 1) := by decide +kernel
theorem dX5_append_8 : decode cX5_append 8 = .ok (.getfield 15, 3) := by decide +kernel
theorem dX5_append_11 : decode cX5_append 11 = .ok (.aload_n 0, 1) := by decide +kernel
theorem dX5_append_12 : decode cX5_append 12 = .ok (.getfield 9, 3) := by decide +kernel
theorem dX5_append_15 : decode cX5_append 15 = .ok (.arraylength, 1) := by decide +kernel
theorem dX5_append_16 : decode cX5_append 16 = .ok (.if_icmp .ge 24, 3) := by decide +kernel
theorem dX5_append_19 : decode cX5_append 19 = .ok (.aload_n 0, 1) := by decide +kernel
theorem dX5_append_20 : decode cX5_append 20 = .ok (.getfield 9, 3) := by decide +kernel
theorem dX5_append_23 : decode cX5_append 23 = .ok (.aload_n 0, 1) := by decide +kernel
theorem dX5_append_24 : decode cX5_append 24 = .ok (.getfield 15, 3) := by decide +kernel
theorem dX5_append_27 : decode cX5_append 27 = .ok (.iload_n 1, 1) := by decide +kernel
theorem dX5_append_28 : decode cX5_append 28 = .ok (.i2c, 1) := by decide +kernel
theorem dX5_append_29 : decode cX5_append 29 = .ok (.castore, 1) := by decide +kernel
theorem dX5_append_30 : decode cX5_append 30 = .ok (.aload_n 0, 1) := by decide +kernel
theorem dX5_append_31 : decode cX5_append 31 = .ok (.dup, 1) := by decide +kernel
theorem dX5_append_32 : decode cX5_append 32 = .ok (.getfield 15, 3) := by decide +kernel
theorem dX5_append_35 : decode cX5_append 35 = .ok (.iconst 1, 1) := by decide +kernel
theorem dX5_append_36 : decode cX5_append 36 = .ok (.iadd, 1) := by decide +kernel
theorem dX5_append_37 : decode cX5_append 37 = .ok (.putfield 15, 3) := by decide +kernel
theorem dX5_clear_0 : decode cX5_clear 0 = .ok (.aload_n 0, 1) := by decide +kernel
theorem dX5_clear_1 : decode cX5_clear 1 = .ok (.iconst 0, 1) := by decide +kernel
theorem dX5_clear_2 : decode cX5_clear 2 = .ok (.putfield 15, 3) := by decide +kernel
theorem dX5_clear_5 : decode cX5_clear 5 = .ok (.return_, 1) := by decide +kernel
theorem dX5_letterAt_0 : decode cX5_letterAt 0 = .ok (.iload_n 1, 1) := by decide +kernel
theorem dX5_letterAt_1 : decode cX5_letterAt 1 = .ok (.ifCond .lt 20, 3) := by decide +kernel
theorem dX5_letterAt_21 : decode cX5_letterAt 21 = .ok (.iconst 0, 1) := by decide +kernel
theorem dX5_letterAt_22 : decode cX5_letterAt 22 = .ok (.goto 9, 3) := by decide +kernel
theorem dX5_letterAt_31 : decode cX5_letterAt 31 = .ok (.ireturn, 1) := by decide +kernel
theorem dX5_letterAt_4 : decode cX5_letterAt 4 = .ok (.iload_n 1, 1) := by decide +kernel
theorem dX5_letterAt_5 : decode cX5_letterAt 5 = .ok (.aload_n 0, 1) := by decide +kernel
theorem dX5_letterAt_6 : decode cX5_letterAt 6 = .ok (.getfield 15, 3) := by decide +kernel
theorem dX5_letterAt_9 : decode cX5_letterAt 9 = .ok (.if_icmp .ge 12, 3) := by decide +kernel
theorem dX5_letterAt_12 : decode cX5_letterAt 12 = .ok (.iload_n 1, 1) := by decide +kernel
theorem dX5_letterAt_13 : decode cX5_letterAt 13 = .ok (.aload_n 0, 1) := by decide +kernel
theorem dX5_letterAt_14 : decode cX5_letterAt 14 = .ok (.getfield 9, 3) := by decide +kernel
theorem dX5_letterAt_17 : decode cX5_letterAt 17 = .ok (.arraylength, 1) := by decide +kernel
theorem dX5_letterAt_18 : decode cX5_letterAt 18 = .ok (.if_icmp .lt 7, 3) := by decide +kernel
theorem dX5_letterAt_25 : decode cX5_letterAt 25 = .ok (.aload_n 0, 1) := by decide +kernel
theorem dX5_letterAt_26 : decode cX5_letterAt 26 = .ok (.getfield 9, 3) := by decide +kernel
theorem dX5_letterAt_29 : decode cX5_letterAt 29 = .ok (.iload_n 1, 1) := by decide +kernel
theorem dX5_letterAt_30 : decode cX5_letterAt 30 = .ok (.caload, 1) := by decide +kernel
theorem dX5_figureAt_0 : decode cX5_figureAt 0 = .ok (.aload_n 0, 1) := by decide +kernel
theorem dX5_figureAt_1 : decode cX5_figureAt 1 = .ok (.iload_n 1, 1) := by decide +kernel
theorem kw317 : Cond.code yX5_letterAt cX5_letterAt 2 (some .int) ∈ Tg := mem_Tg (List.mem_append_right _ (List.mem_of_getElem? (i := 317) (by decide +kernel))) (by decide +kernel)
theorem dX5_figureAt_2 : decode cX5_figureAt 2 = .ok (.invokevirtual 19, 3) := by decide +kernel
theorem dX5_figureAt_5 : decode cX5_figureAt 5 = .ok (.istore_n 2, 1) := by decide +kernel
theorem dX5_figureAt_6 : decode cX5_figureAt 6 = .ok (.iload_n 2, 1) := by decide +kernel
theorem dX5_figureAt_7 : decode cX5_figureAt 7 = .ok (.bipush 48, 2) := by decide +kernel
theorem dX5_figureAt_9 : decode cX5_figureAt 9 = .ok (.if_icmp .lt 16, 3) := by decide +kernel
theorem dX5_figureAt_25 : decode cX5_figureAt 25 = .ok (.iconst (-1), 1) := by decide +kernel
theorem dX5_figureAt_26 : decode cX5_figureAt 26 = .ok (.ireturn, 1) := by decide +kernel
theorem dX5_figureAt_12 : decode cX5_figureAt 12 = .ok (.iload_n 2, 1) := by decide +kernel
theorem dX5_figureAt_13 : decode cX5_figureAt 13 = .ok (.bipush 57, 2) := by decide +kernel
theorem dX5_figureAt_15 : decode cX5_figureAt 15 = .ok (.if_icmp .gt 10, 3) := by decide +kernel
theorem dX5_figureAt_18 : decode cX5_figureAt 18 = .ok (.iload_n 2, 1) := by decide +kernel
theorem dX5_figureAt_19 : decode cX5_figureAt 19 = .ok (.bipush 48, 2) := by decide +kernel
theorem dX5_figureAt_21 : decode cX5_figureAt 21 = .ok (.isub, 1) := by decide +kernel
theorem dX5_figureAt_22 : decode cX5_figureAt 22 = .ok (.goto 4, 3) := by decide +kernel
theorem dX6_clear_0 : decode cX6_clear 0 = .ok (.aload_n 0, 1) := by decide +kernel
theorem dX6_clear_1 : decode cX6_clear 1 = .ok (.iconst 0, 1) := by decide +kernel
theorem dX6_clear_2 : decode cX6_clear 2 = .ok (.putfield 18, 3) := by decide +kernel
theorem dX6_clear_5 : decode cX6_clear 5 = .ok (.aload_n 0, 1) := by decide +kernel
theorem dX6_clear_6 : decode cX6_clear 6 = .ok (.iconst 2, 1) := by decide +kernel
theorem dX6_clear_7 : decode cX6_clear 7 = .ok (.putfield 22, 3) := by decide +kernel
theorem dX6_clear_10 : decode cX6_clear 10 = .ok (.return_, 1) := by decide +kernel
theorem dX6_copy_0 : decode cX6_copy 0 = .ok (.aload_n 1, 1) := by decide +kernel
theorem dX6_copy_1 : decode cX6_copy 1 = .ok (.ifnull 41, 3) := by decide +kernel
theorem dX6_copy_4 : decode cX6_copy 4 = .ok (.aload_n 1, 1) := by decide +kernel
theorem dX6_copy_5 : decode cX6_copy 5 = .ok (.getfield 9, 3) := by decide +kernel
theorem dX6_copy_8 : decode cX6_copy 8 = .ok (.aload_n 0, 1) := by decide +kernel
theorem dX6_copy_9 : decode cX6_copy 9 = .ok (.getfield 9, 3) := by decide +kernel
theorem kw375 : Cond.code yX9_copyRow cX9_copyRow 2 none ∈ Tg := mem_Tg (List.mem_append_right _ (List.mem_of_getElem? (i := 375) (by decide +kernel))) (by decide +kernel)
theorem dX6_copy_12 : decode cX6_copy 12 = .ok (.invokestatic 25, 3) := by decide +kernel
theorem dX6_copy_15 : decode cX6_copy 15 = .ok (.aload_n 1, 1) := by decide +kernel
theorem dX6_copy_16 : decode cX6_copy 16 = .ok (.getfield 15, 3) := by decide +kernel
theorem dX6_copy_19 : decode cX6_copy 19 = .ok (.aload_n 0, 1) := by decide +kernel
theorem dX6_copy_20 : decode cX6_copy 20 = .ok (.getfield 15, 3) := by decide +kernel
theorem dX6_copy_23 : decode cX6_copy 23 = .ok (.invokestatic 25, 3) := by decide +kernel
theorem dX6_copy_26 : decode cX6_copy 26 = .ok (.aload_n 0, 1) := by decide +kernel
theorem dX6_copy_27 : decode cX6_copy 27 = .ok (.aload_n 1, 1) := by decide +kernel
theorem dX6_copy_28 : decode cX6_copy 28 = .ok (.getfield 18, 3) := by decide +kernel
theorem dX6_copy_31 : decode cX6_copy 31 = .ok (.putfield 18, 3) := by decide +kernel
theorem dX6_copy_34 : decode cX6_copy 34 = .ok (.aload_n 0, 1) := by decide +kernel
theorem dX6_copy_35 : decode cX6_copy 35 = .ok (.aload_n 1, 1) := by decide +kernel
theorem dX6_copy_36 : decode cX6_copy 36 = .ok (.getfield 22, 3) := by decide +kernel
theorem dX6_copy_39 : decode cX6_copy 39 = .ok (.putfield 22, 3) := by decide +kernel
theorem dX6_copy_42 : decode cX6_copy 42 = .ok (.return_, 1) := by decide +kernel
theorem dX6_add_0 : decode cX6_add 0 = .ok (.aload_n 0, 1) := by decide +kernel
theorem dX6_add_1 : decode cX6_add 1 = .ok (.getfield 18, 3) := by decide +kernel
theorem dX6_add_4 : decode cX6_add 4 = .ok (.iconst 5, 1) := by decide +kernel
theorem dX6_add_5 : decode cX6_add 5 = .ok (.if_icmp .ge 37, 3) := by decide +kernel
theorem dX6_add_42 : decode cX6_add 42 = .ok (.return_, 1) := by decide +kernel
theorem dX6_add_8 : decode cX6_add 8 = .ok (.aload_n 0, 1) := by decide +kernel
theorem dX6_add_9 : decode cX6_add 9 = .ok (.getfield 9, 3) := by decide +kernel
theorem dX6_add_12 : decode cX6_add 12 = .ok (.aload_n 0, 1) := by decide +kernel
theorem dX6_add_13 : decode cX6_add 13 = .ok (.getfield 18, 3) := by decide +kernel
theorem dX6_add_16 : decode cX6_add 16 = .ok (.iload_n 1, 1) := by decide +kernel
theorem kw320 : Cond.code yX9_put cX9_put 3 none ∈ Tg := mem_Tg (List.mem_append_right _ (List.mem_of_getElem? (i := 320) (by decide +kernel))) (by decide +kernel)
theorem dX6_add_17 : decode cX6_add 17 = .ok (.invokestatic 29, 3) := by decide +kernel
theorem dX6_add_20 : decode cX6_add 20 = .ok (.aload_n 0, 1) := by decide +kernel
theorem dX6_add_21 : decode cX6_add 21 = .ok (.getfield 15, 3) := by decide +kernel
theorem dX6_add_24 : decode cX6_add 24 = .ok (.aload_n 0, 1) := by decide +kernel
theorem dX6_add_25 : decode cX6_add 25 = .ok (.getfield 18, 3) := by decide +kernel
theorem dX6_add_28 : decode cX6_add 28 = .ok (.iload_n 2, 1) := by decide +kernel
theorem dX6_add_29 : decode cX6_add 29 = .ok (.invokestatic 29, 3) := by decide +kernel
theorem dX6_add_32 : decode cX6_add 32 = .ok (.aload_n 0, 1) := by decide +kernel
theorem dX6_add_33 : decode cX6_add 33 = .ok (.dup, 1) := by decide +kernel
theorem dX6_add_34 : decode cX6_add 34 = .ok (.getfield 18, 3) := by decide +kernel
theorem dX6_add_37 : decode cX6_add 37 = .ok (.iconst 1, 1) := by decide +kernel
theorem dX6_add_38 : decode cX6_add 38 = .ok (.iadd, 1) := by decide +kernel
theorem dX6_add_39 : decode cX6_add 39 = .ok (.putfield 18, 3) := by decide +kernel
theorem dX6_foot_0 : decode cX6_foot 0 = .ok (.iload_n 2, 1) := by decide +kernel
theorem dX6_foot_1 : decode cX6_foot 1 = .ok (.ifCond .ne 10, 3) := by decide +kernel
theorem dX6_foot_11 : decode cX6_foot 11 = .ok (.aload_n 0, 1) := by decide +kernel
theorem dX6_foot_12 : decode cX6_foot 12 = .ok (.getfield 15, 3) := by decide +kernel
theorem dX6_foot_15 : decode cX6_foot 15 = .ok (.iload_n 1, 1) := by decide +kernel
theorem kw332 : Cond.code yX9_at cX9_at 2 (some .int) ∈ Tg := mem_Tg (List.mem_append_right _ (List.mem_of_getElem? (i := 332) (by decide +kernel))) (by decide +kernel)
theorem dX6_foot_16 : decode cX6_foot 16 = .ok (.invokestatic 33, 3) := by decide +kernel
theorem dX6_foot_19 : decode cX6_foot 19 = .ok (.ireturn, 1) := by decide +kernel
theorem dX6_foot_4 : decode cX6_foot 4 = .ok (.aload_n 0, 1) := by decide +kernel
theorem dX6_foot_5 : decode cX6_foot 5 = .ok (.getfield 9, 3) := by decide +kernel
theorem dX6_foot_8 : decode cX6_foot 8 = .ok (.goto 7, 3) := by decide +kernel
theorem dX6_suits_0 : decode cX6_suits 0 = .ok (.aload_n 0, 1) := by decide +kernel
theorem dX6_suits_1 : decode cX6_suits 1 = .ok (.iload_n 1, 1) := by decide +kernel
theorem dX6_suits_2 : decode cX6_suits 2 = .ok (.iload_n 2, 1) := by decide +kernel
theorem kw482 : Cond.code yX6_foot cX6_foot 3 (some .int) ∈ Tg := mem_Tg (List.mem_append_right _ (List.mem_of_getElem? (i := 482) (by decide +kernel))) (by decide +kernel)
theorem dX6_suits_3 : decode cX6_suits 3 = .ok (.invokevirtual 37, 3) := by decide +kernel
theorem dX6_suits_6 : decode cX6_suits 6 = .ok (.aload_n 0, 1) := by decide +kernel
theorem dX6_suits_7 : decode cX6_suits 7 = .ok (.getfield 22, 3) := by decide +kernel
theorem dX6_suits_10 : decode cX6_suits 10 = .ok (.iadd, 1) := by decide +kernel
theorem dX6_suits_11 : decode cX6_suits 11 = .ok (.istore 4, 2) := by decide +kernel
theorem dX6_suits_13 : decode cX6_suits 13 = .ok (.iload_n 3, 1) := by decide +kernel
theorem dX6_suits_14 : decode cX6_suits 14 = .ok (.iload 4, 2) := by decide +kernel
theorem dX6_suits_16 : decode cX6_suits 16 = .ok (.iload 4, 2) := by decide +kernel
theorem dX6_suits_18 : decode cX6_suits 18 = .ok (.iconst 4, 1) := by decide +kernel
theorem dX6_suits_19 : decode cX6_suits 19 = .ok (.iadd, 1) := by decide +kernel
theorem dX6_suits_20 : decode cX6_suits 20 = .ok (.invokestatic 41, 3) := by decide +kernel
theorem dX6_suits_23 : decode cX6_suits 23 = .ok (.ireturn, 1) := by decide +kernel
theorem dX7_add_0 : decode cX7_add 0 = .ok (.aload_n 0, 1) := by decide +kernel
theorem dX7_add_1 : decode cX7_add 1 = .ok (.getfield 21, 3) := by decide +kernel
theorem dX7_add_4 : decode cX7_add 4 = .ok (.bipush 8, 2) := by decide +kernel
theorem dX7_add_6 : decode cX7_add 6 = .ok (.if_icmp .ge 49, 3) := by decide +kernel
theorem dX7_add_55 : decode cX7_add 55 = .ok (.return_, 1) := by decide +kernel
theorem dX7_add_9 : decode cX7_add 9 = .ok (.aload_n 0, 1) := by decide +kernel
theorem dX7_add_10 : decode cX7_add 10 = .ok (.getfield 9, 3) := by decide +kernel
theorem dX7_add_13 : decode cX7_add 13 = .ok (.aload_n 0, 1) := by decide +kernel
theorem dX7_add_14 : decode cX7_add 14 = .ok (.getfield 21, 3) := by decide +kernel
theorem dX7_add_17 : decode cX7_add 17 = .ok (.iload_n 1, 1) := by decide +kernel
theorem dX7_add_18 : decode cX7_add 18 = .ok (.invokestatic 25, 3) := by decide +kernel
theorem dX7_add_21 : decode cX7_add 21 = .ok (.aload_n 0, 1) := by decide +kernel
theorem dX7_add_22 : decode cX7_add 22 = .ok (.getfield 15, 3) := by decide +kernel
theorem dX7_add_25 : decode cX7_add 25 = .ok (.aload_n 0, 1) := by decide +kernel
theorem dX7_add_26 : decode cX7_add 26 = .ok (.getfield 21, 3) := by decide +kernel
theorem dX7_add_29 : decode cX7_add 29 = .ok (.iload_n 2, 1) := by decide +kernel
theorem dX7_add_30 : decode cX7_add 30 = .ok (.invokestatic 25, 3) := by decide +kernel
theorem dX7_add_33 : decode cX7_add 33 = .ok (.aload_n 0, 1) := by decide +kernel
theorem dX7_add_34 : decode cX7_add 34 = .ok (.getfield 18, 3) := by decide +kernel
theorem dX7_add_37 : decode cX7_add 37 = .ok (.aload_n 0, 1) := by decide +kernel
theorem dX7_add_38 : decode cX7_add 38 = .ok (.getfield 21, 3) := by decide +kernel
theorem dX7_add_41 : decode cX7_add 41 = .ok (.iload_n 3, 1) := by decide +kernel
theorem dX7_add_42 : decode cX7_add 42 = .ok (.invokestatic 25, 3) := by decide +kernel
theorem dX7_add_45 : decode cX7_add 45 = .ok (.aload_n 0, 1) := by decide +kernel
theorem dX7_add_46 : decode cX7_add 46 = .ok (.dup, 1) := by decide +kernel
theorem dX7_add_47 : decode cX7_add 47 = .ok (.getfield 21, 3) := by decide +kernel
theorem dX7_add_50 : decode cX7_add 50 = .ok (.iconst 1, 1) := by decide +kernel
theorem dX7_add_51 : decode cX7_add 51 = .ok (.iadd, 1) := by decide +kernel
theorem dX7_add_52 : decode cX7_add 52 = .ok (.putfield 21, 3) := by decide +kernel
theorem dX7_agrees_0 : decode cX7_agrees 0 = .ok (.iconst 0, 1) := by decide +kernel
theorem dX7_agrees_1 : decode cX7_agrees 1 = .ok (.istore_n 3, 1) := by decide +kernel
theorem dX7_agrees_2 : decode cX7_agrees 2 = .ok (.iload_n 3, 1) := by decide +kernel
theorem dX7_agrees_3 : decode cX7_agrees 3 = .ok (.aload_n 0, 1) := by decide +kernel
theorem dX7_agrees_4 : decode cX7_agrees 4 = .ok (.getfield 21, 3) := by decide +kernel
theorem dX7_agrees_7 : decode cX7_agrees 7 = .ok (.if_icmp .ge 55, 3) := by decide +kernel
theorem dX7_agrees_10 : decode cX7_agrees 10 = .ok (.iload_n 2, 1) := by decide +kernel
theorem dX7_agrees_11 : decode cX7_agrees 11 = .ok (.aload_n 0, 1) := by decide +kernel
theorem dX7_agrees_12 : decode cX7_agrees 12 = .ok (.getfield 15, 3) := by decide +kernel
theorem dX7_agrees_15 : decode cX7_agrees 15 = .ok (.iload_n 3, 1) := by decide +kernel
theorem dX7_agrees_16 : decode cX7_agrees 16 = .ok (.invokestatic 33, 3) := by decide +kernel
theorem dX7_agrees_19 : decode cX7_agrees 19 = .ok (.if_icmp .gt 7, 3) := by decide +kernel
theorem dX7_agrees_26 : decode cX7_agrees 26 = .ok (.iconst 0, 1) := by decide +kernel
theorem dX7_agrees_27 : decode cX7_agrees 27 = .ok (.istore 4, 2) := by decide +kernel
theorem dX7_agrees_29 : decode cX7_agrees 29 = .ok (.aload_n 0, 1) := by decide +kernel
theorem dX7_agrees_30 : decode cX7_agrees 30 = .ok (.getfield 9, 3) := by decide +kernel
theorem dX7_agrees_33 : decode cX7_agrees 33 = .ok (.iload_n 3, 1) := by decide +kernel
theorem dX7_agrees_34 : decode cX7_agrees 34 = .ok (.invokestatic 33, 3) := by decide +kernel
theorem dX7_agrees_37 : decode cX7_agrees 37 = .ok (.iload_n 1, 1) := by decide +kernel
theorem dX7_agrees_38 : decode cX7_agrees 38 = .ok (.if_icmp .ne 18, 3) := by decide +kernel
theorem dX7_agrees_56 : decode cX7_agrees 56 = .ok (.iinc 3 1, 3) := by decide +kernel
theorem dX7_agrees_59 : decode cX7_agrees 59 = .ok (.goto (-57), 3) := by decide +kernel
theorem dX7_agrees_41 : decode cX7_agrees 41 = .ok (.aload_n 0, 1) := by decide +kernel
theorem dX7_agrees_42 : decode cX7_agrees 42 = .ok (.getfield 18, 3) := by decide +kernel
theorem dX7_agrees_45 : decode cX7_agrees 45 = .ok (.iload_n 3, 1) := by decide +kernel
theorem dX7_agrees_46 : decode cX7_agrees 46 = .ok (.invokestatic 33, 3) := by decide +kernel
theorem dX7_agrees_49 : decode cX7_agrees 49 = .ok (.iload 4, 2) := by decide +kernel
theorem dX7_agrees_51 : decode cX7_agrees 51 = .ok (.if_icmp .eq 5, 3) := by decide +kernel
theorem dX7_agrees_54 : decode cX7_agrees 54 = .ok (.iconst 0, 1) := by decide +kernel
theorem dX7_agrees_55 : decode cX7_agrees 55 = .ok (.ireturn, 1) := by decide +kernel
theorem dX7_agrees_22 : decode cX7_agrees 22 = .ok (.iconst 1, 1) := by decide +kernel
theorem dX7_agrees_23 : decode cX7_agrees 23 = .ok (.goto 4, 3) := by decide +kernel
theorem dX7_agrees_62 : decode cX7_agrees 62 = .ok (.iconst 1, 1) := by decide +kernel
theorem dX7_agrees_63 : decode cX7_agrees 63 = .ok (.ireturn, 1) := by decide +kernel
theorem dX7_thicknesses_0 : decode cX7_thicknesses 0 = .ok (.iconst 0, 1) := by decide +kernel
theorem dX7_thicknesses_1 : decode cX7_thicknesses 1 = .ok (.istore_n 2, 1) := by decide +kernel
theorem dX7_thicknesses_2 : decode cX7_thicknesses 2 = .ok (.iconst 1, 1) := by decide +kernel
theorem dX7_thicknesses_3 : decode cX7_thicknesses 3 = .ok (.istore_n 3, 1) := by decide +kernel
theorem dX7_thicknesses_4 : decode cX7_thicknesses 4 = .ok (.iload_n 3, 1) := by decide +kernel
theorem dX7_thicknesses_5 : decode cX7_thicknesses 5 = .ok (.bipush 9, 2) := by decide +kernel
theorem dX7_thicknesses_7 : decode cX7_thicknesses 7 = .ok (.if_icmp .gt 24, 3) := by decide +kernel
theorem dX7_thicknesses_10 : decode cX7_thicknesses 10 = .ok (.aload_n 0, 1) := by decide +kernel
theorem dX7_thicknesses_11 : decode cX7_thicknesses 11 = .ok (.iload_n 1, 1) := by decide +kernel
theorem dX7_thicknesses_12 : decode cX7_thicknesses 12 = .ok (.iload_n 3, 1) := by decide +kernel
theorem kw704 : Cond.code yX7_agrees cX7_agrees 5 (some .boolean) ∈ Tg := mem_Tg (List.mem_append_right _ (List.mem_of_getElem? (i := 704) (by decide +kernel))) (by decide +kernel)
theorem dX7_thicknesses_13 : decode cX7_thicknesses 13 = .ok (.invokevirtual 29, 3) := by decide +kernel
theorem dX7_thicknesses_16 : decode cX7_thicknesses 16 = .ok (.ifCond .eq 9, 3) := by decide +kernel
theorem dX7_thicknesses_25 : decode cX7_thicknesses 25 = .ok (.iinc 3 1, 3) := by decide +kernel
theorem dX7_thicknesses_28 : decode cX7_thicknesses 28 = .ok (.goto (-24), 3) := by decide +kernel
theorem dX7_thicknesses_19 : decode cX7_thicknesses 19 = .ok (.iload_n 2, 1) := by decide +kernel
theorem dX7_thicknesses_20 : decode cX7_thicknesses 20 = .ok (.iconst 1, 1) := by decide +kernel
theorem dX7_thicknesses_21 : decode cX7_thicknesses 21 = .ok (.iload_n 3, 1) := by decide +kernel
theorem dX7_thicknesses_22 : decode cX7_thicknesses 22 = .ok (.ishl, 1) := by decide +kernel
theorem dX7_thicknesses_23 : decode cX7_thicknesses 23 = .ok (.ior, 1) := by decide +kernel
theorem dX7_thicknesses_24 : decode cX7_thicknesses 24 = .ok (.istore_n 2, 1) := by decide +kernel
theorem dX7_thicknesses_31 : decode cX7_thicknesses 31 = .ok (.iload_n 2, 1) := by decide +kernel
theorem dX7_thicknesses_32 : decode cX7_thicknesses 32 = .ok (.ireturn, 1) := by decide +kernel
theorem dX4_clear_0 : decode cX4_clear 0 = .ok (.aload_n 0, 1) := by decide +kernel
theorem dX4_clear_1 : decode cX4_clear 1 = .ok (.iconst 0, 1) := by decide +kernel
theorem dX4_clear_2 : decode cX4_clear 2 = .ok (.putfield 15, 3) := by decide +kernel
theorem dX4_clear_5 : decode cX4_clear 5 = .ok (.aload_n 0, 1) := by decide +kernel
theorem dX4_clear_6 : decode cX4_clear 6 = .ok (.iconst 0, 1) := by decide +kernel
theorem dX4_clear_7 : decode cX4_clear 7 = .ok (.putfield 19, 3) := by decide +kernel
theorem dX4_clear_10 : decode cX4_clear 10 = .ok (.return_, 1) := by decide +kernel
theorem dX4_copy_0 : decode cX4_copy 0 = .ok (.aload_n 1, 1) := by decide +kernel
theorem dX4_copy_1 : decode cX4_copy 1 = .ok (.ifnull 30, 3) := by decide +kernel
theorem dX4_copy_4 : decode cX4_copy 4 = .ok (.aload_n 1, 1) := by decide +kernel
theorem dX4_copy_5 : decode cX4_copy 5 = .ok (.getfield 9, 3) := by decide +kernel
theorem dX4_copy_8 : decode cX4_copy 8 = .ok (.aload_n 0, 1) := by decide +kernel
theorem dX4_copy_9 : decode cX4_copy 9 = .ok (.getfield 9, 3) := by decide +kernel
theorem dX4_copy_12 : decode cX4_copy 12 = .ok (.invokestatic 22, 3) := by decide +kernel
theorem dX4_copy_15 : decode cX4_copy 15 = .ok (.aload_n 0, 1) := by decide +kernel
theorem dX4_copy_16 : decode cX4_copy 16 = .ok (.aload_n 1, 1) := by decide +kernel
theorem dX4_copy_17 : decode cX4_copy 17 = .ok (.getfield 15, 3) := by decide +kernel
theorem dX4_copy_20 : decode cX4_copy 20 = .ok (.putfield 15, 3) := by decide +kernel
theorem dX4_copy_23 : decode cX4_copy 23 = .ok (.aload_n 0, 1) := by decide +kernel
theorem dX4_copy_24 : decode cX4_copy 24 = .ok (.aload_n 1, 1) := by decide +kernel
theorem dX4_copy_25 : decode cX4_copy 25 = .ok (.getfield 19, 3) := by decide +kernel
theorem dX4_copy_28 : decode cX4_copy 28 = .ok (.putfield 19, 3) := by decide +kernel
theorem dX4_copy_31 : decode cX4_copy 31 = .ok (.return_, 1) := by decide +kernel
theorem dX4_holds_0 : decode cX4_holds 0 = .ok (.iload_n 1, 1) := by decide +kernel
theorem dX4_holds_1 : decode cX4_holds 1 = .ok (.iconst 0, 1) := by decide +kernel
theorem dX4_holds_2 : decode cX4_holds 2 = .ok (.aload_n 0, 1) := by decide +kernel
theorem dX4_holds_3 : decode cX4_holds 3 = .ok (.getfield 15, 3) := by decide +kernel
theorem dX4_holds_6 : decode cX4_holds 6 = .ok (.iconst 1, 1) := by decide +kernel
theorem dX4_holds_7 : decode cX4_holds 7 = .ok (.isub, 1) := by decide +kernel
theorem dX4_holds_8 : decode cX4_holds 8 = .ok (.invokestatic 26, 3) := by decide +kernel
theorem dX4_holds_11 : decode cX4_holds 11 = .ok (.ireturn, 1) := by decide +kernel
theorem dX4_cell_0 : decode cX4_cell 0 = .ok (.iload_n 1, 1) := by decide +kernel
theorem dX4_cell_1 : decode cX4_cell 1 = .ok (.ifCond .lt 20, 3) := by decide +kernel
theorem dX4_cell_21 : decode cX4_cell 21 = .ok (.iconst 0, 1) := by decide +kernel
theorem dX4_cell_22 : decode cX4_cell 22 = .ok (.ireturn, 1) := by decide +kernel
theorem dX4_cell_4 : decode cX4_cell 4 = .ok (.iload_n 1, 1) := by decide +kernel
theorem dX4_cell_5 : decode cX4_cell 5 = .ok (.aload_n 0, 1) := by decide +kernel
theorem dX4_cell_6 : decode cX4_cell 6 = .ok (.getfield 15, 3) := by decide +kernel
theorem dX4_cell_9 : decode cX4_cell 9 = .ok (.if_icmp .ge 12, 3) := by decide +kernel
theorem dX4_cell_12 : decode cX4_cell 12 = .ok (.iload_n 2, 1) := by decide +kernel
theorem dX4_cell_13 : decode cX4_cell 13 = .ok (.ifCond .lt 8, 3) := by decide +kernel
theorem dX4_cell_16 : decode cX4_cell 16 = .ok (.iload_n 2, 1) := by decide +kernel
theorem dX4_cell_17 : decode cX4_cell 17 = .ok (.iconst 5, 1) := by decide +kernel
theorem dX4_cell_18 : decode cX4_cell 18 = .ok (.if_icmp .lt 5, 3) := by decide +kernel
theorem dX4_cell_23 : decode cX4_cell 23 = .ok (.iload_n 1, 1) := by decide +kernel
theorem dX4_cell_24 : decode cX4_cell 24 = .ok (.iconst 5, 1) := by decide +kernel
theorem dX4_cell_25 : decode cX4_cell 25 = .ok (.imul, 1) := by decide +kernel
theorem dX4_cell_26 : decode cX4_cell 26 = .ok (.iload_n 2, 1) := by decide +kernel
theorem dX4_cell_27 : decode cX4_cell 27 = .ok (.iadd, 1) := by decide +kernel
theorem dX4_cell_28 : decode cX4_cell 28 = .ok (.istore_n 3, 1) := by decide +kernel
theorem dX4_cell_29 : decode cX4_cell 29 = .ok (.iload_n 3, 1) := by decide +kernel
theorem dX4_cell_30 : decode cX4_cell 30 = .ok (.aload_n 0, 1) := by decide +kernel
theorem dX4_cell_31 : decode cX4_cell 31 = .ok (.getfield 9, 3) := by decide +kernel
theorem dX4_cell_34 : decode cX4_cell 34 = .ok (.arraylength, 1) := by decide +kernel
theorem dX4_cell_35 : decode cX4_cell 35 = .ok (.if_icmp .ge 12, 3) := by decide +kernel
theorem dX4_cell_47 : decode cX4_cell 47 = .ok (.iconst 0, 1) := by decide +kernel
theorem dX4_cell_48 : decode cX4_cell 48 = .ok (.ireturn, 1) := by decide +kernel
theorem dX4_cell_38 : decode cX4_cell 38 = .ok (.aload_n 0, 1) := by decide +kernel
theorem dX4_cell_39 : decode cX4_cell 39 = .ok (.getfield 9, 3) := by decide +kernel
theorem dX4_cell_42 : decode cX4_cell 42 = .ok (.iload_n 3, 1) := by decide +kernel
theorem dX4_cell_43 : decode cX4_cell 43 = .ok (.iaload, 1) := by decide +kernel
theorem dX4_cell_44 : decode cX4_cell 44 = .ok (.goto 4, 3) := by decide +kernel
theorem dX4_pierce_0 : decode cX4_pierce 0 = .ok (.aload_n 0, 1) := by decide +kernel
theorem dX4_pierce_1 : decode cX4_pierce 1 = .ok (.iload_n 1, 1) := by decide +kernel
theorem kw454 : Cond.code yX4_holds cX4_holds 2 (some .boolean) ∈ Tg := mem_Tg (List.mem_append_right _ (List.mem_of_getElem? (i := 454) (by decide +kernel))) (by decide +kernel)
theorem dX4_pierce_2 : decode cX4_pierce 2 = .ok (.invokevirtual 30, 3) := by decide +kernel
theorem dX4_pierce_5 : decode cX4_pierce 5 = .ok (.ifCond .eq 16, 3) := by decide +kernel
theorem dX4_pierce_21 : decode cX4_pierce 21 = .ok (.return_, 1) := by decide +kernel
theorem dX4_pierce_8 : decode cX4_pierce 8 = .ok (.aload_n 0, 1) := by decide +kernel
theorem dX4_pierce_9 : decode cX4_pierce 9 = .ok (.getfield 9, 3) := by decide +kernel
theorem dX4_pierce_12 : decode cX4_pierce 12 = .ok (.iload_n 1, 1) := by decide +kernel
theorem dX4_pierce_13 : decode cX4_pierce 13 = .ok (.iconst 5, 1) := by decide +kernel
theorem dX4_pierce_14 : decode cX4_pierce 14 = .ok (.imul, 1) := by decide +kernel
theorem dX4_pierce_15 : decode cX4_pierce 15 = .ok (.iconst 0, 1) := by decide +kernel
theorem dX4_pierce_16 : decode cX4_pierce 16 = .ok (.iadd, 1) := by decide +kernel
theorem dX4_pierce_17 : decode cX4_pierce 17 = .ok (.iconst 2, 1) := by decide +kernel
theorem dX4_pierce_18 : decode cX4_pierce 18 = .ok (.invokestatic 34, 3) := by decide +kernel
theorem dX4_isOfSide_0 : decode cX4_isOfSide 0 = .ok (.aload_n 0, 1) := by decide +kernel
theorem dX4_isOfSide_1 : decode cX4_isOfSide 1 = .ok (.iload_n 1, 1) := by decide +kernel
theorem dX4_isOfSide_2 : decode cX4_isOfSide 2 = .ok (.invokevirtual 30, 3) := by decide +kernel
theorem dX4_isOfSide_5 : decode cX4_isOfSide 5 = .ok (.ifCond .eq 17, 3) := by decide +kernel
theorem dX4_isOfSide_22 : decode cX4_isOfSide 22 = .ok (.iconst 0, 1) := by decide +kernel
theorem dX4_isOfSide_23 : decode cX4_isOfSide 23 = .ok (.ireturn, 1) := by decide +kernel
theorem dX4_isOfSide_8 : decode cX4_isOfSide 8 = .ok (.aload_n 0, 1) := by decide +kernel
theorem dX4_isOfSide_9 : decode cX4_isOfSide 9 = .ok (.iload_n 1, 1) := by decide +kernel
theorem dX4_isOfSide_10 : decode cX4_isOfSide 10 = .ok (.iconst 1, 1) := by decide +kernel
theorem kw463 : Cond.code yX4_cell cX4_cell 4 (some .int) ∈ Tg := mem_Tg (List.mem_append_right _ (List.mem_of_getElem? (i := 463) (by decide +kernel))) (by decide +kernel)
theorem dX4_isOfSide_11 : decode cX4_isOfSide 11 = .ok (.invokevirtual 38, 3) := by decide +kernel
theorem dX4_isOfSide_14 : decode cX4_isOfSide 14 = .ok (.iload_n 2, 1) := by decide +kernel
theorem dX4_isOfSide_15 : decode cX4_isOfSide 15 = .ok (.if_icmp .ne 7, 3) := by decide +kernel
theorem dX4_isOfSide_18 : decode cX4_isOfSide 18 = .ok (.iconst 1, 1) := by decide +kernel
theorem dX4_isOfSide_19 : decode cX4_isOfSide 19 = .ok (.goto 4, 3) := by decide +kernel
theorem dX4_ofSide_0 : decode cX4_ofSide 0 = .ok (.iconst 0, 1) := by decide +kernel
theorem dX4_ofSide_1 : decode cX4_ofSide 1 = .ok (.istore_n 2, 1) := by decide +kernel
theorem dX4_ofSide_2 : decode cX4_ofSide 2 = .ok (.iconst 0, 1) := by decide +kernel
theorem dX4_ofSide_3 : decode cX4_ofSide 3 = .ok (.istore_n 3, 1) := by decide +kernel
theorem dX4_ofSide_4 : decode cX4_ofSide 4 = .ok (.iload_n 3, 1) := by decide +kernel
theorem dX4_ofSide_5 : decode cX4_ofSide 5 = .ok (.aload_n 0, 1) := by decide +kernel
theorem dX4_ofSide_6 : decode cX4_ofSide 6 = .ok (.getfield 15, 3) := by decide +kernel
theorem dX4_ofSide_9 : decode cX4_ofSide 9 = .ok (.if_icmp .ge 24, 3) := by decide +kernel
theorem dX4_ofSide_12 : decode cX4_ofSide 12 = .ok (.aload_n 0, 1) := by decide +kernel
theorem dX4_ofSide_13 : decode cX4_ofSide 13 = .ok (.iload_n 3, 1) := by decide +kernel
theorem dX4_ofSide_14 : decode cX4_ofSide 14 = .ok (.iload_n 1, 1) := by decide +kernel
theorem kw518 : Cond.code yX4_isOfSide cX4_isOfSide 3 (some .boolean) ∈ Tg := mem_Tg (List.mem_append_right _ (List.mem_of_getElem? (i := 518) (by decide +kernel))) (by decide +kernel)
theorem dX4_ofSide_15 : decode cX4_ofSide 15 = .ok (.invokevirtual 42, 3) := by decide +kernel
theorem dX4_ofSide_18 : decode cX4_ofSide 18 = .ok (.ifCond .eq 9, 3) := by decide +kernel
theorem dX4_ofSide_27 : decode cX4_ofSide 27 = .ok (.iinc 3 1, 3) := by decide +kernel
theorem dX4_ofSide_30 : decode cX4_ofSide 30 = .ok (.goto (-26), 3) := by decide +kernel
theorem dX4_ofSide_21 : decode cX4_ofSide 21 = .ok (.iload_n 2, 1) := by decide +kernel
theorem dX4_ofSide_22 : decode cX4_ofSide 22 = .ok (.iconst 1, 1) := by decide +kernel
theorem dX4_ofSide_23 : decode cX4_ofSide 23 = .ok (.iload_n 3, 1) := by decide +kernel
theorem dX4_ofSide_24 : decode cX4_ofSide 24 = .ok (.ishl, 1) := by decide +kernel
theorem dX4_ofSide_25 : decode cX4_ofSide 25 = .ok (.ior, 1) := by decide +kernel
theorem dX4_ofSide_26 : decode cX4_ofSide 26 = .ok (.istore_n 2, 1) := by decide +kernel
theorem dX4_ofSide_33 : decode cX4_ofSide 33 = .ok (.iload_n 2, 1) := by decide +kernel
theorem dX4_ofSide_34 : decode cX4_ofSide 34 = .ok (.ireturn, 1) := by decide +kernel
theorem dX4_holedOnes_0 : decode cX4_holedOnes 0 = .ok (.iconst 0, 1) := by decide +kernel
theorem dX4_holedOnes_1 : decode cX4_holedOnes 1 = .ok (.istore_n 1, 1) := by decide +kernel
theorem dX4_holedOnes_2 : decode cX4_holedOnes 2 = .ok (.iconst 0, 1) := by decide +kernel
theorem dX4_holedOnes_3 : decode cX4_holedOnes 3 = .ok (.istore_n 2, 1) := by decide +kernel
theorem dX4_holedOnes_4 : decode cX4_holedOnes 4 = .ok (.iload_n 2, 1) := by decide +kernel
theorem dX4_holedOnes_5 : decode cX4_holedOnes 5 = .ok (.aload_n 0, 1) := by decide +kernel
theorem dX4_holedOnes_6 : decode cX4_holedOnes 6 = .ok (.getfield 15, 3) := by decide +kernel
theorem dX4_holedOnes_9 : decode cX4_holedOnes 9 = .ok (.if_icmp .ge 22, 3) := by decide +kernel
theorem dX4_holedOnes_12 : decode cX4_holedOnes 12 = .ok (.aload_n 0, 1) := by decide +kernel
theorem dX4_holedOnes_13 : decode cX4_holedOnes 13 = .ok (.iload_n 2, 1) := by decide +kernel
theorem dX4_holedOnes_14 : decode cX4_holedOnes 14 = .ok (.iconst 0, 1) := by decide +kernel
theorem dX4_holedOnes_15 : decode cX4_holedOnes 15 = .ok (.invokevirtual 38, 3) := by decide +kernel
theorem dX4_holedOnes_18 : decode cX4_holedOnes 18 = .ok (.iconst 2, 1) := by decide +kernel
theorem dX4_holedOnes_19 : decode cX4_holedOnes 19 = .ok (.if_icmp .ne 6, 3) := by decide +kernel
theorem dX4_holedOnes_25 : decode cX4_holedOnes 25 = .ok (.iinc 2 1, 3) := by decide +kernel
theorem dX4_holedOnes_28 : decode cX4_holedOnes 28 = .ok (.goto (-24), 3) := by decide +kernel
theorem dX4_holedOnes_22 : decode cX4_holedOnes 22 = .ok (.iinc 1 1, 3) := by decide +kernel
theorem dX4_holedOnes_31 : decode cX4_holedOnes 31 = .ok (.iload_n 1, 1) := by decide +kernel
theorem dX4_holedOnes_32 : decode cX4_holedOnes 32 = .ok (.ireturn, 1) := by decide +kernel
theorem dX4_add_0 : decode cX4_add 0 = .ok (.aload_n 0, 1) := by decide +kernel
theorem dX4_add_1 : decode cX4_add 1 = .ok (.getfield 15, 3) := by decide +kernel
theorem dX4_add_4 : decode cX4_add 4 = .ok (.bipush 10, 2) := by decide +kernel
theorem dX4_add_6 : decode cX4_add 6 = .ok (.if_icmp .ge 85, 3) := by decide +kernel
theorem dX4_add_91 : decode cX4_add 91 = .ok (.return_, 1) := by decide +kernel
theorem dX4_add_9 : decode cX4_add 9 = .ok (.aload_n 0, 1) := by decide +kernel
theorem dX4_add_10 : decode cX4_add 10 = .ok (.getfield 15, 3) := by decide +kernel
theorem dX4_add_13 : decode cX4_add 13 = .ok (.iconst 5, 1) := by decide +kernel
theorem dX4_add_14 : decode cX4_add 14 = .ok (.imul, 1) := by decide +kernel
theorem dX4_add_15 : decode cX4_add 15 = .ok (.istore 5, 2) := by decide +kernel
theorem dX4_add_17 : decode cX4_add 17 = .ok (.aload_n 0, 1) := by decide +kernel
theorem dX4_add_18 : decode cX4_add 18 = .ok (.getfield 9, 3) := by decide +kernel
theorem dX4_add_21 : decode cX4_add 21 = .ok (.iload 5, 2) := by decide +kernel
theorem dX4_add_23 : decode cX4_add 23 = .ok (.iconst 0, 1) := by decide +kernel
theorem dX4_add_24 : decode cX4_add 24 = .ok (.iadd, 1) := by decide +kernel
theorem dX4_add_25 : decode cX4_add 25 = .ok (.iload_n 1, 1) := by decide +kernel
theorem dX4_add_26 : decode cX4_add 26 = .ok (.invokestatic 34, 3) := by decide +kernel
theorem dX4_add_29 : decode cX4_add 29 = .ok (.aload_n 0, 1) := by decide +kernel
theorem dX4_add_30 : decode cX4_add 30 = .ok (.getfield 9, 3) := by decide +kernel
theorem dX4_add_33 : decode cX4_add 33 = .ok (.iload 5, 2) := by decide +kernel
theorem dX4_add_35 : decode cX4_add 35 = .ok (.iconst 1, 1) := by decide +kernel
theorem dX4_add_36 : decode cX4_add 36 = .ok (.iadd, 1) := by decide +kernel
theorem dX4_add_37 : decode cX4_add 37 = .ok (.iload_n 2, 1) := by decide +kernel
theorem dX4_add_38 : decode cX4_add 38 = .ok (.invokestatic 34, 3) := by decide +kernel
theorem dX4_add_41 : decode cX4_add 41 = .ok (.aload_n 0, 1) := by decide +kernel
theorem dX4_add_42 : decode cX4_add 42 = .ok (.getfield 9, 3) := by decide +kernel
theorem dX4_add_45 : decode cX4_add 45 = .ok (.iload 5, 2) := by decide +kernel
theorem dX4_add_47 : decode cX4_add 47 = .ok (.iconst 2, 1) := by decide +kernel
theorem dX4_add_48 : decode cX4_add 48 = .ok (.iadd, 1) := by decide +kernel
theorem dX4_add_49 : decode cX4_add 49 = .ok (.iload_n 3, 1) := by decide +kernel
theorem dX4_add_50 : decode cX4_add 50 = .ok (.invokestatic 34, 3) := by decide +kernel
theorem dX4_add_53 : decode cX4_add 53 = .ok (.aload_n 0, 1) := by decide +kernel
theorem dX4_add_54 : decode cX4_add 54 = .ok (.getfield 9, 3) := by decide +kernel
theorem dX4_add_57 : decode cX4_add 57 = .ok (.iload 5, 2) := by decide +kernel
theorem dX4_add_59 : decode cX4_add 59 = .ok (.iconst 3, 1) := by decide +kernel
theorem dX4_add_60 : decode cX4_add 60 = .ok (.iadd, 1) := by decide +kernel
theorem dX4_add_61 : decode cX4_add 61 = .ok (.iload 4, 2) := by decide +kernel
theorem dX4_add_63 : decode cX4_add 63 = .ok (.invokestatic 34, 3) := by decide +kernel
theorem dX4_add_66 : decode cX4_add 66 = .ok (.aload_n 0, 1) := by decide +kernel
theorem dX4_add_67 : decode cX4_add 67 = .ok (.getfield 9, 3) := by decide +kernel
theorem dX4_add_70 : decode cX4_add 70 = .ok (.iload 5, 2) := by decide +kernel
theorem dX4_add_72 : decode cX4_add 72 = .ok (.iconst 4, 1) := by decide +kernel
theorem dX4_add_73 : decode cX4_add 73 = .ok (.iadd, 1) := by decide +kernel
theorem dX4_add_74 : decode cX4_add 74 = .ok (.aload_n 0, 1) := by decide +kernel
theorem dX4_add_75 : decode cX4_add 75 = .ok (.getfield 19, 3) := by decide +kernel
theorem dX4_add_78 : decode cX4_add 78 = .ok (.invokestatic 34, 3) := by decide +kernel
theorem dX4_add_81 : decode cX4_add 81 = .ok (.aload_n 0, 1) := by decide +kernel
theorem dX4_add_82 : decode cX4_add 82 = .ok (.dup, 1) := by decide +kernel
theorem dX4_add_83 : decode cX4_add 83 = .ok (.getfield 15, 3) := by decide +kernel
theorem dX4_add_86 : decode cX4_add 86 = .ok (.iconst 1, 1) := by decide +kernel
theorem dX4_add_87 : decode cX4_add 87 = .ok (.iadd, 1) := by decide +kernel
theorem dX4_add_88 : decode cX4_add 88 = .ok (.putfield 15, 3) := by decide +kernel
theorem dX4_removeOne_0 : decode cX4_removeOne 0 = .ok (.aload_n 0, 1) := by decide +kernel
theorem dX4_removeOne_1 : decode cX4_removeOne 1 = .ok (.iload_n 1, 1) := by decide +kernel
theorem dX4_removeOne_2 : decode cX4_removeOne 2 = .ok (.invokevirtual 30, 3) := by decide +kernel
theorem dX4_removeOne_5 : decode cX4_removeOne 5 = .ok (.ifCond .eq 53, 3) := by decide +kernel
theorem dX4_removeOne_58 : decode cX4_removeOne 58 = .ok (.return_, 1) := by decide +kernel
theorem dX4_removeOne_8 : decode cX4_removeOne 8 = .ok (.iload_n 1, 1) := by decide +kernel
theorem dX4_removeOne_9 : decode cX4_removeOne 9 = .ok (.iconst 5, 1) := by decide +kernel
theorem dX4_removeOne_10 : decode cX4_removeOne 10 = .ok (.imul, 1) := by decide +kernel
theorem dX4_removeOne_11 : decode cX4_removeOne 11 = .ok (.istore_n 2, 1) := by decide +kernel
theorem dX4_removeOne_12 : decode cX4_removeOne 12 = .ok (.iload_n 2, 1) := by decide +kernel
theorem dX4_removeOne_13 : decode cX4_removeOne 13 = .ok (.aload_n 0, 1) := by decide +kernel
theorem dX4_removeOne_14 : decode cX4_removeOne 14 = .ok (.getfield 15, 3) := by decide +kernel
theorem dX4_removeOne_17 : decode cX4_removeOne 17 = .ok (.iconst 1, 1) := by decide +kernel
theorem dX4_removeOne_18 : decode cX4_removeOne 18 = .ok (.isub, 1) := by decide +kernel
theorem dX4_removeOne_19 : decode cX4_removeOne 19 = .ok (.iconst 5, 1) := by decide +kernel
theorem dX4_removeOne_20 : decode cX4_removeOne 20 = .ok (.imul, 1) := by decide +kernel
theorem dX4_removeOne_21 : decode cX4_removeOne 21 = .ok (.if_icmp .ge 27, 3) := by decide +kernel
theorem dX4_removeOne_24 : decode cX4_removeOne 24 = .ok (.aload_n 0, 1) := by decide +kernel
theorem dX4_removeOne_25 : decode cX4_removeOne 25 = .ok (.getfield 9, 3) := by decide +kernel
theorem dX4_removeOne_28 : decode cX4_removeOne 28 = .ok (.iload_n 2, 1) := by decide +kernel
theorem dX4_removeOne_29 : decode cX4_removeOne 29 = .ok (.aload_n 0, 1) := by decide +kernel
theorem dX4_removeOne_30 : decode cX4_removeOne 30 = .ok (.getfield 9, 3) := by decide +kernel
theorem dX4_removeOne_33 : decode cX4_removeOne 33 = .ok (.iload_n 2, 1) := by decide +kernel
theorem dX4_removeOne_34 : decode cX4_removeOne 34 = .ok (.iconst 5, 1) := by decide +kernel
theorem dX4_removeOne_35 : decode cX4_removeOne 35 = .ok (.iadd, 1) := by decide +kernel
theorem dX4_removeOne_36 : decode cX4_removeOne 36 = .ok (.invokestatic 58, 3) := by decide +kernel
theorem dX4_removeOne_39 : decode cX4_removeOne 39 = .ok (.invokestatic 34, 3) := by decide +kernel
theorem dX4_removeOne_42 : decode cX4_removeOne 42 = .ok (.iinc 2 1, 3) := by decide +kernel
theorem dX4_removeOne_45 : decode cX4_removeOne 45 = .ok (.goto (-33), 3) := by decide +kernel
theorem dX4_removeOne_48 : decode cX4_removeOne 48 = .ok (.aload_n 0, 1) := by decide +kernel
theorem dX4_removeOne_49 : decode cX4_removeOne 49 = .ok (.dup, 1) := by decide +kernel
theorem dX4_removeOne_50 : decode cX4_removeOne 50 = .ok (.getfield 15, 3) := by decide +kernel
theorem dX4_removeOne_53 : decode cX4_removeOne 53 = .ok (.iconst 1, 1) := by decide +kernel
theorem dX4_removeOne_54 : decode cX4_removeOne 54 = .ok (.isub, 1) := by decide +kernel
theorem dX4_removeOne_55 : decode cX4_removeOne 55 = .ok (.putfield 15, 3) := by decide +kernel
theorem dX4_removeTwo_0 : decode cX4_removeTwo 0 = .ok (.aload_n 0, 1) := by decide +kernel
theorem dX4_removeTwo_1 : decode cX4_removeTwo 1 = .ok (.iload_n 1, 1) := by decide +kernel
theorem dX4_removeTwo_2 : decode cX4_removeTwo 2 = .ok (.iload_n 2, 1) := by decide +kernel
theorem dX4_removeTwo_3 : decode cX4_removeTwo 3 = .ok (.invokestatic 46, 3) := by decide +kernel
theorem kw532 : Cond.code yX4_removeOne cX4_removeOne 3 none ∈ Tg := mem_Tg (List.mem_append_right _ (List.mem_of_getElem? (i := 532) (by decide +kernel))) (by decide +kernel)
theorem dX4_removeTwo_6 : decode cX4_removeTwo 6 = .ok (.invokevirtual 51, 3) := by decide +kernel
theorem dX4_removeTwo_9 : decode cX4_removeTwo 9 = .ok (.aload_n 0, 1) := by decide +kernel
theorem dX4_removeTwo_10 : decode cX4_removeTwo 10 = .ok (.iload_n 1, 1) := by decide +kernel
theorem dX4_removeTwo_11 : decode cX4_removeTwo 11 = .ok (.iload_n 2, 1) := by decide +kernel
theorem dX4_removeTwo_12 : decode cX4_removeTwo 12 = .ok (.invokestatic 55, 3) := by decide +kernel
theorem dX4_removeTwo_15 : decode cX4_removeTwo 15 = .ok (.invokevirtual 51, 3) := by decide +kernel
theorem dX4_removeTwo_18 : decode cX4_removeTwo 18 = .ok (.return_, 1) := by decide +kernel
theorem dX4_driedBy_0 : decode cX4_driedBy 0 = .ok (.aload_n 0, 1) := by decide +kernel
theorem dX4_driedBy_1 : decode cX4_driedBy 1 = .ok (.iload_n 1, 1) := by decide +kernel
theorem dX4_driedBy_2 : decode cX4_driedBy 2 = .ok (.iconst 0, 1) := by decide +kernel
theorem dX4_driedBy_3 : decode cX4_driedBy 3 = .ok (.invokevirtual 38, 3) := by decide +kernel
theorem dX4_driedBy_6 : decode cX4_driedBy 6 = .ok (.iconst 1, 1) := by decide +kernel
theorem dX4_driedBy_7 : decode cX4_driedBy 7 = .ok (.if_icmp .ne 23, 3) := by decide +kernel
theorem dX4_driedBy_30 : decode cX4_driedBy 30 = .ok (.iconst 0, 1) := by decide +kernel
theorem dX4_driedBy_31 : decode cX4_driedBy 31 = .ok (.ireturn, 1) := by decide +kernel
theorem dX4_driedBy_10 : decode cX4_driedBy 10 = .ok (.bipush 30, 2) := by decide +kernel
theorem dX4_driedBy_12 : decode cX4_driedBy 12 = .ok (.iconst 0, 1) := by decide +kernel
theorem dX4_driedBy_13 : decode cX4_driedBy 13 = .ok (.iload_n 2, 1) := by decide +kernel
theorem dX4_driedBy_14 : decode cX4_driedBy 14 = .ok (.aload_n 0, 1) := by decide +kernel
theorem dX4_driedBy_15 : decode cX4_driedBy 15 = .ok (.iload_n 1, 1) := by decide +kernel
theorem dX4_driedBy_16 : decode cX4_driedBy 16 = .ok (.iconst 4, 1) := by decide +kernel
theorem dX4_driedBy_17 : decode cX4_driedBy 17 = .ok (.invokevirtual 38, 3) := by decide +kernel
theorem dX4_driedBy_20 : decode cX4_driedBy 20 = .ok (.isub, 1) := by decide +kernel
theorem dX4_driedBy_21 : decode cX4_driedBy 21 = .ok (.invokestatic 46, 3) := by decide +kernel
theorem dX4_driedBy_24 : decode cX4_driedBy 24 = .ok (.invokestatic 55, 3) := by decide +kernel
theorem dX4_driedBy_27 : decode cX4_driedBy 27 = .ok (.goto 4, 3) := by decide +kernel
theorem dX4_sizeOn_0 : decode cX4_sizeOn 0 = .ok (.aload_n 0, 1) := by decide +kernel
theorem dX4_sizeOn_1 : decode cX4_sizeOn 1 = .ok (.iload_n 1, 1) := by decide +kernel
theorem dX4_sizeOn_2 : decode cX4_sizeOn 2 = .ok (.iconst 2, 1) := by decide +kernel
theorem dX4_sizeOn_3 : decode cX4_sizeOn 3 = .ok (.invokevirtual 38, 3) := by decide +kernel
theorem dX4_sizeOn_6 : decode cX4_sizeOn 6 = .ok (.istore_n 3, 1) := by decide +kernel
theorem dX4_sizeOn_7 : decode cX4_sizeOn 7 = .ok (.iload_n 3, 1) := by decide +kernel
theorem dX4_sizeOn_8 : decode cX4_sizeOn 8 = .ok (.iload_n 3, 1) := by decide +kernel
theorem dX4_sizeOn_9 : decode cX4_sizeOn 9 = .ok (.aload_n 0, 1) := by decide +kernel
theorem dX4_sizeOn_10 : decode cX4_sizeOn 10 = .ok (.iload_n 1, 1) := by decide +kernel
theorem dX4_sizeOn_11 : decode cX4_sizeOn 11 = .ok (.iload_n 2, 1) := by decide +kernel
theorem kw467 : Cond.code yX4_driedBy cX4_driedBy 3 (some .int) ∈ Tg := mem_Tg (List.mem_append_right _ (List.mem_of_getElem? (i := 467) (by decide +kernel))) (by decide +kernel)
theorem dX4_sizeOn_12 : decode cX4_sizeOn 12 = .ok (.invokevirtual 62, 3) := by decide +kernel
theorem dX4_sizeOn_15 : decode cX4_sizeOn 15 = .ok (.imul, 1) := by decide +kernel
theorem dX4_sizeOn_16 : decode cX4_sizeOn 16 = .ok (.sipush 360, 3) := by decide +kernel
theorem dX4_sizeOn_19 : decode cX4_sizeOn 19 = .ok (.idiv, 1) := by decide +kernel
theorem dX4_sizeOn_20 : decode cX4_sizeOn 20 = .ok (.isub, 1) := by decide +kernel
theorem dX4_sizeOn_21 : decode cX4_sizeOn 21 = .ok (.ireturn, 1) := by decide +kernel
theorem dX4_weightOn_0 : decode cX4_weightOn 0 = .ok (.aload_n 0, 1) := by decide +kernel
theorem dX4_weightOn_1 : decode cX4_weightOn 1 = .ok (.iload_n 1, 1) := by decide +kernel
theorem dX4_weightOn_2 : decode cX4_weightOn 2 = .ok (.iconst 3, 1) := by decide +kernel
theorem dX4_weightOn_3 : decode cX4_weightOn 3 = .ok (.invokevirtual 38, 3) := by decide +kernel
theorem dX4_weightOn_6 : decode cX4_weightOn 6 = .ok (.istore_n 3, 1) := by decide +kernel
theorem dX4_weightOn_7 : decode cX4_weightOn 7 = .ok (.aload_n 0, 1) := by decide +kernel
theorem dX4_weightOn_8 : decode cX4_weightOn 8 = .ok (.iload_n 1, 1) := by decide +kernel
theorem dX4_weightOn_9 : decode cX4_weightOn 9 = .ok (.iconst 0, 1) := by decide +kernel
theorem dX4_weightOn_10 : decode cX4_weightOn 10 = .ok (.invokevirtual 38, 3) := by decide +kernel
theorem dX4_weightOn_13 : decode cX4_weightOn 13 = .ok (.iconst 3, 1) := by decide +kernel
theorem dX4_weightOn_14 : decode cX4_weightOn 14 = .ok (.if_icmp .ne 7, 3) := by decide +kernel
theorem dX4_weightOn_21 : decode cX4_weightOn 21 = .ok (.iconst 0, 1) := by decide +kernel
theorem dX4_weightOn_22 : decode cX4_weightOn 22 = .ok (.istore 4, 2) := by decide +kernel
theorem dX4_weightOn_24 : decode cX4_weightOn 24 = .ok (.iload_n 3, 1) := by decide +kernel
theorem dX4_weightOn_25 : decode cX4_weightOn 25 = .ok (.iload_n 3, 1) := by decide +kernel
theorem dX4_weightOn_26 : decode cX4_weightOn 26 = .ok (.aload_n 0, 1) := by decide +kernel
theorem dX4_weightOn_27 : decode cX4_weightOn 27 = .ok (.iload_n 1, 1) := by decide +kernel
theorem dX4_weightOn_28 : decode cX4_weightOn 28 = .ok (.iload_n 2, 1) := by decide +kernel
theorem dX4_weightOn_29 : decode cX4_weightOn 29 = .ok (.invokevirtual 62, 3) := by decide +kernel
theorem dX4_weightOn_32 : decode cX4_weightOn 32 = .ok (.imul, 1) := by decide +kernel
theorem dX4_weightOn_33 : decode cX4_weightOn 33 = .ok (.bipush 90, 2) := by decide +kernel
theorem dX4_weightOn_35 : decode cX4_weightOn 35 = .ok (.idiv, 1) := by decide +kernel
theorem dX4_weightOn_36 : decode cX4_weightOn 36 = .ok (.isub, 1) := by decide +kernel
theorem dX4_weightOn_37 : decode cX4_weightOn 37 = .ok (.iload 4, 2) := by decide +kernel
theorem dX4_weightOn_39 : decode cX4_weightOn 39 = .ok (.iadd, 1) := by decide +kernel
theorem dX4_weightOn_40 : decode cX4_weightOn 40 = .ok (.ireturn, 1) := by decide +kernel
theorem dX4_weightOn_17 : decode cX4_weightOn 17 = .ok (.iconst 2, 1) := by decide +kernel
theorem dX4_weightOn_18 : decode cX4_weightOn 18 = .ok (.goto 4, 3) := by decide +kernel
theorem dX4_areAlikeOn_0 : decode cX4_areAlikeOn 0 = .ok (.aload_n 0, 1) := by decide +kernel
theorem dX4_areAlikeOn_1 : decode cX4_areAlikeOn 1 = .ok (.iload_n 1, 1) := by decide +kernel
theorem dX4_areAlikeOn_2 : decode cX4_areAlikeOn 2 = .ok (.iconst 0, 1) := by decide +kernel
theorem dX4_areAlikeOn_3 : decode cX4_areAlikeOn 3 = .ok (.invokevirtual 42, 3) := by decide +kernel
theorem dX4_areAlikeOn_6 : decode cX4_areAlikeOn 6 = .ok (.ifCond .eq 76, 3) := by decide +kernel
theorem dX4_areAlikeOn_82 : decode cX4_areAlikeOn 82 = .ok (.iconst 0, 1) := by decide +kernel
theorem dX4_areAlikeOn_83 : decode cX4_areAlikeOn 83 = .ok (.ireturn, 1) := by decide +kernel
theorem dX4_areAlikeOn_9 : decode cX4_areAlikeOn 9 = .ok (.aload_n 0, 1) := by decide +kernel
theorem dX4_areAlikeOn_10 : decode cX4_areAlikeOn 10 = .ok (.iload_n 2, 1) := by decide +kernel
theorem dX4_areAlikeOn_11 : decode cX4_areAlikeOn 11 = .ok (.iconst 1, 1) := by decide +kernel
theorem dX4_areAlikeOn_12 : decode cX4_areAlikeOn 12 = .ok (.invokevirtual 42, 3) := by decide +kernel
theorem dX4_areAlikeOn_15 : decode cX4_areAlikeOn 15 = .ok (.ifCond .eq 67, 3) := by decide +kernel
theorem dX4_areAlikeOn_18 : decode cX4_areAlikeOn 18 = .ok (.aload_n 0, 1) := by decide +kernel
theorem dX4_areAlikeOn_19 : decode cX4_areAlikeOn 19 = .ok (.iload_n 1, 1) := by decide +kernel
theorem dX4_areAlikeOn_20 : decode cX4_areAlikeOn 20 = .ok (.iconst 0, 1) := by decide +kernel
theorem dX4_areAlikeOn_21 : decode cX4_areAlikeOn 21 = .ok (.invokevirtual 38, 3) := by decide +kernel
theorem dX4_areAlikeOn_24 : decode cX4_areAlikeOn 24 = .ok (.iconst 2, 1) := by decide +kernel
theorem dX4_areAlikeOn_25 : decode cX4_areAlikeOn 25 = .ok (.if_icmp .eq 57, 3) := by decide +kernel
theorem dX4_areAlikeOn_28 : decode cX4_areAlikeOn 28 = .ok (.aload_n 0, 1) := by decide +kernel
theorem dX4_areAlikeOn_29 : decode cX4_areAlikeOn 29 = .ok (.iload_n 2, 1) := by decide +kernel
theorem dX4_areAlikeOn_30 : decode cX4_areAlikeOn 30 = .ok (.iconst 0, 1) := by decide +kernel
theorem dX4_areAlikeOn_31 : decode cX4_areAlikeOn 31 = .ok (.invokevirtual 38, 3) := by decide +kernel
theorem dX4_areAlikeOn_34 : decode cX4_areAlikeOn 34 = .ok (.iconst 2, 1) := by decide +kernel
theorem dX4_areAlikeOn_35 : decode cX4_areAlikeOn 35 = .ok (.if_icmp .eq 47, 3) := by decide +kernel
theorem dX4_areAlikeOn_38 : decode cX4_areAlikeOn 38 = .ok (.aload_n 0, 1) := by decide +kernel
theorem dX4_areAlikeOn_39 : decode cX4_areAlikeOn 39 = .ok (.iload_n 1, 1) := by decide +kernel
theorem dX4_areAlikeOn_40 : decode cX4_areAlikeOn 40 = .ok (.iload_n 3, 1) := by decide +kernel
theorem kw459 : Cond.code yX4_sizeOn cX4_sizeOn 4 (some .int) ∈ Tg := mem_Tg (List.mem_append_right _ (List.mem_of_getElem? (i := 459) (by decide +kernel))) (by decide +kernel)
theorem dX4_areAlikeOn_41 : decode cX4_areAlikeOn 41 = .ok (.invokevirtual 65, 3) := by decide +kernel
theorem dX4_areAlikeOn_44 : decode cX4_areAlikeOn 44 = .ok (.aload_n 0, 1) := by decide +kernel
theorem dX4_areAlikeOn_45 : decode cX4_areAlikeOn 45 = .ok (.iload_n 2, 1) := by decide +kernel
theorem dX4_areAlikeOn_46 : decode cX4_areAlikeOn 46 = .ok (.iload_n 3, 1) := by decide +kernel
theorem dX4_areAlikeOn_47 : decode cX4_areAlikeOn 47 = .ok (.invokevirtual 65, 3) := by decide +kernel
theorem dX4_areAlikeOn_50 : decode cX4_areAlikeOn 50 = .ok (.isub, 1) := by decide +kernel
theorem dX4_areAlikeOn_51 : decode cX4_areAlikeOn 51 = .ok (.invokestatic 68, 3) := by decide +kernel
theorem dX4_areAlikeOn_54 : decode cX4_areAlikeOn 54 = .ok (.iconst 1, 1) := by decide +kernel
theorem dX4_areAlikeOn_55 : decode cX4_areAlikeOn 55 = .ok (.if_icmp .gt 27, 3) := by decide +kernel
theorem dX4_areAlikeOn_58 : decode cX4_areAlikeOn 58 = .ok (.aload_n 0, 1) := by decide +kernel
theorem dX4_areAlikeOn_59 : decode cX4_areAlikeOn 59 = .ok (.iload_n 1, 1) := by decide +kernel
theorem dX4_areAlikeOn_60 : decode cX4_areAlikeOn 60 = .ok (.iload_n 3, 1) := by decide +kernel
theorem kw473 : Cond.code yX4_weightOn cX4_weightOn 5 (some .int) ∈ Tg := mem_Tg (List.mem_append_right _ (List.mem_of_getElem? (i := 473) (by decide +kernel))) (by decide +kernel)
theorem dX4_areAlikeOn_61 : decode cX4_areAlikeOn 61 = .ok (.invokevirtual 72, 3) := by decide +kernel
theorem dX4_areAlikeOn_64 : decode cX4_areAlikeOn 64 = .ok (.aload_n 0, 1) := by decide +kernel
theorem dX4_areAlikeOn_65 : decode cX4_areAlikeOn 65 = .ok (.iload_n 2, 1) := by decide +kernel
theorem dX4_areAlikeOn_66 : decode cX4_areAlikeOn 66 = .ok (.iload_n 3, 1) := by decide +kernel
theorem dX4_areAlikeOn_67 : decode cX4_areAlikeOn 67 = .ok (.invokevirtual 72, 3) := by decide +kernel
theorem dX4_areAlikeOn_70 : decode cX4_areAlikeOn 70 = .ok (.isub, 1) := by decide +kernel
theorem dX4_areAlikeOn_71 : decode cX4_areAlikeOn 71 = .ok (.invokestatic 68, 3) := by decide +kernel
theorem dX4_areAlikeOn_74 : decode cX4_areAlikeOn 74 = .ok (.iconst 3, 1) := by decide +kernel
theorem dX4_areAlikeOn_75 : decode cX4_areAlikeOn 75 = .ok (.if_icmp .gt 7, 3) := by decide +kernel
theorem dX4_areAlikeOn_78 : decode cX4_areAlikeOn 78 = .ok (.iconst 1, 1) := by decide +kernel
theorem dX4_areAlikeOn_79 : decode cX4_areAlikeOn 79 = .ok (.goto 4, 3) := by decide +kernel
theorem dX4_matesOf_0 : decode cX4_matesOf 0 = .ok (.iconst 0, 1) := by decide +kernel
theorem dX4_matesOf_1 : decode cX4_matesOf 1 = .ok (.istore_n 2, 1) := by decide +kernel
theorem dX4_matesOf_2 : decode cX4_matesOf 2 = .ok (.iconst 0, 1) := by decide +kernel
theorem dX4_matesOf_3 : decode cX4_matesOf 3 = .ok (.istore_n 3, 1) := by decide +kernel
theorem dX4_matesOf_4 : decode cX4_matesOf 4 = .ok (.iload_n 3, 1) := by decide +kernel
theorem dX4_matesOf_5 : decode cX4_matesOf 5 = .ok (.aload_n 0, 1) := by decide +kernel
theorem dX4_matesOf_6 : decode cX4_matesOf 6 = .ok (.getfield 15, 3) := by decide +kernel
theorem dX4_matesOf_9 : decode cX4_matesOf 9 = .ok (.if_icmp .ge 41, 3) := by decide +kernel
theorem dX4_matesOf_12 : decode cX4_matesOf 12 = .ok (.aload_n 0, 1) := by decide +kernel
theorem dX4_matesOf_13 : decode cX4_matesOf 13 = .ok (.iload_n 1, 1) := by decide +kernel
theorem dX4_matesOf_14 : decode cX4_matesOf 14 = .ok (.iload_n 3, 1) := by decide +kernel
theorem dX4_matesOf_15 : decode cX4_matesOf 15 = .ok (.aload_n 0, 1) := by decide +kernel
theorem dX4_matesOf_16 : decode cX4_matesOf 16 = .ok (.getfield 19, 3) := by decide +kernel
theorem kw514 : Cond.code yX4_areAlikeOn cX4_areAlikeOn 4 (some .boolean) ∈ Tg := mem_Tg (List.mem_append_right _ (List.mem_of_getElem? (i := 514) (by decide +kernel))) (by decide +kernel)
theorem dX4_matesOf_19 : decode cX4_matesOf 19 = .ok (.invokevirtual 75, 3) := by decide +kernel
theorem dX4_matesOf_22 : decode cX4_matesOf 22 = .ok (.ifCond .ne 16, 3) := by decide +kernel
theorem dX4_matesOf_38 : decode cX4_matesOf 38 = .ok (.iload_n 2, 1) := by decide +kernel
theorem dX4_matesOf_39 : decode cX4_matesOf 39 = .ok (.iconst 1, 1) := by decide +kernel
theorem dX4_matesOf_40 : decode cX4_matesOf 40 = .ok (.iload_n 3, 1) := by decide +kernel
theorem dX4_matesOf_41 : decode cX4_matesOf 41 = .ok (.ishl, 1) := by decide +kernel
theorem dX4_matesOf_42 : decode cX4_matesOf 42 = .ok (.ior, 1) := by decide +kernel
theorem dX4_matesOf_43 : decode cX4_matesOf 43 = .ok (.istore_n 2, 1) := by decide +kernel
theorem dX4_matesOf_44 : decode cX4_matesOf 44 = .ok (.iinc 3 1, 3) := by decide +kernel
theorem dX4_matesOf_47 : decode cX4_matesOf 47 = .ok (.goto (-43), 3) := by decide +kernel
theorem dX4_matesOf_25 : decode cX4_matesOf 25 = .ok (.aload_n 0, 1) := by decide +kernel
theorem dX4_matesOf_26 : decode cX4_matesOf 26 = .ok (.iload_n 3, 1) := by decide +kernel
theorem dX4_matesOf_27 : decode cX4_matesOf 27 = .ok (.iload_n 1, 1) := by decide +kernel
theorem dX4_matesOf_28 : decode cX4_matesOf 28 = .ok (.aload_n 0, 1) := by decide +kernel
theorem dX4_matesOf_29 : decode cX4_matesOf 29 = .ok (.getfield 19, 3) := by decide +kernel
theorem dX4_matesOf_32 : decode cX4_matesOf 32 = .ok (.invokevirtual 75, 3) := by decide +kernel
theorem dX4_matesOf_35 : decode cX4_matesOf 35 = .ok (.ifCond .eq 9, 3) := by decide +kernel
theorem dX4_matesOf_50 : decode cX4_matesOf 50 = .ok (.iload_n 2, 1) := by decide +kernel
theorem dX4_matesOf_51 : decode cX4_matesOf 51 = .ok (.ireturn, 1) := by decide +kernel
theorem dX4_unholedFrom_0 : decode cX4_unholedFrom 0 = .ok (.iconst 0, 1) := by decide +kernel
theorem dX4_unholedFrom_1 : decode cX4_unholedFrom 1 = .ok (.istore_n 3, 1) := by decide +kernel
theorem dX4_unholedFrom_2 : decode cX4_unholedFrom 2 = .ok (.iconst 0, 1) := by decide +kernel
theorem dX4_unholedFrom_3 : decode cX4_unholedFrom 3 = .ok (.istore 4, 2) := by decide +kernel
theorem dX4_unholedFrom_5 : decode cX4_unholedFrom 5 = .ok (.iload 4, 2) := by decide +kernel
theorem dX4_unholedFrom_7 : decode cX4_unholedFrom 7 = .ok (.aload_n 0, 1) := by decide +kernel
theorem dX4_unholedFrom_8 : decode cX4_unholedFrom 8 = .ok (.getfield 15, 3) := by decide +kernel
theorem dX4_unholedFrom_11 : decode cX4_unholedFrom 11 = .ok (.if_icmp .ge 45, 3) := by decide +kernel
theorem dX4_unholedFrom_14 : decode cX4_unholedFrom 14 = .ok (.aload_n 0, 1) := by decide +kernel
theorem dX4_unholedFrom_15 : decode cX4_unholedFrom 15 = .ok (.iload 4, 2) := by decide +kernel
theorem dX4_unholedFrom_17 : decode cX4_unholedFrom 17 = .ok (.iconst 0, 1) := by decide +kernel
theorem dX4_unholedFrom_18 : decode cX4_unholedFrom 18 = .ok (.invokevirtual 38, 3) := by decide +kernel
theorem dX4_unholedFrom_21 : decode cX4_unholedFrom 21 = .ok (.iconst 2, 1) := by decide +kernel
theorem dX4_unholedFrom_22 : decode cX4_unholedFrom 22 = .ok (.if_icmp .eq 28, 3) := by decide +kernel
theorem dX4_unholedFrom_50 : decode cX4_unholedFrom 50 = .ok (.iinc 4 1, 3) := by decide +kernel
theorem dX4_unholedFrom_53 : decode cX4_unholedFrom 53 = .ok (.goto (-48), 3) := by decide +kernel
theorem dX4_unholedFrom_25 : decode cX4_unholedFrom 25 = .ok (.aload_n 0, 1) := by decide +kernel
theorem dX4_unholedFrom_26 : decode cX4_unholedFrom 26 = .ok (.iload 4, 2) := by decide +kernel
theorem dX4_unholedFrom_28 : decode cX4_unholedFrom 28 = .ok (.aload_n 0, 1) := by decide +kernel
theorem dX4_unholedFrom_29 : decode cX4_unholedFrom 29 = .ok (.getfield 19, 3) := by decide +kernel
theorem dX4_unholedFrom_32 : decode cX4_unholedFrom 32 = .ok (.invokevirtual 65, 3) := by decide +kernel
theorem dX4_unholedFrom_35 : decode cX4_unholedFrom 35 = .ok (.iload_n 1, 1) := by decide +kernel
theorem dX4_unholedFrom_36 : decode cX4_unholedFrom 36 = .ok (.iload_n 1, 1) := by decide +kernel
theorem dX4_unholedFrom_37 : decode cX4_unholedFrom 37 = .ok (.iload_n 2, 1) := by decide +kernel
theorem dX4_unholedFrom_38 : decode cX4_unholedFrom 38 = .ok (.iadd, 1) := by decide +kernel
theorem dX4_unholedFrom_39 : decode cX4_unholedFrom 39 = .ok (.iconst 1, 1) := by decide +kernel
theorem dX4_unholedFrom_40 : decode cX4_unholedFrom 40 = .ok (.isub, 1) := by decide +kernel
theorem dX4_unholedFrom_41 : decode cX4_unholedFrom 41 = .ok (.invokestatic 26, 3) := by decide +kernel
theorem dX4_unholedFrom_44 : decode cX4_unholedFrom 44 = .ok (.ifCond .eq 6, 3) := by decide +kernel
theorem dX4_unholedFrom_47 : decode cX4_unholedFrom 47 = .ok (.iinc 3 1, 3) := by decide +kernel
theorem dX4_unholedFrom_56 : decode cX4_unholedFrom 56 = .ok (.iload_n 3, 1) := by decide +kernel
theorem dX4_unholedFrom_57 : decode cX4_unholedFrom 57 = .ok (.ireturn, 1) := by decide +kernel
theorem kw742 : Cond.constantLong RX8 43 (7919) ∈ Tg := mem_Tg (List.mem_append_right _ (List.mem_of_getElem? (i := 742) (by decide +kernel))) (by decide +kernel)
theorem dX8_drawOf_0 : decode cX8_drawOf 0 = .ok (.ldc2_w 43, 3) := by decide +kernel
theorem dX8_drawOf_3 : decode cX8_drawOf 3 = .ok (.iload_n 0, 1) := by decide +kernel
theorem dX8_drawOf_4 : decode cX8_drawOf 4 = .ok (.i2l, 1) := by decide +kernel
theorem dX8_drawOf_5 : decode cX8_drawOf 5 = .ok (.lmul, 1) := by decide +kernel
theorem kw743 : Cond.constantLong RX8 45 (6151) ∈ Tg := mem_Tg (List.mem_append_right _ (List.mem_of_getElem? (i := 743) (by decide +kernel))) (by decide +kernel)
theorem dX8_drawOf_6 : decode cX8_drawOf 6 = .ok (.ldc2_w 45, 3) := by decide +kernel
theorem dX8_drawOf_9 : decode cX8_drawOf 9 = .ok (.iload_n 1, 1) := by decide +kernel
theorem dX8_drawOf_10 : decode cX8_drawOf 10 = .ok (.i2l, 1) := by decide +kernel
theorem dX8_drawOf_11 : decode cX8_drawOf 11 = .ok (.lmul, 1) := by decide +kernel
theorem dX8_drawOf_12 : decode cX8_drawOf 12 = .ok (.ladd, 1) := by decide +kernel
theorem dX8_drawOf_13 : decode cX8_drawOf 13 = .ok (.lconst 1, 1) := by decide +kernel
theorem dX8_drawOf_14 : decode cX8_drawOf 14 = .ok (.ladd, 1) := by decide +kernel
theorem dX8_drawOf_15 : decode cX8_drawOf 15 = .ok (.lstore_n 2, 1) := by decide +kernel
theorem dX8_drawOf_16 : decode cX8_drawOf 16 = .ok (.lload_n 2, 1) := by decide +kernel
theorem dX8_drawOf_17 : decode cX8_drawOf 17 = .ok (.lload_n 2, 1) := by decide +kernel
theorem dX8_drawOf_18 : decode cX8_drawOf 18 = .ok (.lmul, 1) := by decide +kernel
theorem kw744 : Cond.constantLong RX8 47 (65521) ∈ Tg := mem_Tg (List.mem_append_right _ (List.mem_of_getElem? (i := 744) (by decide +kernel))) (by decide +kernel)
theorem dX8_drawOf_19 : decode cX8_drawOf 19 = .ok (.ldc2_w 47, 3) := by decide +kernel
theorem dX8_drawOf_22 : decode cX8_drawOf 22 = .ok (.lrem, 1) := by decide +kernel
theorem kw745 : Cond.constantLong RX8 49 (4) ∈ Tg := mem_Tg (List.mem_append_right _ (List.mem_of_getElem? (i := 745) (by decide +kernel))) (by decide +kernel)
theorem dX8_drawOf_23 : decode cX8_drawOf 23 = .ok (.ldc2_w 49, 3) := by decide +kernel
theorem dX8_drawOf_26 : decode cX8_drawOf 26 = .ok (.ldiv, 1) := by decide +kernel
theorem dX8_drawOf_27 : decode cX8_drawOf 27 = .ok (.l2i, 1) := by decide +kernel
theorem dX8_drawOf_28 : decode cX8_drawOf 28 = .ok (.ireturn, 1) := by decide +kernel
theorem dX8_sendFirstPair_0 : decode cX8_sendFirstPair 0 = .ok (.iconst 0, 1) := by decide +kernel
theorem dX8_sendFirstPair_1 : decode cX8_sendFirstPair 1 = .ok (.istore_n 1, 1) := by decide +kernel
theorem dX8_sendFirstPair_2 : decode cX8_sendFirstPair 2 = .ok (.iload_n 1, 1) := by decide +kernel
theorem dX8_sendFirstPair_3 : decode cX8_sendFirstPair 3 = .ok (.aload_n 0, 1) := by decide +kernel
theorem dX8_sendFirstPair_4 : decode cX8_sendFirstPair 4 = .ok (.getfield 12, 3) := by decide +kernel
theorem dX8_sendFirstPair_7 : decode cX8_sendFirstPair 7 = .ok (.getfield 26, 3) := by decide +kernel
theorem dX8_sendFirstPair_10 : decode cX8_sendFirstPair 10 = .ok (.if_icmp .ge 67, 3) := by decide +kernel
theorem dX8_sendFirstPair_13 : decode cX8_sendFirstPair 13 = .ok (.iconst 0, 1) := by decide +kernel
theorem dX8_sendFirstPair_14 : decode cX8_sendFirstPair 14 = .ok (.istore_n 2, 1) := by decide +kernel
theorem dX8_sendFirstPair_15 : decode cX8_sendFirstPair 15 = .ok (.iload_n 2, 1) := by decide +kernel
theorem dX8_sendFirstPair_16 : decode cX8_sendFirstPair 16 = .ok (.aload_n 0, 1) := by decide +kernel
theorem dX8_sendFirstPair_17 : decode cX8_sendFirstPair 17 = .ok (.getfield 12, 3) := by decide +kernel
theorem dX8_sendFirstPair_20 : decode cX8_sendFirstPair 20 = .ok (.getfield 26, 3) := by decide +kernel
theorem dX8_sendFirstPair_23 : decode cX8_sendFirstPair 23 = .ok (.if_icmp .ge 48, 3) := by decide +kernel
theorem dX8_sendFirstPair_26 : decode cX8_sendFirstPair 26 = .ok (.aload_n 0, 1) := by decide +kernel
theorem dX8_sendFirstPair_27 : decode cX8_sendFirstPair 27 = .ok (.getfield 12, 3) := by decide +kernel
theorem dX8_sendFirstPair_30 : decode cX8_sendFirstPair 30 = .ok (.iload_n 1, 1) := by decide +kernel
theorem dX8_sendFirstPair_31 : decode cX8_sendFirstPair 31 = .ok (.iload_n 2, 1) := by decide +kernel
theorem dX8_sendFirstPair_32 : decode cX8_sendFirstPair 32 = .ok (.aload_n 0, 1) := by decide +kernel
theorem dX8_sendFirstPair_33 : decode cX8_sendFirstPair 33 = .ok (.getfield 12, 3) := by decide +kernel
theorem dX8_sendFirstPair_36 : decode cX8_sendFirstPair 36 = .ok (.getfield 40, 3) := by decide +kernel
theorem dX8_sendFirstPair_39 : decode cX8_sendFirstPair 39 = .ok (.invokevirtual 51, 3) := by decide +kernel
theorem dX8_sendFirstPair_42 : decode cX8_sendFirstPair 42 = .ok (.ifCond .eq 23, 3) := by decide +kernel
theorem dX8_sendFirstPair_65 : decode cX8_sendFirstPair 65 = .ok (.iinc 2 1, 3) := by decide +kernel
theorem dX8_sendFirstPair_68 : decode cX8_sendFirstPair 68 = .ok (.goto (-53), 3) := by decide +kernel
theorem dX8_sendFirstPair_45 : decode cX8_sendFirstPair 45 = .ok (.aload_n 0, 1) := by decide +kernel
theorem dX8_sendFirstPair_46 : decode cX8_sendFirstPair 46 = .ok (.getfield 12, 3) := by decide +kernel
theorem dX8_sendFirstPair_49 : decode cX8_sendFirstPair 49 = .ok (.iload_n 1, 1) := by decide +kernel
theorem dX8_sendFirstPair_50 : decode cX8_sendFirstPair 50 = .ok (.iload_n 2, 1) := by decide +kernel
theorem kw528 : Cond.code yX4_removeTwo cX4_removeTwo 3 none ∈ Tg := mem_Tg (List.mem_append_right _ (List.mem_of_getElem? (i := 528) (by decide +kernel))) (by decide +kernel)
theorem dX8_sendFirstPair_51 : decode cX8_sendFirstPair 51 = .ok (.invokevirtual 55, 3) := by decide +kernel
theorem dX8_sendFirstPair_54 : decode cX8_sendFirstPair 54 = .ok (.aload_n 0, 1) := by decide +kernel
theorem dX8_sendFirstPair_55 : decode cX8_sendFirstPair 55 = .ok (.dup, 1) := by decide +kernel
theorem dX8_sendFirstPair_56 : decode cX8_sendFirstPair 56 = .ok (.getfield 22, 3) := by decide +kernel
theorem dX8_sendFirstPair_59 : decode cX8_sendFirstPair 59 = .ok (.iconst 1, 1) := by decide +kernel
theorem dX8_sendFirstPair_60 : decode cX8_sendFirstPair 60 = .ok (.iadd, 1) := by decide +kernel
theorem dX8_sendFirstPair_61 : decode cX8_sendFirstPair 61 = .ok (.putfield 22, 3) := by decide +kernel
theorem dX8_sendFirstPair_64 : decode cX8_sendFirstPair 64 = .ok (.return_, 1) := by decide +kernel
theorem dX8_sendFirstPair_71 : decode cX8_sendFirstPair 71 = .ok (.iinc 1 1, 3) := by decide +kernel
theorem dX8_sendFirstPair_74 : decode cX8_sendFirstPair 74 = .ok (.goto (-72), 3) := by decide +kernel
theorem dX8_sendFirstPair_77 : decode cX8_sendFirstPair 77 = .ok (.return_, 1) := by decide +kernel
theorem dX8_live_0 : decode cX8_live 0 = .ok (.aload_n 0, 1) := by decide +kernel
theorem dX8_live_1 : decode cX8_live 1 = .ok (.getfield 12, 3) := by decide +kernel
theorem dX8_live_4 : decode cX8_live 4 = .ok (.aload_n 1, 1) := by decide +kernel
theorem kw372 : Cond.code yX4_copy cX4_copy 2 none ∈ Tg := mem_Tg (List.mem_append_right _ (List.mem_of_getElem? (i := 372) (by decide +kernel))) (by decide +kernel)
theorem dX8_live_5 : decode cX8_live 5 = .ok (.invokevirtual 18, 3) := by decide +kernel
theorem dX8_live_8 : decode cX8_live 8 = .ok (.aload_n 0, 1) := by decide +kernel
theorem dX8_live_9 : decode cX8_live 9 = .ok (.iconst 0, 1) := by decide +kernel
theorem dX8_live_10 : decode cX8_live 10 = .ok (.putfield 22, 3) := by decide +kernel
theorem dX8_live_13 : decode cX8_live 13 = .ok (.iconst 0, 1) := by decide +kernel
theorem dX8_live_14 : decode cX8_live 14 = .ok (.istore 4, 2) := by decide +kernel
theorem dX8_live_16 : decode cX8_live 16 = .ok (.iload 4, 2) := by decide +kernel
theorem dX8_live_18 : decode cX8_live 18 = .ok (.iload_n 3, 1) := by decide +kernel
theorem dX8_live_19 : decode cX8_live 19 = .ok (.if_icmp .ge 78, 3) := by decide +kernel
theorem dX8_live_22 : decode cX8_live 22 = .ok (.aload_n 0, 1) := by decide +kernel
theorem dX8_live_23 : decode cX8_live 23 = .ok (.getfield 12, 3) := by decide +kernel
theorem dX8_live_26 : decode cX8_live 26 = .ok (.getfield 26, 3) := by decide +kernel
theorem dX8_live_29 : decode cX8_live 29 = .ok (.bipush 10, 2) := by decide +kernel
theorem dX8_live_31 : decode cX8_live 31 = .ok (.if_icmp .ge 43, 3) := by decide +kernel
theorem dX8_live_74 : decode cX8_live 74 = .ok (.aload_n 0, 1) := by decide +kernel
theorem kw750 : Cond.code yX8_sendFirstPair cX8_sendFirstPair 3 none ∈ Tg := mem_Tg (List.mem_append_right _ (List.mem_of_getElem? (i := 750) (by decide +kernel))) (by decide +kernel)
theorem dX8_live_75 : decode cX8_live 75 = .ok (.invokevirtual 37, 3) := by decide +kernel
theorem dX8_live_78 : decode cX8_live 78 = .ok (.aload_n 0, 1) := by decide +kernel
theorem dX8_live_79 : decode cX8_live 79 = .ok (.getfield 12, 3) := by decide +kernel
theorem dX8_live_82 : decode cX8_live 82 = .ok (.dup, 1) := by decide +kernel
theorem dX8_live_83 : decode cX8_live 83 = .ok (.getfield 40, 3) := by decide +kernel
theorem dX8_live_86 : decode cX8_live 86 = .ok (.iconst 1, 1) := by decide +kernel
theorem dX8_live_87 : decode cX8_live 87 = .ok (.iadd, 1) := by decide +kernel
theorem dX8_live_88 : decode cX8_live 88 = .ok (.putfield 40, 3) := by decide +kernel
theorem dX8_live_91 : decode cX8_live 91 = .ok (.iinc 4 1, 3) := by decide +kernel
theorem dX8_live_94 : decode cX8_live 94 = .ok (.goto (-78), 3) := by decide +kernel
theorem dX8_live_34 : decode cX8_live 34 = .ok (.iload_n 2, 1) := by decide +kernel
theorem dX8_live_35 : decode cX8_live 35 = .ok (.iload 4, 2) := by decide +kernel
theorem kw741 : Cond.code yX8_drawOf cX8_drawOf 4 (some .int) ∈ Tg := mem_Tg (List.mem_append_right _ (List.mem_of_getElem? (i := 741) (by decide +kernel))) (by decide +kernel)
theorem dX8_live_37 : decode cX8_live 37 = .ok (.invokestatic 29, 3) := by decide +kernel
theorem dX8_live_40 : decode cX8_live 40 = .ok (.istore 5, 2) := by decide +kernel
theorem dX8_live_42 : decode cX8_live 42 = .ok (.aload_n 0, 1) := by decide +kernel
theorem dX8_live_43 : decode cX8_live 43 = .ok (.getfield 12, 3) := by decide +kernel
theorem dX8_live_46 : decode cX8_live 46 = .ok (.iconst 0, 1) := by decide +kernel
theorem dX8_live_47 : decode cX8_live 47 = .ok (.iload 5, 2) := by decide +kernel
theorem dX8_live_49 : decode cX8_live 49 = .ok (.iconst 2, 1) := by decide +kernel
theorem dX8_live_50 : decode cX8_live 50 = .ok (.irem, 1) := by decide +kernel
theorem dX8_live_51 : decode cX8_live 51 = .ok (.bipush 30, 2) := by decide +kernel
theorem dX8_live_53 : decode cX8_live 53 = .ok (.iload 5, 2) := by decide +kernel
theorem dX8_live_55 : decode cX8_live 55 = .ok (.iconst 2, 1) := by decide +kernel
theorem dX8_live_56 : decode cX8_live 56 = .ok (.idiv, 1) := by decide +kernel
theorem dX8_live_57 : decode cX8_live 57 = .ok (.bipush 12, 2) := by decide +kernel
theorem dX8_live_59 : decode cX8_live 59 = .ok (.irem, 1) := by decide +kernel
theorem dX8_live_60 : decode cX8_live 60 = .ok (.iadd, 1) := by decide +kernel
theorem dX8_live_61 : decode cX8_live 61 = .ok (.bipush 10, 2) := by decide +kernel
theorem dX8_live_63 : decode cX8_live 63 = .ok (.iload 5, 2) := by decide +kernel
theorem dX8_live_65 : decode cX8_live 65 = .ok (.bipush 32, 2) := by decide +kernel
theorem dX8_live_67 : decode cX8_live 67 = .ok (.idiv, 1) := by decide +kernel
theorem dX8_live_68 : decode cX8_live 68 = .ok (.iconst 5, 1) := by decide +kernel
theorem dX8_live_69 : decode cX8_live 69 = .ok (.irem, 1) := by decide +kernel
theorem dX8_live_70 : decode cX8_live 70 = .ok (.iadd, 1) := by decide +kernel
theorem kw345 : Cond.code yX4_add cX4_add 6 none ∈ Tg := mem_Tg (List.mem_append_right _ (List.mem_of_getElem? (i := 345) (by decide +kernel))) (by decide +kernel)
theorem dX8_live_71 : decode cX8_live 71 = .ok (.invokevirtual 33, 3) := by decide +kernel
theorem dX8_live_97 : decode cX8_live 97 = .ok (.return_, 1) := by decide +kernel
theorem dX3_readNumbers_0 : decode cX3_readNumbers 0 = .ok (.iload_n 2, 1) := by decide +kernel
theorem dX3_readNumbers_1 : decode cX3_readNumbers 1 = .ok (.istore_n 3, 1) := by decide +kernel
theorem dX3_readNumbers_2 : decode cX3_readNumbers 2 = .ok (.iconst 0, 1) := by decide +kernel
theorem dX3_readNumbers_3 : decode cX3_readNumbers 3 = .ok (.istore 4, 2) := by decide +kernel
theorem dX3_readNumbers_5 : decode cX3_readNumbers 5 = .ok (.iload 4, 2) := by decide +kernel
theorem dX3_readNumbers_7 : decode cX3_readNumbers 7 = .ok (.iconst 4, 1) := by decide +kernel
theorem dX3_readNumbers_8 : decode cX3_readNumbers 8 = .ok (.if_icmp .ge 98, 3) := by decide +kernel
theorem dX3_readNumbers_11 : decode cX3_readNumbers 11 = .ok (.aload_n 1, 1) := by decide +kernel
theorem dX3_readNumbers_12 : decode cX3_readNumbers 12 = .ok (.iload_n 3, 1) := by decide +kernel
theorem kw313 : Cond.code yX5_figureAt cX5_figureAt 3 (some .int) ∈ Tg := mem_Tg (List.mem_append_right _ (List.mem_of_getElem? (i := 313) (by decide +kernel))) (by decide +kernel)
theorem dX3_readNumbers_13 : decode cX3_readNumbers 13 = .ok (.invokevirtual 59, 3) := by decide +kernel
theorem dX3_readNumbers_16 : decode cX3_readNumbers 16 = .ok (.istore 5, 2) := by decide +kernel
theorem dX3_readNumbers_18 : decode cX3_readNumbers 18 = .ok (.iload 5, 2) := by decide +kernel
theorem dX3_readNumbers_20 : decode cX3_readNumbers 20 = .ok (.ifCond .ge 5, 3) := by decide +kernel
theorem dX3_readNumbers_25 : decode cX3_readNumbers 25 = .ok (.iinc 3 1, 3) := by decide +kernel
theorem dX3_readNumbers_28 : decode cX3_readNumbers 28 = .ok (.aload_n 1, 1) := by decide +kernel
theorem dX3_readNumbers_29 : decode cX3_readNumbers 29 = .ok (.iload_n 3, 1) := by decide +kernel
theorem dX3_readNumbers_30 : decode cX3_readNumbers 30 = .ok (.invokevirtual 59, 3) := by decide +kernel
theorem dX3_readNumbers_33 : decode cX3_readNumbers 33 = .ok (.istore 6, 2) := by decide +kernel
theorem dX3_readNumbers_35 : decode cX3_readNumbers 35 = .ok (.iload 6, 2) := by decide +kernel
theorem dX3_readNumbers_37 : decode cX3_readNumbers 37 = .ok (.ifCond .lt 16, 3) := by decide +kernel
theorem dX3_readNumbers_53 : decode cX3_readNumbers 53 = .ok (.aload_n 0, 1) := by decide +kernel
theorem dX3_readNumbers_54 : decode cX3_readNumbers 54 = .ok (.getfield 32, 3) := by decide +kernel
theorem dX3_readNumbers_57 : decode cX3_readNumbers 57 = .ok (.iload 4, 2) := by decide +kernel
theorem dX3_readNumbers_59 : decode cX3_readNumbers 59 = .ok (.iload 5, 2) := by decide +kernel
theorem dX3_readNumbers_61 : decode cX3_readNumbers 61 = .ok (.invokestatic 62, 3) := by decide +kernel
theorem dX3_readNumbers_64 : decode cX3_readNumbers 64 = .ok (.aload_n 0, 1) := by decide +kernel
theorem dX3_readNumbers_65 : decode cX3_readNumbers 65 = .ok (.iload 4, 2) := by decide +kernel
theorem dX3_readNumbers_67 : decode cX3_readNumbers 67 = .ok (.iconst 1, 1) := by decide +kernel
theorem dX3_readNumbers_68 : decode cX3_readNumbers 68 = .ok (.iadd, 1) := by decide +kernel
theorem dX3_readNumbers_69 : decode cX3_readNumbers 69 = .ok (.putfield 66, 3) := by decide +kernel
theorem dX3_readNumbers_72 : decode cX3_readNumbers 72 = .ok (.aload_n 1, 1) := by decide +kernel
theorem dX3_readNumbers_73 : decode cX3_readNumbers 73 = .ok (.iload_n 3, 1) := by decide +kernel
theorem dX3_readNumbers_74 : decode cX3_readNumbers 74 = .ok (.invokevirtual 51, 3) := by decide +kernel
theorem dX3_readNumbers_77 : decode cX3_readNumbers 77 = .ok (.istore 7, 2) := by decide +kernel
theorem dX3_readNumbers_79 : decode cX3_readNumbers 79 = .ok (.iinc 3 1, 3) := by decide +kernel
theorem dX3_readNumbers_82 : decode cX3_readNumbers 82 = .ok (.iload 7, 2) := by decide +kernel
theorem dX3_readNumbers_84 : decode cX3_readNumbers 84 = .ok (.bipush 59, 2) := by decide +kernel
theorem dX3_readNumbers_86 : decode cX3_readNumbers 86 = .ok (.if_icmp .ne 5, 3) := by decide +kernel
theorem dX3_readNumbers_91 : decode cX3_readNumbers 91 = .ok (.iload 7, 2) := by decide +kernel
theorem dX3_readNumbers_93 : decode cX3_readNumbers 93 = .ok (.bipush 44, 2) := by decide +kernel
theorem dX3_readNumbers_95 : decode cX3_readNumbers 95 = .ok (.if_icmp .eq 5, 3) := by decide +kernel
theorem dX3_readNumbers_100 : decode cX3_readNumbers 100 = .ok (.iinc 4 1, 3) := by decide +kernel
theorem dX3_readNumbers_103 : decode cX3_readNumbers 103 = .ok (.goto (-98), 3) := by decide +kernel
theorem dX3_readNumbers_98 : decode cX3_readNumbers 98 = .ok (.iconst (-1), 1) := by decide +kernel
theorem dX3_readNumbers_99 : decode cX3_readNumbers 99 = .ok (.ireturn, 1) := by decide +kernel
theorem dX3_readNumbers_89 : decode cX3_readNumbers 89 = .ok (.iload_n 3, 1) := by decide +kernel
theorem dX3_readNumbers_90 : decode cX3_readNumbers 90 = .ok (.ireturn, 1) := by decide +kernel
theorem dX3_readNumbers_40 : decode cX3_readNumbers 40 = .ok (.iload 5, 2) := by decide +kernel
theorem dX3_readNumbers_42 : decode cX3_readNumbers 42 = .ok (.bipush 10, 2) := by decide +kernel
theorem dX3_readNumbers_44 : decode cX3_readNumbers 44 = .ok (.imul, 1) := by decide +kernel
theorem dX3_readNumbers_45 : decode cX3_readNumbers 45 = .ok (.iload 6, 2) := by decide +kernel
theorem dX3_readNumbers_47 : decode cX3_readNumbers 47 = .ok (.iadd, 1) := by decide +kernel
theorem dX3_readNumbers_48 : decode cX3_readNumbers 48 = .ok (.istore 5, 2) := by decide +kernel
theorem dX3_readNumbers_50 : decode cX3_readNumbers 50 = .ok (.iinc 3 1, 3) := by decide +kernel
theorem dX3_readNumbers_23 : decode cX3_readNumbers 23 = .ok (.iconst (-1), 1) := by decide +kernel
theorem dX3_readNumbers_24 : decode cX3_readNumbers 24 = .ok (.ireturn, 1) := by decide +kernel
theorem dX3_readNumbers_106 : decode cX3_readNumbers 106 = .ok (.iconst (-1), 1) := by decide +kernel
theorem dX3_readNumbers_107 : decode cX3_readNumbers 107 = .ok (.ireturn, 1) := by decide +kernel
theorem dX3_takeClog_0 : decode cX3_takeClog 0 = .ok (.aload_n 0, 1) := by decide +kernel
theorem dX3_takeClog_1 : decode cX3_takeClog 1 = .ok (.getfield 66, 3) := by decide +kernel
theorem dX3_takeClog_4 : decode cX3_takeClog 4 = .ok (.iconst 4, 1) := by decide +kernel
theorem dX3_takeClog_5 : decode cX3_takeClog 5 = .ok (.if_icmp .ne 53, 3) := by decide +kernel
theorem dX3_takeClog_58 : decode cX3_takeClog 58 = .ok (.iconst 0, 1) := by decide +kernel
theorem dX3_takeClog_59 : decode cX3_takeClog 59 = .ok (.ireturn, 1) := by decide +kernel
theorem dX3_takeClog_8 : decode cX3_takeClog 8 = .ok (.aload_n 0, 1) := by decide +kernel
theorem dX3_takeClog_9 : decode cX3_takeClog 9 = .ok (.getfield 12, 3) := by decide +kernel
theorem dX3_takeClog_12 : decode cX3_takeClog 12 = .ok (.getfield 85, 3) := by decide +kernel
theorem dX3_takeClog_15 : decode cX3_takeClog 15 = .ok (.bipush 10, 2) := by decide +kernel
theorem dX3_takeClog_17 : decode cX3_takeClog 17 = .ok (.if_icmp .ge 41, 3) := by decide +kernel
theorem dX3_takeClog_20 : decode cX3_takeClog 20 = .ok (.aload_n 0, 1) := by decide +kernel
theorem dX3_takeClog_21 : decode cX3_takeClog 21 = .ok (.getfield 32, 3) := by decide +kernel
theorem dX3_takeClog_24 : decode cX3_takeClog 24 = .ok (.iconst 0, 1) := by decide +kernel
theorem dX3_takeClog_25 : decode cX3_takeClog 25 = .ok (.invokestatic 88, 3) := by decide +kernel
theorem dX3_takeClog_28 : decode cX3_takeClog 28 = .ok (.aload_n 0, 1) := by decide +kernel
theorem dX3_takeClog_29 : decode cX3_takeClog 29 = .ok (.getfield 32, 3) := by decide +kernel
theorem dX3_takeClog_32 : decode cX3_takeClog 32 = .ok (.iconst 1, 1) := by decide +kernel
theorem dX3_takeClog_33 : decode cX3_takeClog 33 = .ok (.invokestatic 88, 3) := by decide +kernel
theorem dX3_takeClog_36 : decode cX3_takeClog 36 = .ok (.aload_n 0, 1) := by decide +kernel
theorem dX3_takeClog_37 : decode cX3_takeClog 37 = .ok (.getfield 32, 3) := by decide +kernel
theorem dX3_takeClog_40 : decode cX3_takeClog 40 = .ok (.iconst 2, 1) := by decide +kernel
theorem dX3_takeClog_41 : decode cX3_takeClog 41 = .ok (.invokestatic 88, 3) := by decide +kernel
theorem dX3_takeClog_44 : decode cX3_takeClog 44 = .ok (.aload_n 0, 1) := by decide +kernel
theorem dX3_takeClog_45 : decode cX3_takeClog 45 = .ok (.getfield 32, 3) := by decide +kernel
theorem dX3_takeClog_48 : decode cX3_takeClog 48 = .ok (.iconst 3, 1) := by decide +kernel
theorem dX3_takeClog_49 : decode cX3_takeClog 49 = .ok (.invokestatic 88, 3) := by decide +kernel
theorem kw335 : Cond.code yX9_isClog cX9_isClog 4 (some .boolean) ∈ Tg := mem_Tg (List.mem_append_right _ (List.mem_of_getElem? (i := 335) (by decide +kernel))) (by decide +kernel)
theorem dX3_takeClog_52 : decode cX3_takeClog 52 = .ok (.invokestatic 92, 3) := by decide +kernel
theorem dX3_takeClog_55 : decode cX3_takeClog 55 = .ok (.ifCond .ne 5, 3) := by decide +kernel
theorem dX3_takeClog_60 : decode cX3_takeClog 60 = .ok (.aload_n 0, 1) := by decide +kernel
theorem dX3_takeClog_61 : decode cX3_takeClog 61 = .ok (.getfield 12, 3) := by decide +kernel
theorem dX3_takeClog_64 : decode cX3_takeClog 64 = .ok (.aload_n 0, 1) := by decide +kernel
theorem dX3_takeClog_65 : decode cX3_takeClog 65 = .ok (.getfield 32, 3) := by decide +kernel
theorem dX3_takeClog_68 : decode cX3_takeClog 68 = .ok (.iconst 0, 1) := by decide +kernel
theorem dX3_takeClog_69 : decode cX3_takeClog 69 = .ok (.invokestatic 88, 3) := by decide +kernel
theorem dX3_takeClog_72 : decode cX3_takeClog 72 = .ok (.aload_n 0, 1) := by decide +kernel
theorem dX3_takeClog_73 : decode cX3_takeClog 73 = .ok (.getfield 32, 3) := by decide +kernel
theorem dX3_takeClog_76 : decode cX3_takeClog 76 = .ok (.iconst 1, 1) := by decide +kernel
theorem dX3_takeClog_77 : decode cX3_takeClog 77 = .ok (.invokestatic 88, 3) := by decide +kernel
theorem dX3_takeClog_80 : decode cX3_takeClog 80 = .ok (.aload_n 0, 1) := by decide +kernel
theorem dX3_takeClog_81 : decode cX3_takeClog 81 = .ok (.getfield 32, 3) := by decide +kernel
theorem dX3_takeClog_84 : decode cX3_takeClog 84 = .ok (.iconst 2, 1) := by decide +kernel
theorem dX3_takeClog_85 : decode cX3_takeClog 85 = .ok (.invokestatic 88, 3) := by decide +kernel
theorem dX3_takeClog_88 : decode cX3_takeClog 88 = .ok (.aload_n 0, 1) := by decide +kernel
theorem dX3_takeClog_89 : decode cX3_takeClog 89 = .ok (.getfield 32, 3) := by decide +kernel
theorem dX3_takeClog_92 : decode cX3_takeClog 92 = .ok (.iconst 3, 1) := by decide +kernel
theorem dX3_takeClog_93 : decode cX3_takeClog 93 = .ok (.invokestatic 88, 3) := by decide +kernel
theorem dX3_takeClog_96 : decode cX3_takeClog 96 = .ok (.invokevirtual 96, 3) := by decide +kernel
theorem dX3_takeClog_99 : decode cX3_takeClog 99 = .ok (.iconst 1, 1) := by decide +kernel
theorem dX3_takeClog_100 : decode cX3_takeClog 100 = .ok (.ireturn, 1) := by decide +kernel
theorem dX3_takeFeet_0 : decode cX3_takeFeet 0 = .ok (.aload_n 0, 1) := by decide +kernel
theorem dX3_takeFeet_1 : decode cX3_takeFeet 1 = .ok (.getfield 66, 3) := by decide +kernel
theorem dX3_takeFeet_4 : decode cX3_takeFeet 4 = .ok (.iconst 2, 1) := by decide +kernel
theorem dX3_takeFeet_5 : decode cX3_takeFeet 5 = .ok (.if_icmp .ne 50, 3) := by decide +kernel
theorem dX3_takeFeet_55 : decode cX3_takeFeet 55 = .ok (.iconst 0, 1) := by decide +kernel
theorem dX3_takeFeet_56 : decode cX3_takeFeet 56 = .ok (.ireturn, 1) := by decide +kernel
theorem dX3_takeFeet_8 : decode cX3_takeFeet 8 = .ok (.aload_n 0, 1) := by decide +kernel
theorem dX3_takeFeet_9 : decode cX3_takeFeet 9 = .ok (.getfield 21, 3) := by decide +kernel
theorem dX3_takeFeet_12 : decode cX3_takeFeet 12 = .ok (.getfield 100, 3) := by decide +kernel
theorem dX3_takeFeet_15 : decode cX3_takeFeet 15 = .ok (.iconst 5, 1) := by decide +kernel
theorem dX3_takeFeet_16 : decode cX3_takeFeet 16 = .ok (.if_icmp .ge 39, 3) := by decide +kernel
theorem dX3_takeFeet_19 : decode cX3_takeFeet 19 = .ok (.aload_n 0, 1) := by decide +kernel
theorem dX3_takeFeet_20 : decode cX3_takeFeet 20 = .ok (.getfield 32, 3) := by decide +kernel
theorem dX3_takeFeet_23 : decode cX3_takeFeet 23 = .ok (.iconst 0, 1) := by decide +kernel
theorem dX3_takeFeet_24 : decode cX3_takeFeet 24 = .ok (.invokestatic 88, 3) := by decide +kernel
theorem dX3_takeFeet_27 : decode cX3_takeFeet 27 = .ok (.bipush 10, 2) := by decide +kernel
theorem dX3_takeFeet_29 : decode cX3_takeFeet 29 = .ok (.bipush 72, 2) := by decide +kernel
theorem dX3_takeFeet_31 : decode cX3_takeFeet 31 = .ok (.invokestatic 103, 3) := by decide +kernel
theorem dX3_takeFeet_34 : decode cX3_takeFeet 34 = .ok (.ifCond .eq 21, 3) := by decide +kernel
theorem dX3_takeFeet_37 : decode cX3_takeFeet 37 = .ok (.aload_n 0, 1) := by decide +kernel
theorem dX3_takeFeet_38 : decode cX3_takeFeet 38 = .ok (.getfield 32, 3) := by decide +kernel
theorem dX3_takeFeet_41 : decode cX3_takeFeet 41 = .ok (.iconst 1, 1) := by decide +kernel
theorem dX3_takeFeet_42 : decode cX3_takeFeet 42 = .ok (.invokestatic 88, 3) := by decide +kernel
theorem dX3_takeFeet_45 : decode cX3_takeFeet 45 = .ok (.bipush 10, 2) := by decide +kernel
theorem dX3_takeFeet_47 : decode cX3_takeFeet 47 = .ok (.bipush 72, 2) := by decide +kernel
theorem dX3_takeFeet_49 : decode cX3_takeFeet 49 = .ok (.invokestatic 103, 3) := by decide +kernel
theorem dX3_takeFeet_52 : decode cX3_takeFeet 52 = .ok (.ifCond .ne 5, 3) := by decide +kernel
theorem dX3_takeFeet_57 : decode cX3_takeFeet 57 = .ok (.aload_n 0, 1) := by decide +kernel
theorem dX3_takeFeet_58 : decode cX3_takeFeet 58 = .ok (.getfield 21, 3) := by decide +kernel
theorem dX3_takeFeet_61 : decode cX3_takeFeet 61 = .ok (.aload_n 0, 1) := by decide +kernel
theorem dX3_takeFeet_62 : decode cX3_takeFeet 62 = .ok (.getfield 32, 3) := by decide +kernel
theorem dX3_takeFeet_65 : decode cX3_takeFeet 65 = .ok (.iconst 0, 1) := by decide +kernel
theorem dX3_takeFeet_66 : decode cX3_takeFeet 66 = .ok (.invokestatic 88, 3) := by decide +kernel
theorem dX3_takeFeet_69 : decode cX3_takeFeet 69 = .ok (.aload_n 0, 1) := by decide +kernel
theorem dX3_takeFeet_70 : decode cX3_takeFeet 70 = .ok (.getfield 32, 3) := by decide +kernel
theorem dX3_takeFeet_73 : decode cX3_takeFeet 73 = .ok (.iconst 1, 1) := by decide +kernel
theorem dX3_takeFeet_74 : decode cX3_takeFeet 74 = .ok (.invokestatic 88, 3) := by decide +kernel
theorem kw355 : Cond.code yX6_add cX6_add 3 none ∈ Tg := mem_Tg (List.mem_append_right _ (List.mem_of_getElem? (i := 355) (by decide +kernel))) (by decide +kernel)
theorem dX3_takeFeet_77 : decode cX3_takeFeet 77 = .ok (.invokevirtual 107, 3) := by decide +kernel
theorem dX3_takeFeet_80 : decode cX3_takeFeet 80 = .ok (.iconst 1, 1) := by decide +kernel
theorem dX3_takeFeet_81 : decode cX3_takeFeet 81 = .ok (.ireturn, 1) := by decide +kernel
theorem dX3_takeLog_0 : decode cX3_takeLog 0 = .ok (.aload_n 0, 1) := by decide +kernel
theorem dX3_takeLog_1 : decode cX3_takeLog 1 = .ok (.getfield 66, 3) := by decide +kernel
theorem dX3_takeLog_4 : decode cX3_takeLog 4 = .ok (.iconst 2, 1) := by decide +kernel
theorem dX3_takeLog_5 : decode cX3_takeLog 5 = .ok (.if_icmp .ne 37, 3) := by decide +kernel
theorem dX3_takeLog_42 : decode cX3_takeLog 42 = .ok (.iconst 0, 1) := by decide +kernel
theorem dX3_takeLog_43 : decode cX3_takeLog 43 = .ok (.ireturn, 1) := by decide +kernel
theorem dX3_takeLog_8 : decode cX3_takeLog 8 = .ok (.aload_n 0, 1) := by decide +kernel
theorem dX3_takeLog_9 : decode cX3_takeLog 9 = .ok (.getfield 32, 3) := by decide +kernel
theorem dX3_takeLog_12 : decode cX3_takeLog 12 = .ok (.iconst 0, 1) := by decide +kernel
theorem dX3_takeLog_13 : decode cX3_takeLog 13 = .ok (.invokestatic 88, 3) := by decide +kernel
theorem dX3_takeLog_16 : decode cX3_takeLog 16 = .ok (.iconst 1, 1) := by decide +kernel
theorem dX3_takeLog_17 : decode cX3_takeLog 17 = .ok (.bipush 40, 2) := by decide +kernel
theorem dX3_takeLog_19 : decode cX3_takeLog 19 = .ok (.invokestatic 103, 3) := by decide +kernel
theorem dX3_takeLog_22 : decode cX3_takeLog 22 = .ok (.ifCond .eq 20, 3) := by decide +kernel
theorem dX3_takeLog_25 : decode cX3_takeLog 25 = .ok (.aload_n 0, 1) := by decide +kernel
theorem dX3_takeLog_26 : decode cX3_takeLog 26 = .ok (.getfield 32, 3) := by decide +kernel
theorem dX3_takeLog_29 : decode cX3_takeLog 29 = .ok (.iconst 1, 1) := by decide +kernel
theorem dX3_takeLog_30 : decode cX3_takeLog 30 = .ok (.invokestatic 88, 3) := by decide +kernel
theorem dX3_takeLog_33 : decode cX3_takeLog 33 = .ok (.iconst 2, 1) := by decide +kernel
theorem dX3_takeLog_34 : decode cX3_takeLog 34 = .ok (.bipush 9, 2) := by decide +kernel
theorem dX3_takeLog_36 : decode cX3_takeLog 36 = .ok (.invokestatic 103, 3) := by decide +kernel
theorem dX3_takeLog_39 : decode cX3_takeLog 39 = .ok (.ifCond .ne 5, 3) := by decide +kernel
theorem dX3_takeLog_44 : decode cX3_takeLog 44 = .ok (.aload_n 0, 1) := by decide +kernel
theorem dX3_takeLog_45 : decode cX3_takeLog 45 = .ok (.getfield 28, 3) := by decide +kernel
theorem dX3_takeLog_48 : decode cX3_takeLog 48 = .ok (.aload_n 0, 1) := by decide +kernel
theorem dX3_takeLog_49 : decode cX3_takeLog 49 = .ok (.getfield 32, 3) := by decide +kernel
theorem dX3_takeLog_52 : decode cX3_takeLog 52 = .ok (.iconst 0, 1) := by decide +kernel
theorem dX3_takeLog_53 : decode cX3_takeLog 53 = .ok (.invokestatic 88, 3) := by decide +kernel
theorem dX3_takeLog_56 : decode cX3_takeLog 56 = .ok (.putfield 110, 3) := by decide +kernel
theorem dX3_takeLog_59 : decode cX3_takeLog 59 = .ok (.aload_n 0, 1) := by decide +kernel
theorem dX3_takeLog_60 : decode cX3_takeLog 60 = .ok (.getfield 28, 3) := by decide +kernel
theorem dX3_takeLog_63 : decode cX3_takeLog 63 = .ok (.aload_n 0, 1) := by decide +kernel
theorem dX3_takeLog_64 : decode cX3_takeLog 64 = .ok (.getfield 32, 3) := by decide +kernel
theorem dX3_takeLog_67 : decode cX3_takeLog 67 = .ok (.iconst 1, 1) := by decide +kernel
theorem dX3_takeLog_68 : decode cX3_takeLog 68 = .ok (.invokestatic 88, 3) := by decide +kernel
theorem dX3_takeLog_71 : decode cX3_takeLog 71 = .ok (.putfield 111, 3) := by decide +kernel
theorem dX3_takeLog_74 : decode cX3_takeLog 74 = .ok (.iconst 1, 1) := by decide +kernel
theorem dX3_takeLog_75 : decode cX3_takeLog 75 = .ok (.ireturn, 1) := by decide +kernel
theorem dX3_takeKnot_0 : decode cX3_takeKnot 0 = .ok (.aload_n 0, 1) := by decide +kernel
theorem dX3_takeKnot_1 : decode cX3_takeKnot 1 = .ok (.getfield 66, 3) := by decide +kernel
theorem dX3_takeKnot_4 : decode cX3_takeKnot 4 = .ok (.iconst 1, 1) := by decide +kernel
theorem dX3_takeKnot_5 : decode cX3_takeKnot 5 = .ok (.if_icmp .ne 20, 3) := by decide +kernel
theorem dX3_takeKnot_25 : decode cX3_takeKnot 25 = .ok (.iconst 0, 1) := by decide +kernel
theorem dX3_takeKnot_26 : decode cX3_takeKnot 26 = .ok (.ireturn, 1) := by decide +kernel
theorem dX3_takeKnot_8 : decode cX3_takeKnot 8 = .ok (.aload_n 0, 1) := by decide +kernel
theorem dX3_takeKnot_9 : decode cX3_takeKnot 9 = .ok (.getfield 32, 3) := by decide +kernel
theorem dX3_takeKnot_12 : decode cX3_takeKnot 12 = .ok (.iconst 0, 1) := by decide +kernel
theorem dX3_takeKnot_13 : decode cX3_takeKnot 13 = .ok (.invokestatic 88, 3) := by decide +kernel
theorem dX3_takeKnot_16 : decode cX3_takeKnot 16 = .ok (.iconst 0, 1) := by decide +kernel
theorem dX3_takeKnot_17 : decode cX3_takeKnot 17 = .ok (.bipush 39, 2) := by decide +kernel
theorem dX3_takeKnot_19 : decode cX3_takeKnot 19 = .ok (.invokestatic 103, 3) := by decide +kernel
theorem dX3_takeKnot_22 : decode cX3_takeKnot 22 = .ok (.ifCond .ne 5, 3) := by decide +kernel
theorem dX3_takeKnot_27 : decode cX3_takeKnot 27 = .ok (.aload_n 0, 1) := by decide +kernel
theorem dX3_takeKnot_28 : decode cX3_takeKnot 28 = .ok (.getfield 28, 3) := by decide +kernel
theorem dX3_takeKnot_31 : decode cX3_takeKnot 31 = .ok (.dup, 1) := by decide +kernel
theorem dX3_takeKnot_32 : decode cX3_takeKnot 32 = .ok (.getfield 114, 3) := by decide +kernel
theorem dX3_takeKnot_35 : decode cX3_takeKnot 35 = .ok (.lconst 1, 1) := by decide +kernel
theorem dX3_takeKnot_36 : decode cX3_takeKnot 36 = .ok (.aload_n 0, 1) := by decide +kernel
theorem dX3_takeKnot_37 : decode cX3_takeKnot 37 = .ok (.getfield 32, 3) := by decide +kernel
theorem dX3_takeKnot_40 : decode cX3_takeKnot 40 = .ok (.iconst 0, 1) := by decide +kernel
theorem dX3_takeKnot_41 : decode cX3_takeKnot 41 = .ok (.invokestatic 88, 3) := by decide +kernel
theorem dX3_takeKnot_44 : decode cX3_takeKnot 44 = .ok (.lshl, 1) := by decide +kernel
theorem dX3_takeKnot_45 : decode cX3_takeKnot 45 = .ok (.lor, 1) := by decide +kernel
theorem dX3_takeKnot_46 : decode cX3_takeKnot 46 = .ok (.putfield 114, 3) := by decide +kernel
theorem dX3_takeKnot_49 : decode cX3_takeKnot 49 = .ok (.iconst 1, 1) := by decide +kernel
theorem dX3_takeKnot_50 : decode cX3_takeKnot 50 = .ok (.ireturn, 1) := by decide +kernel
theorem dX3_takeStocking_0 : decode cX3_takeStocking 0 = .ok (.aload_n 0, 1) := by decide +kernel
theorem dX3_takeStocking_1 : decode cX3_takeStocking 1 = .ok (.getfield 66, 3) := by decide +kernel
theorem dX3_takeStocking_4 : decode cX3_takeStocking 4 = .ok (.iconst 1, 1) := by decide +kernel
theorem dX3_takeStocking_5 : decode cX3_takeStocking 5 = .ok (.if_icmp .ne 20, 3) := by decide +kernel
theorem dX3_takeStocking_25 : decode cX3_takeStocking 25 = .ok (.iconst 0, 1) := by decide +kernel
theorem dX3_takeStocking_26 : decode cX3_takeStocking 26 = .ok (.ireturn, 1) := by decide +kernel
theorem dX3_takeStocking_8 : decode cX3_takeStocking 8 = .ok (.aload_n 0, 1) := by decide +kernel
theorem dX3_takeStocking_9 : decode cX3_takeStocking 9 = .ok (.getfield 32, 3) := by decide +kernel
theorem dX3_takeStocking_12 : decode cX3_takeStocking 12 = .ok (.iconst 0, 1) := by decide +kernel
theorem dX3_takeStocking_13 : decode cX3_takeStocking 13 = .ok (.invokestatic 88, 3) := by decide +kernel
theorem dX3_takeStocking_16 : decode cX3_takeStocking 16 = .ok (.iconst 0, 1) := by decide +kernel
theorem dX3_takeStocking_17 : decode cX3_takeStocking 17 = .ok (.bipush 6, 2) := by decide +kernel
theorem dX3_takeStocking_19 : decode cX3_takeStocking 19 = .ok (.invokestatic 103, 3) := by decide +kernel
theorem dX3_takeStocking_22 : decode cX3_takeStocking 22 = .ok (.ifCond .ne 5, 3) := by decide +kernel
theorem dX3_takeStocking_27 : decode cX3_takeStocking 27 = .ok (.aload_n 0, 1) := by decide +kernel
theorem dX3_takeStocking_28 : decode cX3_takeStocking 28 = .ok (.getfield 21, 3) := by decide +kernel
theorem dX3_takeStocking_31 : decode cX3_takeStocking 31 = .ok (.aload_n 0, 1) := by decide +kernel
theorem dX3_takeStocking_32 : decode cX3_takeStocking 32 = .ok (.getfield 32, 3) := by decide +kernel
theorem dX3_takeStocking_35 : decode cX3_takeStocking 35 = .ok (.iconst 0, 1) := by decide +kernel
theorem dX3_takeStocking_36 : decode cX3_takeStocking 36 = .ok (.invokestatic 88, 3) := by decide +kernel
theorem dX3_takeStocking_39 : decode cX3_takeStocking 39 = .ok (.putfield 118, 3) := by decide +kernel
theorem dX3_takeStocking_42 : decode cX3_takeStocking 42 = .ok (.iconst 1, 1) := by decide +kernel
theorem dX3_takeStocking_43 : decode cX3_takeStocking 43 = .ok (.ireturn, 1) := by decide +kernel
theorem dX3_take_0 : decode cX3_take 0 = .ok (.iload_n 1, 1) := by decide +kernel
theorem dX3_take_1 : decode cX3_take 1 = .ok (.lookupswitch 76 #[(99, 51), (102, 56), (103, 61), (107, 66), (115, 71)], 51) := by decide +kernel
theorem dX3_take_52 : decode cX3_take 52 = .ok (.aload_n 0, 1) := by decide +kernel
theorem kw329 : Cond.code yX3_takeClog cX3_takeClog 1 (some .boolean) ∈ Tg := mem_Tg (List.mem_append_right _ (List.mem_of_getElem? (i := 329) (by decide +kernel))) (by decide +kernel)
theorem dX3_take_53 : decode cX3_take 53 = .ok (.invokevirtual 69, 3) := by decide +kernel
theorem dX3_take_56 : decode cX3_take 56 = .ok (.ireturn, 1) := by decide +kernel
theorem dX3_take_57 : decode cX3_take 57 = .ok (.aload_n 0, 1) := by decide +kernel
theorem kw350 : Cond.code yX3_takeFeet cX3_takeFeet 1 (some .boolean) ∈ Tg := mem_Tg (List.mem_append_right _ (List.mem_of_getElem? (i := 350) (by decide +kernel))) (by decide +kernel)
theorem dX3_take_58 : decode cX3_take 58 = .ok (.invokevirtual 73, 3) := by decide +kernel
theorem dX3_take_61 : decode cX3_take 61 = .ok (.ireturn, 1) := by decide +kernel
theorem dX3_take_62 : decode cX3_take 62 = .ok (.aload_n 0, 1) := by decide +kernel
theorem kw360 : Cond.code yX3_takeLog cX3_takeLog 1 (some .boolean) ∈ Tg := mem_Tg (List.mem_append_right _ (List.mem_of_getElem? (i := 360) (by decide +kernel))) (by decide +kernel)
theorem dX3_take_63 : decode cX3_take 63 = .ok (.invokevirtual 76, 3) := by decide +kernel
theorem dX3_take_66 : decode cX3_take 66 = .ok (.ireturn, 1) := by decide +kernel
theorem dX3_take_67 : decode cX3_take 67 = .ok (.aload_n 0, 1) := by decide +kernel
theorem kw364 : Cond.code yX3_takeKnot cX3_takeKnot 1 (some .boolean) ∈ Tg := mem_Tg (List.mem_append_right _ (List.mem_of_getElem? (i := 364) (by decide +kernel))) (by decide +kernel)
theorem dX3_take_68 : decode cX3_take 68 = .ok (.invokevirtual 79, 3) := by decide +kernel
theorem dX3_take_71 : decode cX3_take 71 = .ok (.ireturn, 1) := by decide +kernel
theorem dX3_take_72 : decode cX3_take 72 = .ok (.aload_n 0, 1) := by decide +kernel
theorem kw368 : Cond.code yX3_takeStocking cX3_takeStocking 1 (some .boolean) ∈ Tg := mem_Tg (List.mem_append_right _ (List.mem_of_getElem? (i := 368) (by decide +kernel))) (by decide +kernel)
theorem dX3_take_73 : decode cX3_take 73 = .ok (.invokevirtual 82, 3) := by decide +kernel
theorem dX3_take_76 : decode cX3_take 76 = .ok (.ireturn, 1) := by decide +kernel
theorem dX3_take_77 : decode cX3_take 77 = .ok (.iconst 0, 1) := by decide +kernel
theorem dX3_take_78 : decode cX3_take 78 = .ok (.ireturn, 1) := by decide +kernel
theorem dX3_read_0 : decode cX3_read 0 = .ok (.aload_n 0, 1) := by decide +kernel
theorem dX3_read_1 : decode cX3_read 1 = .ok (.getfield 12, 3) := by decide +kernel
theorem kw297 : Cond.code yX4_clear cX4_clear 1 none ∈ Tg := mem_Tg (List.mem_append_right _ (List.mem_of_getElem? (i := 297) (by decide +kernel))) (by decide +kernel)
theorem dX3_read_4 : decode cX3_read 4 = .ok (.invokevirtual 36, 3) := by decide +kernel
theorem dX3_read_7 : decode cX3_read 7 = .ok (.aload_n 0, 1) := by decide +kernel
theorem dX3_read_8 : decode cX3_read 8 = .ok (.getfield 21, 3) := by decide +kernel
theorem kw301 : Cond.code yX6_clear cX6_clear 1 none ∈ Tg := mem_Tg (List.mem_append_right _ (List.mem_of_getElem? (i := 301) (by decide +kernel))) (by decide +kernel)
theorem dX3_read_11 : decode cX3_read 11 = .ok (.invokevirtual 39, 3) := by decide +kernel
theorem dX3_read_14 : decode cX3_read 14 = .ok (.aload_n 0, 1) := by decide +kernel
theorem dX3_read_15 : decode cX3_read 15 = .ok (.getfield 28, 3) := by decide +kernel
theorem kw305 : Cond.code yX0_clear cX0_clear 1 none ∈ Tg := mem_Tg (List.mem_append_right _ (List.mem_of_getElem? (i := 305) (by decide +kernel))) (by decide +kernel)
theorem dX3_read_18 : decode cX3_read 18 = .ok (.invokevirtual 40, 3) := by decide +kernel
theorem dX3_read_21 : decode cX3_read 21 = .ok (.aload_n 1, 1) := by decide +kernel
theorem dX3_read_22 : decode cX3_read 22 = .ok (.ifnonnull 6, 3) := by decide +kernel
theorem dX3_read_28 : decode cX3_read 28 = .ok (.iconst 0, 1) := by decide +kernel
theorem dX3_read_29 : decode cX3_read 29 = .ok (.istore_n 2, 1) := by decide +kernel
theorem dX3_read_30 : decode cX3_read 30 = .ok (.iconst 0, 1) := by decide +kernel
theorem dX3_read_31 : decode cX3_read 31 = .ok (.istore_n 3, 1) := by decide +kernel
theorem dX3_read_32 : decode cX3_read 32 = .ok (.iload_n 3, 1) := by decide +kernel
theorem dX3_read_33 : decode cX3_read 33 = .ok (.sipush 200, 3) := by decide +kernel
theorem dX3_read_36 : decode cX3_read 36 = .ok (.if_icmp .ge 49, 3) := by decide +kernel
theorem dX3_read_39 : decode cX3_read 39 = .ok (.iload_n 2, 1) := by decide +kernel
theorem dX3_read_40 : decode cX3_read 40 = .ok (.aload_n 1, 1) := by decide +kernel
theorem dX3_read_41 : decode cX3_read 41 = .ok (.getfield 41, 3) := by decide +kernel
theorem dX3_read_44 : decode cX3_read 44 = .ok (.if_icmp .ge 41, 3) := by decide +kernel
theorem dX3_read_47 : decode cX3_read 47 = .ok (.aload_n 0, 1) := by decide +kernel
theorem dX3_read_48 : decode cX3_read 48 = .ok (.aload_n 1, 1) := by decide +kernel
theorem dX3_read_49 : decode cX3_read 49 = .ok (.iload_n 2, 1) := by decide +kernel
theorem dX3_read_50 : decode cX3_read 50 = .ok (.iconst 1, 1) := by decide +kernel
theorem dX3_read_51 : decode cX3_read 51 = .ok (.iadd, 1) := by decide +kernel
theorem kw309 : Cond.code yX3_readNumbers cX3_readNumbers 8 (some .int) ∈ Tg := mem_Tg (List.mem_append_right _ (List.mem_of_getElem? (i := 309) (by decide +kernel))) (by decide +kernel)
theorem dX3_read_52 : decode cX3_read 52 = .ok (.invokevirtual 47, 3) := by decide +kernel
theorem dX3_read_55 : decode cX3_read 55 = .ok (.istore 4, 2) := by decide +kernel
theorem dX3_read_57 : decode cX3_read 57 = .ok (.iload 4, 2) := by decide +kernel
theorem dX3_read_59 : decode cX3_read 59 = .ok (.ifCond .lt 15, 3) := by decide +kernel
theorem dX3_read_74 : decode cX3_read 74 = .ok (.iload_n 2, 1) := by decide +kernel
theorem dX3_read_75 : decode cX3_read 75 = .ok (.ireturn, 1) := by decide +kernel
theorem dX3_read_62 : decode cX3_read 62 = .ok (.aload_n 0, 1) := by decide +kernel
theorem dX3_read_63 : decode cX3_read 63 = .ok (.aload_n 1, 1) := by decide +kernel
theorem dX3_read_64 : decode cX3_read 64 = .ok (.iload_n 2, 1) := by decide +kernel
theorem dX3_read_65 : decode cX3_read 65 = .ok (.invokevirtual 51, 3) := by decide +kernel
theorem kw325 : Cond.code yX3_take cX3_take 2 (some .boolean) ∈ Tg := mem_Tg (List.mem_append_right _ (List.mem_of_getElem? (i := 325) (by decide +kernel))) (by decide +kernel)
theorem dX3_read_68 : decode cX3_read 68 = .ok (.invokevirtual 55, 3) := by decide +kernel
theorem dX3_read_71 : decode cX3_read 71 = .ok (.ifCond .ne 5, 3) := by decide +kernel
theorem dX3_read_76 : decode cX3_read 76 = .ok (.iload 4, 2) := by decide +kernel
theorem dX3_read_78 : decode cX3_read 78 = .ok (.istore_n 2, 1) := by decide +kernel
theorem dX3_read_79 : decode cX3_read 79 = .ok (.iinc 3 1, 3) := by decide +kernel
theorem dX3_read_82 : decode cX3_read 82 = .ok (.goto (-50), 3) := by decide +kernel
theorem dX3_read_85 : decode cX3_read 85 = .ok (.bipush (-4), 2) := by decide +kernel
theorem dX3_read_87 : decode cX3_read 87 = .ok (.ireturn, 1) := by decide +kernel
theorem dX1_look_0 : decode cX1_look 0 = .ok (.aload_n 1, 1) := by decide +kernel
theorem dX1_look_1 : decode cX1_look 1 = .ok (.ifnonnull 4, 3) := by decide +kernel
theorem dX1_look_5 : decode cX1_look 5 = .ok (.aload_n 0, 1) := by decide +kernel
theorem dX1_look_6 : decode cX1_look 6 = .ok (.iconst 0, 1) := by decide +kernel
theorem dX1_look_7 : decode cX1_look 7 = .ok (.bipush 10, 2) := by decide +kernel
theorem dX1_look_9 : decode cX1_look 9 = .ok (.aload_n 1, 1) := by decide +kernel
theorem dX1_look_10 : decode cX1_look 10 = .ok (.getfield 24, 3) := by decide +kernel
theorem dX1_look_13 : decode cX1_look 13 = .ok (.invokestatic 30, 3) := by decide +kernel
theorem dX1_look_16 : decode cX1_look 16 = .ok (.invokestatic 36, 3) := by decide +kernel
theorem dX1_look_19 : decode cX1_look 19 = .ok (.putfield 39, 3) := by decide +kernel
theorem dX1_look_22 : decode cX1_look 22 = .ok (.aload_n 0, 1) := by decide +kernel
theorem dX1_look_23 : decode cX1_look 23 = .ok (.aload_n 1, 1) := by decide +kernel
theorem dX1_look_24 : decode cX1_look 24 = .ok (.iconst 0, 1) := by decide +kernel
theorem kw572 : Cond.code yX4_ofSide cX4_ofSide 4 (some .int) ∈ Tg := mem_Tg (List.mem_append_right _ (List.mem_of_getElem? (i := 572) (by decide +kernel))) (by decide +kernel)
theorem dX1_look_25 : decode cX1_look 25 = .ok (.invokevirtual 40, 3) := by decide +kernel
theorem dX1_look_28 : decode cX1_look 28 = .ok (.putfield 44, 3) := by decide +kernel
theorem dX1_look_31 : decode cX1_look 31 = .ok (.iconst 0, 1) := by decide +kernel
theorem dX1_look_32 : decode cX1_look 32 = .ok (.istore_n 2, 1) := by decide +kernel
theorem dX1_look_33 : decode cX1_look 33 = .ok (.iload_n 2, 1) := by decide +kernel
theorem dX1_look_34 : decode cX1_look 34 = .ok (.aload_n 0, 1) := by decide +kernel
theorem dX1_look_35 : decode cX1_look 35 = .ok (.getfield 39, 3) := by decide +kernel
theorem dX1_look_38 : decode cX1_look 38 = .ok (.if_icmp .ge 39, 3) := by decide +kernel
theorem dX1_look_41 : decode cX1_look 41 = .ok (.aload_n 0, 1) := by decide +kernel
theorem dX1_look_42 : decode cX1_look 42 = .ok (.getfield 15, 3) := by decide +kernel
theorem dX1_look_45 : decode cX1_look 45 = .ok (.iload_n 2, 1) := by decide +kernel
theorem dX1_look_46 : decode cX1_look 46 = .ok (.aload_n 1, 1) := by decide +kernel
theorem dX1_look_47 : decode cX1_look 47 = .ok (.iload_n 2, 1) := by decide +kernel
theorem kw557 : Cond.code yX4_matesOf cX4_matesOf 4 (some .int) ∈ Tg := mem_Tg (List.mem_append_right _ (List.mem_of_getElem? (i := 557) (by decide +kernel))) (by decide +kernel)
theorem dX1_look_48 : decode cX1_look 48 = .ok (.invokevirtual 47, 3) := by decide +kernel
theorem dX1_look_51 : decode cX1_look 51 = .ok (.invokestatic 50, 3) := by decide +kernel
theorem dX1_look_54 : decode cX1_look 54 = .ok (.aload_n 0, 1) := by decide +kernel
theorem dX1_look_55 : decode cX1_look 55 = .ok (.getfield 18, 3) := by decide +kernel
theorem dX1_look_58 : decode cX1_look 58 = .ok (.iload_n 2, 1) := by decide +kernel
theorem dX1_look_59 : decode cX1_look 59 = .ok (.aload_n 1, 1) := by decide +kernel
theorem dX1_look_60 : decode cX1_look 60 = .ok (.iload_n 2, 1) := by decide +kernel
theorem dX1_look_61 : decode cX1_look 61 = .ok (.aload_n 1, 1) := by decide +kernel
theorem dX1_look_62 : decode cX1_look 62 = .ok (.getfield 54, 3) := by decide +kernel
theorem dX1_look_65 : decode cX1_look 65 = .ok (.invokevirtual 57, 3) := by decide +kernel
theorem dX1_look_68 : decode cX1_look 68 = .ok (.invokestatic 50, 3) := by decide +kernel
theorem dX1_look_71 : decode cX1_look 71 = .ok (.iinc 2 1, 3) := by decide +kernel
theorem dX1_look_74 : decode cX1_look 74 = .ok (.goto (-41), 3) := by decide +kernel
theorem dX1_look_77 : decode cX1_look 77 = .ok (.return_, 1) := by decide +kernel
theorem dX1_distance_0 : decode cX1_distance 0 = .ok (.aload_n 0, 1) := by decide +kernel
theorem dX1_distance_1 : decode cX1_distance 1 = .ok (.getfield 18, 3) := by decide +kernel
theorem dX1_distance_4 : decode cX1_distance 4 = .ok (.iload_n 1, 1) := by decide +kernel
theorem dX1_distance_5 : decode cX1_distance 5 = .ok (.invokestatic 86, 3) := by decide +kernel
theorem dX1_distance_8 : decode cX1_distance 8 = .ok (.aload_n 0, 1) := by decide +kernel
theorem dX1_distance_9 : decode cX1_distance 9 = .ok (.getfield 18, 3) := by decide +kernel
theorem dX1_distance_12 : decode cX1_distance 12 = .ok (.iload_n 2, 1) := by decide +kernel
theorem dX1_distance_13 : decode cX1_distance 13 = .ok (.invokestatic 86, 3) := by decide +kernel
theorem dX1_distance_16 : decode cX1_distance 16 = .ok (.isub, 1) := by decide +kernel
theorem dX1_distance_17 : decode cX1_distance 17 = .ok (.invokestatic 97, 3) := by decide +kernel
theorem dX1_distance_20 : decode cX1_distance 20 = .ok (.ireturn, 1) := by decide +kernel
theorem dX1_worthOf_0 : decode cX1_worthOf 0 = .ok (.aload_n 0, 1) := by decide +kernel
theorem dX1_worthOf_1 : decode cX1_worthOf 1 = .ok (.getfield 9, 3) := by decide +kernel
theorem dX1_worthOf_4 : decode cX1_worthOf 4 = .ok (.iload_n 1, 1) := by decide +kernel
theorem dX1_worthOf_5 : decode cX1_worthOf 5 = .ok (.iconst 1, 1) := by decide +kernel
theorem dX1_worthOf_6 : decode cX1_worthOf 6 = .ok (.iload_n 2, 1) := by decide +kernel
theorem dX1_worthOf_7 : decode cX1_worthOf 7 = .ok (.ishl, 1) := by decide +kernel
theorem dX1_worthOf_8 : decode cX1_worthOf 8 = .ok (.ior, 1) := by decide +kernel
theorem dX1_worthOf_9 : decode cX1_worthOf 9 = .ok (.iconst 1, 1) := by decide +kernel
theorem dX1_worthOf_10 : decode cX1_worthOf 10 = .ok (.iload_n 3, 1) := by decide +kernel
theorem dX1_worthOf_11 : decode cX1_worthOf 11 = .ok (.ishl, 1) := by decide +kernel
theorem dX1_worthOf_12 : decode cX1_worthOf 12 = .ok (.ior, 1) := by decide +kernel
theorem dX1_worthOf_13 : decode cX1_worthOf 13 = .ok (.invokestatic 86, 3) := by decide +kernel
theorem dX1_worthOf_16 : decode cX1_worthOf 16 = .ok (.sipush 1000, 3) := by decide +kernel
theorem dX1_worthOf_19 : decode cX1_worthOf 19 = .ok (.iadd, 1) := by decide +kernel
theorem dX1_worthOf_20 : decode cX1_worthOf 20 = .ok (.aload_n 0, 1) := by decide +kernel
theorem dX1_worthOf_21 : decode cX1_worthOf 21 = .ok (.iload_n 2, 1) := by decide +kernel
theorem dX1_worthOf_22 : decode cX1_worthOf 22 = .ok (.iload_n 3, 1) := by decide +kernel
theorem kw595 : Cond.code yX1_distance cX1_distance 3 (some .int) ∈ Tg := mem_Tg (List.mem_append_right _ (List.mem_of_getElem? (i := 595) (by decide +kernel))) (by decide +kernel)
theorem dX1_worthOf_23 : decode cX1_worthOf 23 = .ok (.invokevirtual 94, 3) := by decide +kernel
theorem dX1_worthOf_26 : decode cX1_worthOf 26 = .ok (.isub, 1) := by decide +kernel
theorem dX1_worthOf_27 : decode cX1_worthOf 27 = .ok (.ireturn, 1) := by decide +kernel
theorem dX1_bestWithout_0 : decode cX1_bestWithout 0 = .ok (.iconst 0, 1) := by decide +kernel
theorem dX1_bestWithout_1 : decode cX1_bestWithout 1 = .ok (.istore_n 2, 1) := by decide +kernel
theorem dX1_bestWithout_2 : decode cX1_bestWithout 2 = .ok (.iload_n 2, 1) := by decide +kernel
theorem dX1_bestWithout_3 : decode cX1_bestWithout 3 = .ok (.aload_n 0, 1) := by decide +kernel
theorem dX1_bestWithout_4 : decode cX1_bestWithout 4 = .ok (.getfield 39, 3) := by decide +kernel
theorem dX1_bestWithout_7 : decode cX1_bestWithout 7 = .ok (.if_icmp .ge 24, 3) := by decide +kernel
theorem dX1_bestWithout_10 : decode cX1_bestWithout 10 = .ok (.aload_n 0, 1) := by decide +kernel
theorem dX1_bestWithout_11 : decode cX1_bestWithout 11 = .ok (.getfield 44, 3) := by decide +kernel
theorem dX1_bestWithout_14 : decode cX1_bestWithout 14 = .ok (.iload_n 1, 1) := by decide +kernel
theorem dX1_bestWithout_15 : decode cX1_bestWithout 15 = .ok (.iconst (-1), 1) := by decide +kernel
theorem dX1_bestWithout_16 : decode cX1_bestWithout 16 = .ok (.ixor, 1) := by decide +kernel
theorem dX1_bestWithout_17 : decode cX1_bestWithout 17 = .ok (.iand, 1) := by decide +kernel
theorem dX1_bestWithout_18 : decode cX1_bestWithout 18 = .ok (.iload_n 2, 1) := by decide +kernel
theorem kw586 : Cond.code yX9_hasBit cX9_hasBit 2 (some .boolean) ∈ Tg := mem_Tg (List.mem_append_right _ (List.mem_of_getElem? (i := 586) (by decide +kernel))) (by decide +kernel)
theorem dX1_bestWithout_19 : decode cX1_bestWithout 19 = .ok (.invokestatic 75, 3) := by decide +kernel
theorem dX1_bestWithout_22 : decode cX1_bestWithout 22 = .ok (.ifCond .ne 9, 3) := by decide +kernel
theorem dX1_bestWithout_25 : decode cX1_bestWithout 25 = .ok (.iinc 2 1, 3) := by decide +kernel
theorem dX1_bestWithout_28 : decode cX1_bestWithout 28 = .ok (.goto (-26), 3) := by decide +kernel
theorem dX1_bestWithout_31 : decode cX1_bestWithout 31 = .ok (.iload_n 2, 1) := by decide +kernel
theorem dX1_bestWithout_32 : decode cX1_bestWithout 32 = .ok (.aload_n 0, 1) := by decide +kernel
theorem dX1_bestWithout_33 : decode cX1_bestWithout 33 = .ok (.getfield 39, 3) := by decide +kernel
theorem dX1_bestWithout_36 : decode cX1_bestWithout 36 = .ok (.if_icmp .ge 14, 3) := by decide +kernel
theorem dX1_bestWithout_50 : decode cX1_bestWithout 50 = .ok (.iconst 0, 1) := by decide +kernel
theorem dX1_bestWithout_51 : decode cX1_bestWithout 51 = .ok (.ireturn, 1) := by decide +kernel
theorem dX1_bestWithout_39 : decode cX1_bestWithout 39 = .ok (.aload_n 0, 1) := by decide +kernel
theorem dX1_bestWithout_40 : decode cX1_bestWithout 40 = .ok (.getfield 44, 3) := by decide +kernel
theorem dX1_bestWithout_43 : decode cX1_bestWithout 43 = .ok (.iload_n 1, 1) := by decide +kernel
theorem dX1_bestWithout_44 : decode cX1_bestWithout 44 = .ok (.iand, 1) := by decide +kernel
theorem dX1_bestWithout_45 : decode cX1_bestWithout 45 = .ok (.iload_n 2, 1) := by decide +kernel
theorem dX1_bestWithout_46 : decode cX1_bestWithout 46 = .ok (.ishr, 1) := by decide +kernel
theorem dX1_bestWithout_47 : decode cX1_bestWithout 47 = .ok (.ifCond .eq 5, 3) := by decide +kernel
theorem dX1_bestWithout_52 : decode cX1_bestWithout 52 = .ok (.aload_n 0, 1) := by decide +kernel
theorem dX1_bestWithout_53 : decode cX1_bestWithout 53 = .ok (.getfield 9, 3) := by decide +kernel
theorem dX1_bestWithout_56 : decode cX1_bestWithout 56 = .ok (.iload_n 1, 1) := by decide +kernel
theorem dX1_bestWithout_57 : decode cX1_bestWithout 57 = .ok (.iconst 1, 1) := by decide +kernel
theorem dX1_bestWithout_58 : decode cX1_bestWithout 58 = .ok (.iload_n 2, 1) := by decide +kernel
theorem dX1_bestWithout_59 : decode cX1_bestWithout 59 = .ok (.ishl, 1) := by decide +kernel
theorem dX1_bestWithout_60 : decode cX1_bestWithout 60 = .ok (.ior, 1) := by decide +kernel
theorem dX1_bestWithout_61 : decode cX1_bestWithout 61 = .ok (.invokestatic 86, 3) := by decide +kernel
theorem dX1_bestWithout_64 : decode cX1_bestWithout 64 = .ok (.istore_n 3, 1) := by decide +kernel
theorem dX1_bestWithout_65 : decode cX1_bestWithout 65 = .ok (.iconst 0, 1) := by decide +kernel
theorem dX1_bestWithout_66 : decode cX1_bestWithout 66 = .ok (.istore 4, 2) := by decide +kernel
theorem dX1_bestWithout_68 : decode cX1_bestWithout 68 = .ok (.iload 4, 2) := by decide +kernel
theorem dX1_bestWithout_70 : decode cX1_bestWithout 70 = .ok (.aload_n 0, 1) := by decide +kernel
theorem dX1_bestWithout_71 : decode cX1_bestWithout 71 = .ok (.getfield 39, 3) := by decide +kernel
theorem dX1_bestWithout_74 : decode cX1_bestWithout 74 = .ok (.if_icmp .ge 42, 3) := by decide +kernel
theorem dX1_bestWithout_77 : decode cX1_bestWithout 77 = .ok (.aload_n 0, 1) := by decide +kernel
theorem dX1_bestWithout_78 : decode cX1_bestWithout 78 = .ok (.getfield 15, 3) := by decide +kernel
theorem dX1_bestWithout_81 : decode cX1_bestWithout 81 = .ok (.iload_n 2, 1) := by decide +kernel
theorem dX1_bestWithout_82 : decode cX1_bestWithout 82 = .ok (.invokestatic 86, 3) := by decide +kernel
theorem dX1_bestWithout_85 : decode cX1_bestWithout 85 = .ok (.iload_n 1, 1) := by decide +kernel
theorem dX1_bestWithout_86 : decode cX1_bestWithout 86 = .ok (.iconst (-1), 1) := by decide +kernel
theorem dX1_bestWithout_87 : decode cX1_bestWithout 87 = .ok (.ixor, 1) := by decide +kernel
theorem dX1_bestWithout_88 : decode cX1_bestWithout 88 = .ok (.iand, 1) := by decide +kernel
theorem dX1_bestWithout_89 : decode cX1_bestWithout 89 = .ok (.iload 4, 2) := by decide +kernel
theorem dX1_bestWithout_91 : decode cX1_bestWithout 91 = .ok (.invokestatic 75, 3) := by decide +kernel
theorem dX1_bestWithout_94 : decode cX1_bestWithout 94 = .ok (.ifCond .eq 16, 3) := by decide +kernel
theorem dX1_bestWithout_110 : decode cX1_bestWithout 110 = .ok (.iinc 4 1, 3) := by decide +kernel
theorem dX1_bestWithout_113 : decode cX1_bestWithout 113 = .ok (.goto (-45), 3) := by decide +kernel
theorem dX1_bestWithout_97 : decode cX1_bestWithout 97 = .ok (.iload_n 3, 1) := by decide +kernel
theorem dX1_bestWithout_98 : decode cX1_bestWithout 98 = .ok (.aload_n 0, 1) := by decide +kernel
theorem dX1_bestWithout_99 : decode cX1_bestWithout 99 = .ok (.iload_n 1, 1) := by decide +kernel
theorem dX1_bestWithout_100 : decode cX1_bestWithout 100 = .ok (.iload_n 2, 1) := by decide +kernel
theorem dX1_bestWithout_101 : decode cX1_bestWithout 101 = .ok (.iload 4, 2) := by decide +kernel
theorem kw591 : Cond.code yX1_worthOf cX1_worthOf 4 (some .int) ∈ Tg := mem_Tg (List.mem_append_right _ (List.mem_of_getElem? (i := 591) (by decide +kernel))) (by decide +kernel)
theorem dX1_bestWithout_103 : decode cX1_bestWithout 103 = .ok (.invokevirtual 90, 3) := by decide +kernel
theorem dX1_bestWithout_106 : decode cX1_bestWithout 106 = .ok (.invokestatic 36, 3) := by decide +kernel
theorem dX1_bestWithout_109 : decode cX1_bestWithout 109 = .ok (.istore_n 3, 1) := by decide +kernel
theorem dX1_bestWithout_116 : decode cX1_bestWithout 116 = .ok (.iload_n 3, 1) := by decide +kernel
theorem dX1_bestWithout_117 : decode cX1_bestWithout 117 = .ok (.ireturn, 1) := by decide +kernel
theorem dX1_firstBest_0 : decode cX1_firstBest 0 = .ok (.iconst 0, 1) := by decide +kernel
theorem dX1_firstBest_1 : decode cX1_firstBest 1 = .ok (.istore_n 3, 1) := by decide +kernel
theorem dX1_firstBest_2 : decode cX1_firstBest 2 = .ok (.iload_n 3, 1) := by decide +kernel
theorem dX1_firstBest_3 : decode cX1_firstBest 3 = .ok (.aload_n 0, 1) := by decide +kernel
theorem dX1_firstBest_4 : decode cX1_firstBest 4 = .ok (.getfield 39, 3) := by decide +kernel
theorem dX1_firstBest_7 : decode cX1_firstBest 7 = .ok (.if_icmp .ge 48, 3) := by decide +kernel
theorem dX1_firstBest_10 : decode cX1_firstBest 10 = .ok (.aload_n 0, 1) := by decide +kernel
theorem dX1_firstBest_11 : decode cX1_firstBest 11 = .ok (.getfield 15, 3) := by decide +kernel
theorem dX1_firstBest_14 : decode cX1_firstBest 14 = .ok (.iload_n 2, 1) := by decide +kernel
theorem dX1_firstBest_15 : decode cX1_firstBest 15 = .ok (.invokestatic 86, 3) := by decide +kernel
theorem dX1_firstBest_18 : decode cX1_firstBest 18 = .ok (.iload_n 1, 1) := by decide +kernel
theorem dX1_firstBest_19 : decode cX1_firstBest 19 = .ok (.iconst (-1), 1) := by decide +kernel
theorem dX1_firstBest_20 : decode cX1_firstBest 20 = .ok (.ixor, 1) := by decide +kernel
theorem dX1_firstBest_21 : decode cX1_firstBest 21 = .ok (.iand, 1) := by decide +kernel
theorem dX1_firstBest_22 : decode cX1_firstBest 22 = .ok (.iload_n 3, 1) := by decide +kernel
theorem dX1_firstBest_23 : decode cX1_firstBest 23 = .ok (.invokestatic 75, 3) := by decide +kernel
theorem dX1_firstBest_26 : decode cX1_firstBest 26 = .ok (.ifCond .eq 23, 3) := by decide +kernel
theorem dX1_firstBest_49 : decode cX1_firstBest 49 = .ok (.iinc 3 1, 3) := by decide +kernel
theorem dX1_firstBest_52 : decode cX1_firstBest 52 = .ok (.goto (-50), 3) := by decide +kernel
theorem dX1_firstBest_29 : decode cX1_firstBest 29 = .ok (.aload_n 0, 1) := by decide +kernel
theorem dX1_firstBest_30 : decode cX1_firstBest 30 = .ok (.iload_n 1, 1) := by decide +kernel
theorem dX1_firstBest_31 : decode cX1_firstBest 31 = .ok (.iload_n 2, 1) := by decide +kernel
theorem dX1_firstBest_32 : decode cX1_firstBest 32 = .ok (.iload_n 3, 1) := by decide +kernel
theorem dX1_firstBest_33 : decode cX1_firstBest 33 = .ok (.invokevirtual 90, 3) := by decide +kernel
theorem dX1_firstBest_36 : decode cX1_firstBest 36 = .ok (.aload_n 0, 1) := by decide +kernel
theorem dX1_firstBest_37 : decode cX1_firstBest 37 = .ok (.getfield 9, 3) := by decide +kernel
theorem dX1_firstBest_40 : decode cX1_firstBest 40 = .ok (.iload_n 1, 1) := by decide +kernel
theorem dX1_firstBest_41 : decode cX1_firstBest 41 = .ok (.invokestatic 86, 3) := by decide +kernel
theorem dX1_firstBest_44 : decode cX1_firstBest 44 = .ok (.if_icmp .ne 5, 3) := by decide +kernel
theorem dX1_firstBest_47 : decode cX1_firstBest 47 = .ok (.iload_n 3, 1) := by decide +kernel
theorem dX1_firstBest_48 : decode cX1_firstBest 48 = .ok (.ireturn, 1) := by decide +kernel
theorem dX1_firstBest_55 : decode cX1_firstBest 55 = .ok (.bipush (-4), 2) := by decide +kernel
theorem dX1_firstBest_57 : decode cX1_firstBest 57 = .ok (.ireturn, 1) := by decide +kernel
theorem dX1_join_0 : decode cX1_join 0 = .ok (.aload_n 0, 1) := by decide +kernel
theorem dX1_join_1 : decode cX1_join 1 = .ok (.getfield 21, 3) := by decide +kernel
theorem dX1_join_4 : decode cX1_join 4 = .ok (.iload_n 1, 1) := by decide +kernel
theorem dX1_join_5 : decode cX1_join 5 = .ok (.iload_n 2, 1) := by decide +kernel
theorem dX1_join_6 : decode cX1_join 6 = .ok (.invokestatic 50, 3) := by decide +kernel
theorem dX1_join_9 : decode cX1_join 9 = .ok (.aload_n 0, 1) := by decide +kernel
theorem dX1_join_10 : decode cX1_join 10 = .ok (.getfield 21, 3) := by decide +kernel
theorem dX1_join_13 : decode cX1_join 13 = .ok (.iload_n 2, 1) := by decide +kernel
theorem dX1_join_14 : decode cX1_join 14 = .ok (.iload_n 1, 1) := by decide +kernel
theorem dX1_join_15 : decode cX1_join 15 = .ok (.invokestatic 50, 3) := by decide +kernel
theorem dX1_join_18 : decode cX1_join 18 = .ok (.aload_n 0, 1) := by decide +kernel
theorem dX1_join_19 : decode cX1_join 19 = .ok (.dup, 1) := by decide +kernel
theorem dX1_join_20 : decode cX1_join 20 = .ok (.getfield 69, 3) := by decide +kernel
theorem dX1_join_23 : decode cX1_join 23 = .ok (.iconst 1, 1) := by decide +kernel
theorem dX1_join_24 : decode cX1_join 24 = .ok (.iadd, 1) := by decide +kernel
theorem dX1_join_25 : decode cX1_join 25 = .ok (.putfield 69, 3) := by decide +kernel
theorem dX1_join_28 : decode cX1_join 28 = .ok (.aload_n 0, 1) := by decide +kernel
theorem dX1_join_29 : decode cX1_join 29 = .ok (.dup, 1) := by decide +kernel
theorem dX1_join_30 : decode cX1_join 30 = .ok (.getfield 72, 3) := by decide +kernel
theorem dX1_join_33 : decode cX1_join 33 = .ok (.aload_n 0, 1) := by decide +kernel
theorem dX1_join_34 : decode cX1_join 34 = .ok (.iload_n 1, 1) := by decide +kernel
theorem dX1_join_35 : decode cX1_join 35 = .ok (.iload_n 2, 1) := by decide +kernel
theorem dX1_join_36 : decode cX1_join 36 = .ok (.invokevirtual 94, 3) := by decide +kernel
theorem dX1_join_39 : decode cX1_join 39 = .ok (.iadd, 1) := by decide +kernel
theorem dX1_join_40 : decode cX1_join 40 = .ok (.putfield 72, 3) := by decide +kernel
theorem dX1_join_43 : decode cX1_join 43 = .ok (.return_, 1) := by decide +kernel
theorem dX1_match_0 : decode cX1_match 0 = .ok (.iconst 1, 1) := by decide +kernel
theorem dX1_match_1 : decode cX1_match 1 = .ok (.aload_n 0, 1) := by decide +kernel
theorem dX1_match_2 : decode cX1_match 2 = .ok (.getfield 39, 3) := by decide +kernel
theorem dX1_match_5 : decode cX1_match 5 = .ok (.ishl, 1) := by decide +kernel
theorem dX1_match_6 : decode cX1_match 6 = .ok (.iconst 1, 1) := by decide +kernel
theorem dX1_match_7 : decode cX1_match 7 = .ok (.isub, 1) := by decide +kernel
theorem dX1_match_8 : decode cX1_match 8 = .ok (.istore_n 1, 1) := by decide +kernel
theorem dX1_match_9 : decode cX1_match 9 = .ok (.iload_n 1, 1) := by decide +kernel
theorem dX1_match_10 : decode cX1_match 10 = .ok (.ifCond .lt 22, 3) := by decide +kernel
theorem dX1_match_13 : decode cX1_match 13 = .ok (.aload_n 0, 1) := by decide +kernel
theorem dX1_match_14 : decode cX1_match 14 = .ok (.getfield 9, 3) := by decide +kernel
theorem dX1_match_17 : decode cX1_match 17 = .ok (.iload_n 1, 1) := by decide +kernel
theorem dX1_match_18 : decode cX1_match 18 = .ok (.aload_n 0, 1) := by decide +kernel
theorem dX1_match_19 : decode cX1_match 19 = .ok (.iload_n 1, 1) := by decide +kernel
theorem kw583 : Cond.code yX1_bestWithout cX1_bestWithout 5 (some .int) ∈ Tg := mem_Tg (List.mem_append_right _ (List.mem_of_getElem? (i := 583) (by decide +kernel))) (by decide +kernel)
theorem dX1_match_20 : decode cX1_match 20 = .ok (.invokevirtual 60, 3) := by decide +kernel
theorem dX1_match_23 : decode cX1_match 23 = .ok (.invokestatic 50, 3) := by decide +kernel
theorem dX1_match_26 : decode cX1_match 26 = .ok (.iinc 1 (-1), 3) := by decide +kernel
theorem dX1_match_29 : decode cX1_match 29 = .ok (.goto (-20), 3) := by decide +kernel
theorem dX1_match_32 : decode cX1_match 32 = .ok (.aload_n 0, 1) := by decide +kernel
theorem dX1_match_33 : decode cX1_match 33 = .ok (.getfield 21, 3) := by decide +kernel
theorem dX1_match_36 : decode cX1_match 36 = .ok (.bipush (-4), 2) := by decide +kernel
theorem kw599 : Cond.code yJ7_fill_53178 cJ7_fill_53178 4 none ∈ Tg := mem_Tg (List.mem_append_right _ (List.mem_of_getElem? (i := 599) (by decide +kernel))) (by decide +kernel)
theorem dX1_match_38 : decode cX1_match 38 = .ok (.invokestatic 63, 3) := by decide +kernel
theorem dX1_match_41 : decode cX1_match 41 = .ok (.aload_n 0, 1) := by decide +kernel
theorem dX1_match_42 : decode cX1_match 42 = .ok (.iconst 0, 1) := by decide +kernel
theorem dX1_match_43 : decode cX1_match 43 = .ok (.putfield 69, 3) := by decide +kernel
theorem dX1_match_46 : decode cX1_match 46 = .ok (.aload_n 0, 1) := by decide +kernel
theorem dX1_match_47 : decode cX1_match 47 = .ok (.iconst 0, 1) := by decide +kernel
theorem dX1_match_48 : decode cX1_match 48 = .ok (.putfield 72, 3) := by decide +kernel
theorem dX1_match_51 : decode cX1_match 51 = .ok (.iconst 0, 1) := by decide +kernel
theorem dX1_match_52 : decode cX1_match 52 = .ok (.istore_n 1, 1) := by decide +kernel
theorem dX1_match_53 : decode cX1_match 53 = .ok (.iconst 0, 1) := by decide +kernel
theorem dX1_match_54 : decode cX1_match 54 = .ok (.istore_n 2, 1) := by decide +kernel
theorem dX1_match_55 : decode cX1_match 55 = .ok (.iload_n 2, 1) := by decide +kernel
theorem dX1_match_56 : decode cX1_match 56 = .ok (.aload_n 0, 1) := by decide +kernel
theorem dX1_match_57 : decode cX1_match 57 = .ok (.getfield 39, 3) := by decide +kernel
theorem dX1_match_60 : decode cX1_match 60 = .ok (.if_icmp .ge 49, 3) := by decide +kernel
theorem dX1_match_63 : decode cX1_match 63 = .ok (.aload_n 0, 1) := by decide +kernel
theorem dX1_match_64 : decode cX1_match 64 = .ok (.getfield 44, 3) := by decide +kernel
theorem dX1_match_67 : decode cX1_match 67 = .ok (.iload_n 2, 1) := by decide +kernel
theorem dX1_match_68 : decode cX1_match 68 = .ok (.invokestatic 75, 3) := by decide +kernel
theorem dX1_match_71 : decode cX1_match 71 = .ok (.ifCond .eq 32, 3) := by decide +kernel
theorem dX1_match_103 : decode cX1_match 103 = .ok (.iinc 2 1, 3) := by decide +kernel
theorem dX1_match_106 : decode cX1_match 106 = .ok (.goto (-51), 3) := by decide +kernel
theorem dX1_match_74 : decode cX1_match 74 = .ok (.aload_n 0, 1) := by decide +kernel
theorem dX1_match_75 : decode cX1_match 75 = .ok (.iload_n 1, 1) := by decide +kernel
theorem dX1_match_76 : decode cX1_match 76 = .ok (.iload_n 2, 1) := by decide +kernel
theorem kw603 : Cond.code yX1_firstBest cX1_firstBest 4 (some .int) ∈ Tg := mem_Tg (List.mem_append_right _ (List.mem_of_getElem? (i := 603) (by decide +kernel))) (by decide +kernel)
theorem dX1_match_77 : decode cX1_match 77 = .ok (.invokevirtual 79, 3) := by decide +kernel
theorem dX1_match_80 : decode cX1_match 80 = .ok (.istore_n 3, 1) := by decide +kernel
theorem dX1_match_81 : decode cX1_match 81 = .ok (.iload_n 1, 1) := by decide +kernel
theorem dX1_match_82 : decode cX1_match 82 = .ok (.iconst 1, 1) := by decide +kernel
theorem dX1_match_83 : decode cX1_match 83 = .ok (.iload_n 2, 1) := by decide +kernel
theorem dX1_match_84 : decode cX1_match 84 = .ok (.ishl, 1) := by decide +kernel
theorem dX1_match_85 : decode cX1_match 85 = .ok (.ior, 1) := by decide +kernel
theorem dX1_match_86 : decode cX1_match 86 = .ok (.istore_n 1, 1) := by decide +kernel
theorem dX1_match_87 : decode cX1_match 87 = .ok (.iload_n 3, 1) := by decide +kernel
theorem dX1_match_88 : decode cX1_match 88 = .ok (.ifCond .lt 15, 3) := by decide +kernel
theorem dX1_match_91 : decode cX1_match 91 = .ok (.iload_n 1, 1) := by decide +kernel
theorem dX1_match_92 : decode cX1_match 92 = .ok (.iconst 1, 1) := by decide +kernel
theorem dX1_match_93 : decode cX1_match 93 = .ok (.iload_n 3, 1) := by decide +kernel
theorem dX1_match_94 : decode cX1_match 94 = .ok (.ishl, 1) := by decide +kernel
theorem dX1_match_95 : decode cX1_match 95 = .ok (.ior, 1) := by decide +kernel
theorem dX1_match_96 : decode cX1_match 96 = .ok (.istore_n 1, 1) := by decide +kernel
theorem dX1_match_97 : decode cX1_match 97 = .ok (.aload_n 0, 1) := by decide +kernel
theorem dX1_match_98 : decode cX1_match 98 = .ok (.iload_n 2, 1) := by decide +kernel
theorem dX1_match_99 : decode cX1_match 99 = .ok (.iload_n 3, 1) := by decide +kernel
theorem kw607 : Cond.code yX1_join cX1_join 3 none ∈ Tg := mem_Tg (List.mem_append_right _ (List.mem_of_getElem? (i := 607) (by decide +kernel))) (by decide +kernel)
theorem dX1_match_100 : decode cX1_match 100 = .ok (.invokevirtual 82, 3) := by decide +kernel
theorem dX1_match_109 : decode cX1_match 109 = .ok (.return_, 1) := by decide +kernel
theorem dX1_partnerOf_0 : decode cX1_partnerOf 0 = .ok (.iload_n 1, 1) := by decide +kernel
theorem dX1_partnerOf_1 : decode cX1_partnerOf 1 = .ok (.ifCond .lt 22, 3) := by decide +kernel
theorem dX1_partnerOf_23 : decode cX1_partnerOf 23 = .ok (.bipush (-4), 2) := by decide +kernel
theorem dX1_partnerOf_25 : decode cX1_partnerOf 25 = .ok (.ireturn, 1) := by decide +kernel
theorem dX1_partnerOf_4 : decode cX1_partnerOf 4 = .ok (.iload_n 1, 1) := by decide +kernel
theorem dX1_partnerOf_5 : decode cX1_partnerOf 5 = .ok (.aload_n 0, 1) := by decide +kernel
theorem dX1_partnerOf_6 : decode cX1_partnerOf 6 = .ok (.getfield 39, 3) := by decide +kernel
theorem dX1_partnerOf_9 : decode cX1_partnerOf 9 = .ok (.if_icmp .ge 14, 3) := by decide +kernel
theorem dX1_partnerOf_12 : decode cX1_partnerOf 12 = .ok (.aload_n 0, 1) := by decide +kernel
theorem dX1_partnerOf_13 : decode cX1_partnerOf 13 = .ok (.getfield 21, 3) := by decide +kernel
theorem dX1_partnerOf_16 : decode cX1_partnerOf 16 = .ok (.iload_n 1, 1) := by decide +kernel
theorem dX1_partnerOf_17 : decode cX1_partnerOf 17 = .ok (.invokestatic 86, 3) := by decide +kernel
theorem dX1_partnerOf_20 : decode cX1_partnerOf 20 = .ok (.goto 5, 3) := by decide +kernel
theorem dX1_giveOnTopOf_0 : decode cX1_giveOnTopOf 0 = .ok (.iconst 0, 1) := by decide +kernel
theorem dX1_giveOnTopOf_1 : decode cX1_giveOnTopOf 1 = .ok (.istore_n 3, 1) := by decide +kernel
theorem dX1_giveOnTopOf_2 : decode cX1_giveOnTopOf 2 = .ok (.iload_n 3, 1) := by decide +kernel
theorem dX1_giveOnTopOf_3 : decode cX1_giveOnTopOf 3 = .ok (.aload_n 0, 1) := by decide +kernel
theorem dX1_giveOnTopOf_4 : decode cX1_giveOnTopOf 4 = .ok (.getfield 39, 3) := by decide +kernel
theorem dX1_giveOnTopOf_7 : decode cX1_giveOnTopOf 7 = .ok (.if_icmp .ge 76, 3) := by decide +kernel
theorem dX1_giveOnTopOf_10 : decode cX1_giveOnTopOf 10 = .ok (.aload_n 0, 1) := by decide +kernel
theorem dX1_giveOnTopOf_11 : decode cX1_giveOnTopOf 11 = .ok (.getfield 44, 3) := by decide +kernel
theorem dX1_giveOnTopOf_14 : decode cX1_giveOnTopOf 14 = .ok (.iload_n 2, 1) := by decide +kernel
theorem dX1_giveOnTopOf_15 : decode cX1_giveOnTopOf 15 = .ok (.iand, 1) := by decide +kernel
theorem dX1_giveOnTopOf_16 : decode cX1_giveOnTopOf 16 = .ok (.iload_n 3, 1) := by decide +kernel
theorem dX1_giveOnTopOf_17 : decode cX1_giveOnTopOf 17 = .ok (.invokestatic 75, 3) := by decide +kernel
theorem dX1_giveOnTopOf_20 : decode cX1_giveOnTopOf 20 = .ok (.ifCond .eq 57, 3) := by decide +kernel
theorem dX1_giveOnTopOf_77 : decode cX1_giveOnTopOf 77 = .ok (.iinc 3 1, 3) := by decide +kernel
theorem dX1_giveOnTopOf_80 : decode cX1_giveOnTopOf 80 = .ok (.goto (-78), 3) := by decide +kernel
theorem dX1_giveOnTopOf_23 : decode cX1_giveOnTopOf 23 = .ok (.iconst 0, 1) := by decide +kernel
theorem dX1_giveOnTopOf_24 : decode cX1_giveOnTopOf 24 = .ok (.istore 4, 2) := by decide +kernel
theorem dX1_giveOnTopOf_26 : decode cX1_giveOnTopOf 26 = .ok (.iload 4, 2) := by decide +kernel
theorem dX1_giveOnTopOf_28 : decode cX1_giveOnTopOf 28 = .ok (.aload_n 0, 1) := by decide +kernel
theorem dX1_giveOnTopOf_29 : decode cX1_giveOnTopOf 29 = .ok (.getfield 39, 3) := by decide +kernel
theorem dX1_giveOnTopOf_32 : decode cX1_giveOnTopOf 32 = .ok (.if_icmp .ge 45, 3) := by decide +kernel
theorem dX1_giveOnTopOf_35 : decode cX1_giveOnTopOf 35 = .ok (.aload_n 0, 1) := by decide +kernel
theorem dX1_giveOnTopOf_36 : decode cX1_giveOnTopOf 36 = .ok (.getfield 15, 3) := by decide +kernel
theorem dX1_giveOnTopOf_39 : decode cX1_giveOnTopOf 39 = .ok (.iload_n 3, 1) := by decide +kernel
theorem dX1_giveOnTopOf_40 : decode cX1_giveOnTopOf 40 = .ok (.invokestatic 86, 3) := by decide +kernel
theorem dX1_giveOnTopOf_43 : decode cX1_giveOnTopOf 43 = .ok (.iload_n 2, 1) := by decide +kernel
theorem dX1_giveOnTopOf_44 : decode cX1_giveOnTopOf 44 = .ok (.iand, 1) := by decide +kernel
theorem dX1_giveOnTopOf_45 : decode cX1_giveOnTopOf 45 = .ok (.iload 4, 2) := by decide +kernel
theorem dX1_giveOnTopOf_47 : decode cX1_giveOnTopOf 47 = .ok (.invokestatic 75, 3) := by decide +kernel
theorem dX1_giveOnTopOf_50 : decode cX1_giveOnTopOf 50 = .ok (.ifCond .eq 21, 3) := by decide +kernel
theorem dX1_giveOnTopOf_71 : decode cX1_giveOnTopOf 71 = .ok (.iinc 4 1, 3) := by decide +kernel
theorem dX1_giveOnTopOf_74 : decode cX1_giveOnTopOf 74 = .ok (.goto (-48), 3) := by decide +kernel
theorem dX1_giveOnTopOf_53 : decode cX1_giveOnTopOf 53 = .ok (.aload_n 0, 1) := by decide +kernel
theorem dX1_giveOnTopOf_54 : decode cX1_giveOnTopOf 54 = .ok (.getfield 9, 3) := by decide +kernel
theorem dX1_giveOnTopOf_57 : decode cX1_giveOnTopOf 57 = .ok (.iload_n 1, 1) := by decide +kernel
theorem dX1_giveOnTopOf_58 : decode cX1_giveOnTopOf 58 = .ok (.iconst 1, 1) := by decide +kernel
theorem dX1_giveOnTopOf_59 : decode cX1_giveOnTopOf 59 = .ok (.iload_n 3, 1) := by decide +kernel
theorem dX1_giveOnTopOf_60 : decode cX1_giveOnTopOf 60 = .ok (.ishl, 1) := by decide +kernel
theorem dX1_giveOnTopOf_61 : decode cX1_giveOnTopOf 61 = .ok (.ior, 1) := by decide +kernel
theorem dX1_giveOnTopOf_62 : decode cX1_giveOnTopOf 62 = .ok (.iconst 1, 1) := by decide +kernel
theorem dX1_giveOnTopOf_63 : decode cX1_giveOnTopOf 63 = .ok (.iload 4, 2) := by decide +kernel
theorem dX1_giveOnTopOf_65 : decode cX1_giveOnTopOf 65 = .ok (.ishl, 1) := by decide +kernel
theorem dX1_giveOnTopOf_66 : decode cX1_giveOnTopOf 66 = .ok (.ior, 1) := by decide +kernel
theorem dX1_giveOnTopOf_67 : decode cX1_giveOnTopOf 67 = .ok (.iconst 1, 1) := by decide +kernel
theorem dX1_giveOnTopOf_68 : decode cX1_giveOnTopOf 68 = .ok (.invokestatic 50, 3) := by decide +kernel
theorem dX1_giveOnTopOf_83 : decode cX1_giveOnTopOf 83 = .ok (.return_, 1) := by decide +kernel
theorem dX1_giveOut_0 : decode cX1_giveOut 0 = .ok (.iconst 1, 1) := by decide +kernel
theorem dX1_giveOut_1 : decode cX1_giveOut 1 = .ok (.aload_n 0, 1) := by decide +kernel
theorem dX1_giveOut_2 : decode cX1_giveOut 2 = .ok (.getfield 39, 3) := by decide +kernel
theorem dX1_giveOut_5 : decode cX1_giveOut 5 = .ok (.ishl, 1) := by decide +kernel
theorem dX1_giveOut_6 : decode cX1_giveOut 6 = .ok (.iconst 1, 1) := by decide +kernel
theorem dX1_giveOut_7 : decode cX1_giveOut 7 = .ok (.isub, 1) := by decide +kernel
theorem dX1_giveOut_8 : decode cX1_giveOut 8 = .ok (.istore_n 2, 1) := by decide +kernel
theorem dX1_giveOut_9 : decode cX1_giveOut 9 = .ok (.iload_n 2, 1) := by decide +kernel
theorem dX1_giveOut_10 : decode cX1_giveOut 10 = .ok (.ifCond .lt 30, 3) := by decide +kernel
theorem dX1_giveOut_13 : decode cX1_giveOut 13 = .ok (.aload_n 0, 1) := by decide +kernel
theorem dX1_giveOut_14 : decode cX1_giveOut 14 = .ok (.getfield 9, 3) := by decide +kernel
theorem dX1_giveOut_17 : decode cX1_giveOut 17 = .ok (.iload_n 2, 1) := by decide +kernel
theorem dX1_giveOut_18 : decode cX1_giveOut 18 = .ok (.invokestatic 86, 3) := by decide +kernel
theorem dX1_giveOut_21 : decode cX1_giveOut 21 = .ok (.ifCond .eq 13, 3) := by decide +kernel
theorem dX1_giveOut_34 : decode cX1_giveOut 34 = .ok (.iinc 2 (-1), 3) := by decide +kernel
theorem dX1_giveOut_37 : decode cX1_giveOut 37 = .ok (.goto (-28), 3) := by decide +kernel
theorem dX1_giveOut_24 : decode cX1_giveOut 24 = .ok (.aload_n 0, 1) := by decide +kernel
theorem dX1_giveOut_25 : decode cX1_giveOut 25 = .ok (.iload_n 2, 1) := by decide +kernel
theorem dX1_giveOut_26 : decode cX1_giveOut 26 = .ok (.iload_n 1, 1) := by decide +kernel
theorem dX1_giveOut_27 : decode cX1_giveOut 27 = .ok (.iload_n 2, 1) := by decide +kernel
theorem dX1_giveOut_28 : decode cX1_giveOut 28 = .ok (.iconst (-1), 1) := by decide +kernel
theorem dX1_giveOut_29 : decode cX1_giveOut 29 = .ok (.ixor, 1) := by decide +kernel
theorem dX1_giveOut_30 : decode cX1_giveOut 30 = .ok (.iand, 1) := by decide +kernel
theorem kw644 : Cond.code yX1_giveOnTopOf cX1_giveOnTopOf 5 none ∈ Tg := mem_Tg (List.mem_append_right _ (List.mem_of_getElem? (i := 644) (by decide +kernel))) (by decide +kernel)
theorem dX1_giveOut_31 : decode cX1_giveOut 31 = .ok (.invokevirtual 116, 3) := by decide +kernel
theorem dX1_giveOut_40 : decode cX1_giveOut 40 = .ok (.return_, 1) := by decide +kernel
theorem dX1_serve_0 : decode cX1_serve 0 = .ok (.aload_n 1, 1) := by decide +kernel
theorem dX1_serve_1 : decode cX1_serve 1 = .ok (.ifnonnull 5, 3) := by decide +kernel
theorem dX1_serve_6 : decode cX1_serve 6 = .ok (.aload_n 0, 1) := by decide +kernel
theorem dX1_serve_7 : decode cX1_serve 7 = .ok (.getfield 9, 3) := by decide +kernel
theorem dX1_serve_10 : decode cX1_serve 10 = .ok (.iconst 0, 1) := by decide +kernel
theorem dX1_serve_11 : decode cX1_serve 11 = .ok (.invokestatic 63, 3) := by decide +kernel
theorem dX1_serve_14 : decode cX1_serve 14 = .ok (.aload_n 0, 1) := by decide +kernel
theorem dX1_serve_15 : decode cX1_serve 15 = .ok (.getfield 9, 3) := by decide +kernel
theorem dX1_serve_18 : decode cX1_serve 18 = .ok (.iconst 0, 1) := by decide +kernel
theorem dX1_serve_19 : decode cX1_serve 19 = .ok (.iconst 1, 1) := by decide +kernel
theorem dX1_serve_20 : decode cX1_serve 20 = .ok (.invokestatic 50, 3) := by decide +kernel
theorem dX1_serve_23 : decode cX1_serve 23 = .ok (.iconst 0, 1) := by decide +kernel
theorem dX1_serve_24 : decode cX1_serve 24 = .ok (.istore_n 2, 1) := by decide +kernel
theorem dX1_serve_25 : decode cX1_serve 25 = .ok (.iload_n 2, 1) := by decide +kernel
theorem dX1_serve_26 : decode cX1_serve 26 = .ok (.aload_n 1, 1) := by decide +kernel
theorem dX1_serve_27 : decode cX1_serve 27 = .ok (.getfield 100, 3) := by decide +kernel
theorem dX1_serve_30 : decode cX1_serve 30 = .ok (.if_icmp .ge 75, 3) := by decide +kernel
theorem dX1_serve_33 : decode cX1_serve 33 = .ok (.iconst 0, 1) := by decide +kernel
theorem dX1_serve_34 : decode cX1_serve 34 = .ok (.istore_n 3, 1) := by decide +kernel
theorem dX1_serve_35 : decode cX1_serve 35 = .ok (.iconst 0, 1) := by decide +kernel
theorem dX1_serve_36 : decode cX1_serve 36 = .ok (.istore 4, 2) := by decide +kernel
theorem dX1_serve_38 : decode cX1_serve 38 = .ok (.iload 4, 2) := by decide +kernel
theorem dX1_serve_40 : decode cX1_serve 40 = .ok (.aload_n 0, 1) := by decide +kernel
theorem dX1_serve_41 : decode cX1_serve 41 = .ok (.getfield 39, 3) := by decide +kernel
theorem dX1_serve_44 : decode cX1_serve 44 = .ok (.if_icmp .ge 50, 3) := by decide +kernel
theorem dX1_serve_47 : decode cX1_serve 47 = .ok (.aload_n 1, 1) := by decide +kernel
theorem dX1_serve_48 : decode cX1_serve 48 = .ok (.iload_n 2, 1) := by decide +kernel
theorem dX1_serve_49 : decode cX1_serve 49 = .ok (.aload_n 0, 1) := by decide +kernel
theorem dX1_serve_50 : decode cX1_serve 50 = .ok (.getfield 44, 3) := by decide +kernel
theorem dX1_serve_53 : decode cX1_serve 53 = .ok (.iload 4, 2) := by decide +kernel
theorem dX1_serve_55 : decode cX1_serve 55 = .ok (.invokestatic 75, 3) := by decide +kernel
theorem dX1_serve_58 : decode cX1_serve 58 = .ok (.ifCond .eq 7, 3) := by decide +kernel
theorem dX1_serve_65 : decode cX1_serve 65 = .ok (.iconst 1, 1) := by decide +kernel
theorem dX1_serve_66 : decode cX1_serve 66 = .ok (.aload_n 0, 1) := by decide +kernel
theorem dX1_serve_67 : decode cX1_serve 67 = .ok (.getfield 18, 3) := by decide +kernel
theorem dX1_serve_70 : decode cX1_serve 70 = .ok (.iload 4, 2) := by decide +kernel
theorem dX1_serve_72 : decode cX1_serve 72 = .ok (.invokestatic 86, 3) := by decide +kernel
theorem kw634 : Cond.code yX6_suits cX6_suits 5 (some .boolean) ∈ Tg := mem_Tg (List.mem_append_right _ (List.mem_of_getElem? (i := 634) (by decide +kernel))) (by decide +kernel)
theorem dX1_serve_75 : decode cX1_serve 75 = .ok (.invokevirtual 103, 3) := by decide +kernel
theorem dX1_serve_78 : decode cX1_serve 78 = .ok (.ifCond .eq 10, 3) := by decide +kernel
theorem dX1_serve_88 : decode cX1_serve 88 = .ok (.iinc 4 1, 3) := by decide +kernel
theorem dX1_serve_91 : decode cX1_serve 91 = .ok (.goto (-53), 3) := by decide +kernel
theorem dX1_serve_81 : decode cX1_serve 81 = .ok (.iload_n 3, 1) := by decide +kernel
theorem dX1_serve_82 : decode cX1_serve 82 = .ok (.iconst 1, 1) := by decide +kernel
theorem dX1_serve_83 : decode cX1_serve 83 = .ok (.iload 4, 2) := by decide +kernel
theorem dX1_serve_85 : decode cX1_serve 85 = .ok (.ishl, 1) := by decide +kernel
theorem dX1_serve_86 : decode cX1_serve 86 = .ok (.ior, 1) := by decide +kernel
theorem dX1_serve_87 : decode cX1_serve 87 = .ok (.istore_n 3, 1) := by decide +kernel
theorem dX1_serve_61 : decode cX1_serve 61 = .ok (.iconst 0, 1) := by decide +kernel
theorem dX1_serve_62 : decode cX1_serve 62 = .ok (.goto 4, 3) := by decide +kernel
theorem dX1_serve_94 : decode cX1_serve 94 = .ok (.aload_n 0, 1) := by decide +kernel
theorem dX1_serve_95 : decode cX1_serve 95 = .ok (.iload_n 3, 1) := by decide +kernel
theorem kw640 : Cond.code yX1_giveOut cX1_giveOut 3 none ∈ Tg := mem_Tg (List.mem_append_right _ (List.mem_of_getElem? (i := 640) (by decide +kernel))) (by decide +kernel)
theorem dX1_serve_96 : decode cX1_serve 96 = .ok (.invokevirtual 107, 3) := by decide +kernel
theorem dX1_serve_99 : decode cX1_serve 99 = .ok (.iinc 2 1, 3) := by decide +kernel
theorem dX1_serve_102 : decode cX1_serve 102 = .ok (.goto (-77), 3) := by decide +kernel
theorem dX1_serve_105 : decode cX1_serve 105 = .ok (.iconst 0, 1) := by decide +kernel
theorem dX1_serve_106 : decode cX1_serve 106 = .ok (.istore_n 2, 1) := by decide +kernel
theorem dX1_serve_107 : decode cX1_serve 107 = .ok (.iconst 0, 1) := by decide +kernel
theorem dX1_serve_108 : decode cX1_serve 108 = .ok (.istore_n 3, 1) := by decide +kernel
theorem dX1_serve_109 : decode cX1_serve 109 = .ok (.iload_n 3, 1) := by decide +kernel
theorem dX1_serve_110 : decode cX1_serve 110 = .ok (.iconst 1, 1) := by decide +kernel
theorem dX1_serve_111 : decode cX1_serve 111 = .ok (.aload_n 0, 1) := by decide +kernel
theorem dX1_serve_112 : decode cX1_serve 112 = .ok (.getfield 39, 3) := by decide +kernel
theorem dX1_serve_115 : decode cX1_serve 115 = .ok (.ishl, 1) := by decide +kernel
theorem dX1_serve_116 : decode cX1_serve 116 = .ok (.if_icmp .ge 31, 3) := by decide +kernel
theorem dX1_serve_119 : decode cX1_serve 119 = .ok (.aload_n 0, 1) := by decide +kernel
theorem dX1_serve_120 : decode cX1_serve 120 = .ok (.getfield 9, 3) := by decide +kernel
theorem dX1_serve_123 : decode cX1_serve 123 = .ok (.iload_n 3, 1) := by decide +kernel
theorem dX1_serve_124 : decode cX1_serve 124 = .ok (.invokestatic 86, 3) := by decide +kernel
theorem dX1_serve_127 : decode cX1_serve 127 = .ok (.ifCond .eq 14, 3) := by decide +kernel
theorem dX1_serve_141 : decode cX1_serve 141 = .ok (.iinc 3 1, 3) := by decide +kernel
theorem dX1_serve_144 : decode cX1_serve 144 = .ok (.goto (-35), 3) := by decide +kernel
theorem dX1_serve_130 : decode cX1_serve 130 = .ok (.iload_n 2, 1) := by decide +kernel
theorem dX1_serve_131 : decode cX1_serve 131 = .ok (.iload_n 3, 1) := by decide +kernel
theorem kw619 : Cond.code yJ6_bitCount_0f7a4 cJ6_bitCount_0f7a4 1 (some .int) ∈ Tg := mem_Tg (List.mem_append_right _ (List.mem_of_getElem? (i := 619) (by decide +kernel))) (by decide +kernel)
theorem dX1_serve_132 : decode cX1_serve 132 = .ok (.invokestatic 111, 3) := by decide +kernel
theorem dX1_serve_135 : decode cX1_serve 135 = .ok (.iconst 2, 1) := by decide +kernel
theorem dX1_serve_136 : decode cX1_serve 136 = .ok (.idiv, 1) := by decide +kernel
theorem dX1_serve_137 : decode cX1_serve 137 = .ok (.invokestatic 36, 3) := by decide +kernel
theorem dX1_serve_140 : decode cX1_serve 140 = .ok (.istore_n 2, 1) := by decide +kernel
theorem dX1_serve_147 : decode cX1_serve 147 = .ok (.iload_n 2, 1) := by decide +kernel
theorem dX1_serve_148 : decode cX1_serve 148 = .ok (.ireturn, 1) := by decide +kernel
theorem dX2_isFull_0 : decode cX2_isFull 0 = .ok (.aload_n 0, 1) := by decide +kernel
theorem dX2_isFull_1 : decode cX2_isFull 1 = .ok (.getfield 22, 3) := by decide +kernel
theorem dX2_isFull_4 : decode cX2_isFull 4 = .ok (.aload_n 0, 1) := by decide +kernel
theorem dX2_isFull_5 : decode cX2_isFull 5 = .ok (.getfield 15, 3) := by decide +kernel
theorem dX2_isFull_8 : decode cX2_isFull 8 = .ok (.arraylength, 1) := by decide +kernel
theorem dX2_isFull_9 : decode cX2_isFull 9 = .ok (.if_icmp .lt 7, 3) := by decide +kernel
theorem dX2_isFull_16 : decode cX2_isFull 16 = .ok (.iconst 0, 1) := by decide +kernel
theorem dX2_isFull_17 : decode cX2_isFull 17 = .ok (.ireturn, 1) := by decide +kernel
theorem dX2_isFull_12 : decode cX2_isFull 12 = .ok (.iconst 1, 1) := by decide +kernel
theorem dX2_isFull_13 : decode cX2_isFull 13 = .ok (.goto 4, 3) := by decide +kernel
theorem dX2_clear_0 : decode cX2_clear 0 = .ok (.aload_n 0, 1) := by decide +kernel
theorem dX2_clear_1 : decode cX2_clear 1 = .ok (.iconst 0, 1) := by decide +kernel
theorem dX2_clear_2 : decode cX2_clear 2 = .ok (.putfield 22, 3) := by decide +kernel
theorem dX2_clear_5 : decode cX2_clear 5 = .ok (.return_, 1) := by decide +kernel
theorem dX2_dropLowest_0 : decode cX2_dropLowest 0 = .ok (.aload_n 0, 1) := by decide +kernel
theorem dX2_dropLowest_1 : decode cX2_dropLowest 1 = .ok (.getfield 15, 3) := by decide +kernel
theorem dX2_dropLowest_4 : decode cX2_dropLowest 4 = .ok (.arraylength, 1) := by decide +kernel
theorem dX2_dropLowest_5 : decode cX2_dropLowest 5 = .ok (.ifCond .le 64, 3) := by decide +kernel
theorem dX2_dropLowest_8 : decode cX2_dropLowest 8 = .ok (.aload_n 0, 1) := by decide +kernel
theorem dX2_dropLowest_9 : decode cX2_dropLowest 9 = .ok (.getfield 15, 3) := by decide +kernel
theorem dX2_dropLowest_12 : decode cX2_dropLowest 12 = .ok (.iconst 0, 1) := by decide +kernel
theorem dX2_dropLowest_13 : decode cX2_dropLowest 13 = .ok (.aaload, 1) := by decide +kernel
theorem dX2_dropLowest_14 : decode cX2_dropLowest 14 = .ok (.astore_n 1, 1) := by decide +kernel
theorem dX2_dropLowest_15 : decode cX2_dropLowest 15 = .ok (.iconst 1, 1) := by decide +kernel
theorem dX2_dropLowest_16 : decode cX2_dropLowest 16 = .ok (.istore_n 2, 1) := by decide +kernel
theorem dX2_dropLowest_17 : decode cX2_dropLowest 17 = .ok (.iload_n 2, 1) := by decide +kernel
theorem dX2_dropLowest_18 : decode cX2_dropLowest 18 = .ok (.aload_n 0, 1) := by decide +kernel
theorem dX2_dropLowest_19 : decode cX2_dropLowest 19 = .ok (.getfield 15, 3) := by decide +kernel
theorem dX2_dropLowest_22 : decode cX2_dropLowest 22 = .ok (.arraylength, 1) := by decide +kernel
theorem dX2_dropLowest_23 : decode cX2_dropLowest 23 = .ok (.if_icmp .ge 23, 3) := by decide +kernel
theorem dX2_dropLowest_26 : decode cX2_dropLowest 26 = .ok (.aload_n 0, 1) := by decide +kernel
theorem dX2_dropLowest_27 : decode cX2_dropLowest 27 = .ok (.getfield 15, 3) := by decide +kernel
theorem dX2_dropLowest_30 : decode cX2_dropLowest 30 = .ok (.iload_n 2, 1) := by decide +kernel
theorem dX2_dropLowest_31 : decode cX2_dropLowest 31 = .ok (.iconst 1, 1) := by decide +kernel
theorem dX2_dropLowest_32 : decode cX2_dropLowest 32 = .ok (.isub, 1) := by decide +kernel
theorem dX2_dropLowest_33 : decode cX2_dropLowest 33 = .ok (.aload_n 0, 1) := by decide +kernel
theorem dX2_dropLowest_34 : decode cX2_dropLowest 34 = .ok (.getfield 15, 3) := by decide +kernel
theorem dX2_dropLowest_37 : decode cX2_dropLowest 37 = .ok (.iload_n 2, 1) := by decide +kernel
theorem dX2_dropLowest_38 : decode cX2_dropLowest 38 = .ok (.aaload, 1) := by decide +kernel
theorem dX2_dropLowest_39 : decode cX2_dropLowest 39 = .ok (.aastore, 1) := by decide +kernel
theorem dX2_dropLowest_40 : decode cX2_dropLowest 40 = .ok (.iinc 2 1, 3) := by decide +kernel
theorem dX2_dropLowest_43 : decode cX2_dropLowest 43 = .ok (.goto (-26), 3) := by decide +kernel
theorem dX2_dropLowest_46 : decode cX2_dropLowest 46 = .ok (.aload_n 0, 1) := by decide +kernel
theorem dX2_dropLowest_47 : decode cX2_dropLowest 47 = .ok (.getfield 15, 3) := by decide +kernel
theorem dX2_dropLowest_50 : decode cX2_dropLowest 50 = .ok (.aload_n 0, 1) := by decide +kernel
theorem dX2_dropLowest_51 : decode cX2_dropLowest 51 = .ok (.getfield 15, 3) := by decide +kernel
theorem dX2_dropLowest_54 : decode cX2_dropLowest 54 = .ok (.arraylength, 1) := by decide +kernel
theorem dX2_dropLowest_55 : decode cX2_dropLowest 55 = .ok (.iconst 1, 1) := by decide +kernel
theorem dX2_dropLowest_56 : decode cX2_dropLowest 56 = .ok (.isub, 1) := by decide +kernel
theorem dX2_dropLowest_57 : decode cX2_dropLowest 57 = .ok (.aload_n 1, 1) := by decide +kernel
theorem dX2_dropLowest_58 : decode cX2_dropLowest 58 = .ok (.aastore, 1) := by decide +kernel
theorem dX2_dropLowest_59 : decode cX2_dropLowest 59 = .ok (.aload_n 0, 1) := by decide +kernel
theorem dX2_dropLowest_60 : decode cX2_dropLowest 60 = .ok (.dup, 1) := by decide +kernel
theorem dX2_dropLowest_61 : decode cX2_dropLowest 61 = .ok (.getfield 22, 3) := by decide +kernel
theorem dX2_dropLowest_64 : decode cX2_dropLowest 64 = .ok (.iconst 1, 1) := by decide +kernel
theorem dX2_dropLowest_65 : decode cX2_dropLowest 65 = .ok (.isub, 1) := by decide +kernel
theorem dX2_dropLowest_66 : decode cX2_dropLowest 66 = .ok (.putfield 22, 3) := by decide +kernel
theorem dX2_dropLowest_69 : decode cX2_dropLowest 69 = .ok (.return_, 1) := by decide +kernel
theorem dX2_push_0 : decode cX2_push 0 = .ok (.aload_n 0, 1) := by decide +kernel
theorem kw495 : Cond.code yX2_isFull cX2_isFull 1 (some .boolean) ∈ Tg := mem_Tg (List.mem_append_right _ (List.mem_of_getElem? (i := 495) (by decide +kernel))) (by decide +kernel)
theorem dX2_push_1 : decode cX2_push 1 = .ok (.invokevirtual 26, 3) := by decide +kernel
theorem dX2_push_4 : decode cX2_push 4 = .ok (.ifCond .eq 7, 3) := by decide +kernel
theorem dX2_push_11 : decode cX2_push 11 = .ok (.aload_n 0, 1) := by decide +kernel
theorem dX2_push_12 : decode cX2_push 12 = .ok (.getfield 22, 3) := by decide +kernel
theorem dX2_push_15 : decode cX2_push 15 = .ok (.ifCond .lt 50, 3) := by decide +kernel
theorem dX2_push_65 : decode cX2_push 65 = .ok (.return_, 1) := by decide +kernel
theorem dX2_push_18 : decode cX2_push 18 = .ok (.aload_n 0, 1) := by decide +kernel
theorem dX2_push_19 : decode cX2_push 19 = .ok (.getfield 22, 3) := by decide +kernel
theorem dX2_push_22 : decode cX2_push 22 = .ok (.aload_n 0, 1) := by decide +kernel
theorem dX2_push_23 : decode cX2_push 23 = .ok (.getfield 15, 3) := by decide +kernel
theorem dX2_push_26 : decode cX2_push 26 = .ok (.arraylength, 1) := by decide +kernel
theorem dX2_push_27 : decode cX2_push 27 = .ok (.if_icmp .ge 38, 3) := by decide +kernel
theorem dX2_push_30 : decode cX2_push 30 = .ok (.aload_n 0, 1) := by decide +kernel
theorem dX2_push_31 : decode cX2_push 31 = .ok (.getfield 15, 3) := by decide +kernel
theorem dX2_push_34 : decode cX2_push 34 = .ok (.aload_n 0, 1) := by decide +kernel
theorem dX2_push_35 : decode cX2_push 35 = .ok (.getfield 22, 3) := by decide +kernel
theorem dX2_push_38 : decode cX2_push 38 = .ok (.aaload, 1) := by decide +kernel
theorem dX2_push_39 : decode cX2_push 39 = .ok (.ifnull 26, 3) := by decide +kernel
theorem dX2_push_42 : decode cX2_push 42 = .ok (.aload_n 0, 1) := by decide +kernel
theorem dX2_push_43 : decode cX2_push 43 = .ok (.getfield 15, 3) := by decide +kernel
theorem dX2_push_46 : decode cX2_push 46 = .ok (.aload_n 0, 1) := by decide +kernel
theorem dX2_push_47 : decode cX2_push 47 = .ok (.getfield 22, 3) := by decide +kernel
theorem dX2_push_50 : decode cX2_push 50 = .ok (.aaload, 1) := by decide +kernel
theorem dX2_push_51 : decode cX2_push 51 = .ok (.aload_n 1, 1) := by decide +kernel
theorem dX2_push_52 : decode cX2_push 52 = .ok (.invokevirtual 33, 3) := by decide +kernel
theorem dX2_push_55 : decode cX2_push 55 = .ok (.aload_n 0, 1) := by decide +kernel
theorem dX2_push_56 : decode cX2_push 56 = .ok (.dup, 1) := by decide +kernel
theorem dX2_push_57 : decode cX2_push 57 = .ok (.getfield 22, 3) := by decide +kernel
theorem dX2_push_60 : decode cX2_push 60 = .ok (.iconst 1, 1) := by decide +kernel
theorem dX2_push_61 : decode cX2_push 61 = .ok (.iadd, 1) := by decide +kernel
theorem dX2_push_62 : decode cX2_push 62 = .ok (.putfield 22, 3) := by decide +kernel
theorem dX2_push_7 : decode cX2_push 7 = .ok (.aload_n 0, 1) := by decide +kernel
theorem kw499 : Cond.code yX2_dropLowest cX2_dropLowest 3 none ∈ Tg := mem_Tg (List.mem_append_right _ (List.mem_of_getElem? (i := 499) (by decide +kernel))) (by decide +kernel)
theorem dX2_push_8 : decode cX2_push 8 = .ok (.invokevirtual 30, 3) := by decide +kernel
theorem dX2_popInto_0 : decode cX2_popInto 0 = .ok (.aload_n 1, 1) := by decide +kernel
theorem dX2_popInto_1 : decode cX2_popInto 1 = .ok (.ifnull 22, 3) := by decide +kernel
theorem dX2_popInto_4 : decode cX2_popInto 4 = .ok (.aload_n 0, 1) := by decide +kernel
theorem dX2_popInto_5 : decode cX2_popInto 5 = .ok (.getfield 22, 3) := by decide +kernel
theorem dX2_popInto_8 : decode cX2_popInto 8 = .ok (.ifCond .le 15, 3) := by decide +kernel
theorem dX2_popInto_23 : decode cX2_popInto 23 = .ok (.iconst 0, 1) := by decide +kernel
theorem dX2_popInto_24 : decode cX2_popInto 24 = .ok (.ireturn, 1) := by decide +kernel
theorem dX2_popInto_11 : decode cX2_popInto 11 = .ok (.aload_n 0, 1) := by decide +kernel
theorem dX2_popInto_12 : decode cX2_popInto 12 = .ok (.getfield 22, 3) := by decide +kernel
theorem dX2_popInto_15 : decode cX2_popInto 15 = .ok (.aload_n 0, 1) := by decide +kernel
theorem dX2_popInto_16 : decode cX2_popInto 16 = .ok (.getfield 15, 3) := by decide +kernel
theorem dX2_popInto_19 : decode cX2_popInto 19 = .ok (.arraylength, 1) := by decide +kernel
theorem dX2_popInto_20 : decode cX2_popInto 20 = .ok (.if_icmp .le 5, 3) := by decide +kernel
theorem dX2_popInto_25 : decode cX2_popInto 25 = .ok (.aload_n 0, 1) := by decide +kernel
theorem dX2_popInto_26 : decode cX2_popInto 26 = .ok (.dup, 1) := by decide +kernel
theorem dX2_popInto_27 : decode cX2_popInto 27 = .ok (.getfield 22, 3) := by decide +kernel
theorem dX2_popInto_30 : decode cX2_popInto 30 = .ok (.iconst 1, 1) := by decide +kernel
theorem dX2_popInto_31 : decode cX2_popInto 31 = .ok (.isub, 1) := by decide +kernel
theorem dX2_popInto_32 : decode cX2_popInto 32 = .ok (.putfield 22, 3) := by decide +kernel
theorem dX2_popInto_35 : decode cX2_popInto 35 = .ok (.aload_n 1, 1) := by decide +kernel
theorem dX2_popInto_36 : decode cX2_popInto 36 = .ok (.aload_n 0, 1) := by decide +kernel
theorem dX2_popInto_37 : decode cX2_popInto 37 = .ok (.getfield 15, 3) := by decide +kernel
theorem dX2_popInto_40 : decode cX2_popInto 40 = .ok (.aload_n 0, 1) := by decide +kernel
theorem dX2_popInto_41 : decode cX2_popInto 41 = .ok (.getfield 22, 3) := by decide +kernel
theorem dX2_popInto_44 : decode cX2_popInto 44 = .ok (.aaload, 1) := by decide +kernel
theorem dX2_popInto_45 : decode cX2_popInto 45 = .ok (.invokevirtual 33, 3) := by decide +kernel
theorem dX2_popInto_48 : decode cX2_popInto 48 = .ok (.iconst 1, 1) := by decide +kernel
theorem dX2_popInto_49 : decode cX2_popInto 49 = .ok (.ireturn, 1) := by decide +kernel
theorem dX10_tellsFeet_0 : decode cX10_tellsFeet 0 = .ok (.aload_n 0, 1) := by decide +kernel
theorem dX10_tellsFeet_1 : decode cX10_tellsFeet 1 = .ok (.getfield 38, 3) := by decide +kernel
theorem dX10_tellsFeet_4 : decode cX10_tellsFeet 4 = .ok (.iconst 2, 1) := by decide +kernel
theorem dX10_tellsFeet_5 : decode cX10_tellsFeet 5 = .ok (.aload_n 0, 1) := by decide +kernel
theorem dX10_tellsFeet_6 : decode cX10_tellsFeet 6 = .ok (.getfield 87, 3) := by decide +kernel
theorem dX10_tellsFeet_9 : decode cX10_tellsFeet 9 = .ok (.imul, 1) := by decide +kernel
theorem dX10_tellsFeet_10 : decode cX10_tellsFeet 10 = .ok (.iload_n 1, 1) := by decide +kernel
theorem dX10_tellsFeet_11 : decode cX10_tellsFeet 11 = .ok (.iastore, 1) := by decide +kernel
theorem dX10_tellsFeet_12 : decode cX10_tellsFeet 12 = .ok (.aload_n 0, 1) := by decide +kernel
theorem dX10_tellsFeet_13 : decode cX10_tellsFeet 13 = .ok (.getfield 38, 3) := by decide +kernel
theorem dX10_tellsFeet_16 : decode cX10_tellsFeet 16 = .ok (.iconst 2, 1) := by decide +kernel
theorem dX10_tellsFeet_17 : decode cX10_tellsFeet 17 = .ok (.aload_n 0, 1) := by decide +kernel
theorem dX10_tellsFeet_18 : decode cX10_tellsFeet 18 = .ok (.getfield 87, 3) := by decide +kernel
theorem dX10_tellsFeet_21 : decode cX10_tellsFeet 21 = .ok (.imul, 1) := by decide +kernel
theorem dX10_tellsFeet_22 : decode cX10_tellsFeet 22 = .ok (.iconst 1, 1) := by decide +kernel
theorem dX10_tellsFeet_23 : decode cX10_tellsFeet 23 = .ok (.iadd, 1) := by decide +kernel
theorem dX10_tellsFeet_24 : decode cX10_tellsFeet 24 = .ok (.iload_n 2, 1) := by decide +kernel
theorem dX10_tellsFeet_25 : decode cX10_tellsFeet 25 = .ok (.iastore, 1) := by decide +kernel
theorem dX10_tellsFeet_26 : decode cX10_tellsFeet 26 = .ok (.aload_n 0, 1) := by decide +kernel
theorem dX10_tellsFeet_27 : decode cX10_tellsFeet 27 = .ok (.dup, 1) := by decide +kernel
theorem dX10_tellsFeet_28 : decode cX10_tellsFeet 28 = .ok (.getfield 87, 3) := by decide +kernel
theorem dX10_tellsFeet_31 : decode cX10_tellsFeet 31 = .ok (.iconst 1, 1) := by decide +kernel
theorem dX10_tellsFeet_32 : decode cX10_tellsFeet 32 = .ok (.iadd, 1) := by decide +kernel
theorem dX10_tellsFeet_33 : decode cX10_tellsFeet 33 = .ok (.putfield 87, 3) := by decide +kernel
theorem dX10_tellsFeet_36 : decode cX10_tellsFeet 36 = .ok (.return_, 1) := by decide +kernel
theorem dX10_puts_0 : decode cX10_puts 0 = .ok (.iconst 2, 1) := by decide +kernel
theorem dX10_puts_1 : decode cX10_puts 1 = .ok (.iconst 5, 1) := by decide +kernel
theorem dX10_puts_2 : decode cX10_puts 2 = .ok (.aload_n 0, 1) := by decide +kernel
theorem dX10_puts_3 : decode cX10_puts 3 = .ok (.iconst 1, 1) := by decide +kernel
theorem dX10_puts_4 : decode cX10_puts 4 = .ok (.iaload, 1) := by decide +kernel
theorem dX10_puts_5 : decode cX10_puts 5 = .ok (.imul, 1) := by decide +kernel
theorem dX10_puts_6 : decode cX10_puts 6 = .ok (.iadd, 1) := by decide +kernel
theorem dX10_puts_7 : decode cX10_puts 7 = .ok (.istore 5, 2) := by decide +kernel
theorem dX10_puts_9 : decode cX10_puts 9 = .ok (.aload_n 0, 1) := by decide +kernel
theorem dX10_puts_10 : decode cX10_puts 10 = .ok (.iload 5, 2) := by decide +kernel
theorem dX10_puts_12 : decode cX10_puts 12 = .ok (.iload_n 1, 1) := by decide +kernel
theorem dX10_puts_13 : decode cX10_puts 13 = .ok (.iastore, 1) := by decide +kernel
theorem dX10_puts_14 : decode cX10_puts 14 = .ok (.aload_n 0, 1) := by decide +kernel
theorem dX10_puts_15 : decode cX10_puts 15 = .ok (.iload 5, 2) := by decide +kernel
theorem dX10_puts_17 : decode cX10_puts 17 = .ok (.iconst 1, 1) := by decide +kernel
theorem dX10_puts_18 : decode cX10_puts 18 = .ok (.iadd, 1) := by decide +kernel
theorem dX10_puts_19 : decode cX10_puts 19 = .ok (.iload_n 2, 1) := by decide +kernel
theorem dX10_puts_20 : decode cX10_puts 20 = .ok (.iastore, 1) := by decide +kernel
theorem dX10_puts_21 : decode cX10_puts 21 = .ok (.aload_n 0, 1) := by decide +kernel
theorem dX10_puts_22 : decode cX10_puts 22 = .ok (.iload 5, 2) := by decide +kernel
theorem dX10_puts_24 : decode cX10_puts 24 = .ok (.iconst 2, 1) := by decide +kernel
theorem dX10_puts_25 : decode cX10_puts 25 = .ok (.iadd, 1) := by decide +kernel
theorem dX10_puts_26 : decode cX10_puts 26 = .ok (.iload_n 3, 1) := by decide +kernel
theorem dX10_puts_27 : decode cX10_puts 27 = .ok (.iastore, 1) := by decide +kernel
theorem dX10_puts_28 : decode cX10_puts 28 = .ok (.aload_n 0, 1) := by decide +kernel
theorem dX10_puts_29 : decode cX10_puts 29 = .ok (.iload 5, 2) := by decide +kernel
theorem dX10_puts_31 : decode cX10_puts 31 = .ok (.iconst 3, 1) := by decide +kernel
theorem dX10_puts_32 : decode cX10_puts 32 = .ok (.iadd, 1) := by decide +kernel
theorem dX10_puts_33 : decode cX10_puts 33 = .ok (.iload 4, 2) := by decide +kernel
theorem dX10_puts_35 : decode cX10_puts 35 = .ok (.iastore, 1) := by decide +kernel
theorem dX10_puts_36 : decode cX10_puts 36 = .ok (.aload_n 0, 1) := by decide +kernel
theorem dX10_puts_37 : decode cX10_puts 37 = .ok (.iload 5, 2) := by decide +kernel
theorem dX10_puts_39 : decode cX10_puts 39 = .ok (.iconst 4, 1) := by decide +kernel
theorem dX10_puts_40 : decode cX10_puts 40 = .ok (.iadd, 1) := by decide +kernel
theorem dX10_puts_41 : decode cX10_puts 41 = .ok (.aload_n 0, 1) := by decide +kernel
theorem dX10_puts_42 : decode cX10_puts 42 = .ok (.iconst 0, 1) := by decide +kernel
theorem dX10_puts_43 : decode cX10_puts 43 = .ok (.iaload, 1) := by decide +kernel
theorem dX10_puts_44 : decode cX10_puts 44 = .ok (.iastore, 1) := by decide +kernel
theorem dX10_puts_45 : decode cX10_puts 45 = .ok (.aload_n 0, 1) := by decide +kernel
theorem dX10_puts_46 : decode cX10_puts 46 = .ok (.iconst 1, 1) := by decide +kernel
theorem dX10_puts_47 : decode cX10_puts 47 = .ok (.dup2, 1) := by decide +kernel
theorem dX10_puts_48 : decode cX10_puts 48 = .ok (.iaload, 1) := by decide +kernel
theorem dX10_puts_49 : decode cX10_puts 49 = .ok (.iconst 1, 1) := by decide +kernel
theorem dX10_puts_50 : decode cX10_puts 50 = .ok (.iadd, 1) := by decide +kernel
theorem dX10_puts_51 : decode cX10_puts 51 = .ok (.iastore, 1) := by decide +kernel
theorem dX10_puts_52 : decode cX10_puts 52 = .ok (.return_, 1) := by decide +kernel
theorem dX10_in_0 : decode cX10_in 0 = .ok (.iload_n 0, 1) := by decide +kernel
theorem dX10_in_1 : decode cX10_in 1 = .ok (.iload_n 1, 1) := by decide +kernel
theorem dX10_in_2 : decode cX10_in 2 = .ok (.if_icmp .lt 12, 3) := by decide +kernel
theorem dX10_in_14 : decode cX10_in 14 = .ok (.iconst 0, 1) := by decide +kernel
theorem dX10_in_15 : decode cX10_in 15 = .ok (.ireturn, 1) := by decide +kernel
theorem dX10_in_5 : decode cX10_in 5 = .ok (.iload_n 0, 1) := by decide +kernel
theorem dX10_in_6 : decode cX10_in 6 = .ok (.iload_n 2, 1) := by decide +kernel
theorem dX10_in_7 : decode cX10_in 7 = .ok (.if_icmp .gt 7, 3) := by decide +kernel
theorem dX10_in_10 : decode cX10_in 10 = .ok (.iconst 1, 1) := by decide +kernel
theorem dX10_in_11 : decode cX10_in 11 = .ok (.goto 4, 3) := by decide +kernel
theorem dX10_has_0 : decode cX10_has 0 = .ok (.iload_n 0, 1) := by decide +kernel
theorem dX10_has_1 : decode cX10_has 1 = .ok (.iload_n 1, 1) := by decide +kernel
theorem dX10_has_2 : decode cX10_has 2 = .ok (.ishr, 1) := by decide +kernel
theorem dX10_has_3 : decode cX10_has 3 = .ok (.iconst 1, 1) := by decide +kernel
theorem dX10_has_4 : decode cX10_has 4 = .ok (.iand, 1) := by decide +kernel
theorem dX10_has_5 : decode cX10_has 5 = .ok (.iconst 1, 1) := by decide +kernel
theorem dX10_has_6 : decode cX10_has 6 = .ok (.if_icmp .ne 7, 3) := by decide +kernel
theorem dX10_has_13 : decode cX10_has 13 = .ok (.iconst 0, 1) := by decide +kernel
theorem dX10_has_14 : decode cX10_has 14 = .ok (.ireturn, 1) := by decide +kernel
theorem dX10_has_9 : decode cX10_has 9 = .ok (.iconst 1, 1) := by decide +kernel
theorem dX10_has_10 : decode cX10_has 10 = .ok (.goto 4, 3) := by decide +kernel
theorem dX10_apart_0 : decode cX10_apart 0 = .ok (.iload_n 0, 1) := by decide +kernel
theorem dX10_apart_1 : decode cX10_apart 1 = .ok (.iload_n 1, 1) := by decide +kernel
theorem dX10_apart_2 : decode cX10_apart 2 = .ok (.if_icmp .ge 9, 3) := by decide +kernel
theorem dX10_apart_11 : decode cX10_apart 11 = .ok (.iload_n 0, 1) := by decide +kernel
theorem dX10_apart_12 : decode cX10_apart 12 = .ok (.iload_n 1, 1) := by decide +kernel
theorem dX10_apart_13 : decode cX10_apart 13 = .ok (.isub, 1) := by decide +kernel
theorem dX10_apart_14 : decode cX10_apart 14 = .ok (.ireturn, 1) := by decide +kernel
theorem dX10_apart_5 : decode cX10_apart 5 = .ok (.iload_n 1, 1) := by decide +kernel
theorem dX10_apart_6 : decode cX10_apart 6 = .ok (.iload_n 0, 1) := by decide +kernel
theorem dX10_apart_7 : decode cX10_apart 7 = .ok (.isub, 1) := by decide +kernel
theorem dX10_apart_8 : decode cX10_apart 8 = .ok (.goto 6, 3) := by decide +kernel
theorem dX10_isClog_0 : decode cX10_isClog 0 = .ok (.iload_n 1, 1) := by decide +kernel
theorem dX10_isClog_1 : decode cX10_isClog 1 = .ok (.iconst 0, 1) := by decide +kernel
theorem dX10_isClog_2 : decode cX10_isClog 2 = .ok (.aload_n 0, 1) := by decide +kernel
theorem dX10_isClog_3 : decode cX10_isClog 3 = .ok (.getfield 17, 3) := by decide +kernel
theorem dX10_isClog_6 : decode cX10_isClog 6 = .ok (.iconst 1, 1) := by decide +kernel
theorem dX10_isClog_7 : decode cX10_isClog 7 = .ok (.iaload, 1) := by decide +kernel
theorem dX10_isClog_8 : decode cX10_isClog 8 = .ok (.iconst 1, 1) := by decide +kernel
theorem dX10_isClog_9 : decode cX10_isClog 9 = .ok (.isub, 1) := by decide +kernel
theorem kw912 : Cond.code yX10_in cX10_in 3 (some .boolean) ∈ Tg := mem_Tg (List.mem_append_right _ (List.mem_of_getElem? (i := 912) (by decide +kernel))) (by decide +kernel)
theorem dX10_isClog_10 : decode cX10_isClog 10 = .ok (.invokestatic 90, 3) := by decide +kernel
theorem dX10_isClog_13 : decode cX10_isClog 13 = .ok (.ireturn, 1) := by decide +kernel
theorem dX10_write_0 : decode cX10_write 0 = .ok (.iload_n 1, 1) := by decide +kernel
theorem dX10_write_1 : decode cX10_write 1 = .ok (.bipush 32, 2) := by decide +kernel
theorem dX10_write_3 : decode cX10_write 3 = .ok (.bipush 126, 2) := by decide +kernel
theorem dX10_write_5 : decode cX10_write 5 = .ok (.invokestatic 90, 3) := by decide +kernel
theorem dX10_write_8 : decode cX10_write 8 = .ok (.ifCond .ne 5, 3) := by decide +kernel
theorem dX10_write_13 : decode cX10_write 13 = .ok (.aload_n 0, 1) := by decide +kernel
theorem dX10_write_14 : decode cX10_write 14 = .ok (.getfield 94, 3) := by decide +kernel
theorem dX10_write_17 : decode cX10_write 17 = .ok (.sipush 200, 3) := by decide +kernel
theorem dX10_write_20 : decode cX10_write 20 = .ok (.if_icmp .ne 6, 3) := by decide +kernel
theorem dX10_write_26 : decode cX10_write 26 = .ok (.aload_n 0, 1) := by decide +kernel
theorem dX10_write_27 : decode cX10_write 27 = .ok (.getfield 29, 3) := by decide +kernel
theorem dX10_write_30 : decode cX10_write 30 = .ok (.aload_n 0, 1) := by decide +kernel
theorem dX10_write_31 : decode cX10_write 31 = .ok (.getfield 94, 3) := by decide +kernel
theorem dX10_write_34 : decode cX10_write 34 = .ok (.iload_n 1, 1) := by decide +kernel
theorem dX10_write_35 : decode cX10_write 35 = .ok (.iastore, 1) := by decide +kernel
theorem dX10_write_36 : decode cX10_write 36 = .ok (.aload_n 0, 1) := by decide +kernel
theorem dX10_write_37 : decode cX10_write 37 = .ok (.dup, 1) := by decide +kernel
theorem dX10_write_38 : decode cX10_write 38 = .ok (.getfield 94, 3) := by decide +kernel
theorem dX10_write_41 : decode cX10_write 41 = .ok (.iconst 1, 1) := by decide +kernel
theorem dX10_write_42 : decode cX10_write 42 = .ok (.iadd, 1) := by decide +kernel
theorem dX10_write_43 : decode cX10_write 43 = .ok (.putfield 94, 3) := by decide +kernel
theorem dX10_write_46 : decode cX10_write 46 = .ok (.aload_n 0, 1) := by decide +kernel
theorem dX10_write_47 : decode cX10_write 47 = .ok (.getfield 94, 3) := by decide +kernel
theorem dX10_write_50 : decode cX10_write 50 = .ok (.ireturn, 1) := by decide +kernel
theorem dX10_write_23 : decode cX10_write 23 = .ok (.bipush (-3), 2) := by decide +kernel
theorem dX10_write_25 : decode cX10_write 25 = .ok (.ireturn, 1) := by decide +kernel
theorem dX10_write_11 : decode cX10_write 11 = .ok (.iconst (-1), 1) := by decide +kernel
theorem dX10_write_12 : decode cX10_write 12 = .ok (.ireturn, 1) := by decide +kernel
theorem dX10_wipe_0 : decode cX10_wipe 0 = .ok (.aload_n 0, 1) := by decide +kernel
theorem dX10_wipe_1 : decode cX10_wipe 1 = .ok (.getfield 94, 3) := by decide +kernel
theorem dX10_wipe_4 : decode cX10_wipe 4 = .ok (.istore_n 1, 1) := by decide +kernel
theorem dX10_wipe_5 : decode cX10_wipe 5 = .ok (.aload_n 0, 1) := by decide +kernel
theorem dX10_wipe_6 : decode cX10_wipe 6 = .ok (.iconst 0, 1) := by decide +kernel
theorem dX10_wipe_7 : decode cX10_wipe 7 = .ok (.putfield 94, 3) := by decide +kernel
theorem dX10_wipe_10 : decode cX10_wipe 10 = .ok (.iload_n 1, 1) := by decide +kernel
theorem dX10_wipe_11 : decode cX10_wipe 11 = .ok (.ireturn, 1) := by decide +kernel
theorem dX10_letterAt_0 : decode cX10_letterAt 0 = .ok (.iload_n 1, 1) := by decide +kernel
theorem dX10_letterAt_1 : decode cX10_letterAt 1 = .ok (.aload_n 0, 1) := by decide +kernel
theorem dX10_letterAt_2 : decode cX10_letterAt 2 = .ok (.getfield 94, 3) := by decide +kernel
theorem dX10_letterAt_5 : decode cX10_letterAt 5 = .ok (.if_icmp .ge 12, 3) := by decide +kernel
theorem dX10_letterAt_17 : decode cX10_letterAt 17 = .ok (.iconst (-1), 1) := by decide +kernel
theorem dX10_letterAt_18 : decode cX10_letterAt 18 = .ok (.ireturn, 1) := by decide +kernel
theorem dX10_letterAt_8 : decode cX10_letterAt 8 = .ok (.aload_n 0, 1) := by decide +kernel
theorem dX10_letterAt_9 : decode cX10_letterAt 9 = .ok (.getfield 29, 3) := by decide +kernel
theorem dX10_letterAt_12 : decode cX10_letterAt 12 = .ok (.iload_n 1, 1) := by decide +kernel
theorem dX10_letterAt_13 : decode cX10_letterAt 13 = .ok (.iaload, 1) := by decide +kernel
theorem dX10_letterAt_14 : decode cX10_letterAt 14 = .ok (.goto 4, 3) := by decide +kernel
theorem dX10_isFigure_0 : decode cX10_isFigure 0 = .ok (.iload_n 0, 1) := by decide +kernel
theorem dX10_isFigure_1 : decode cX10_isFigure 1 = .ok (.bipush 48, 2) := by decide +kernel
theorem dX10_isFigure_3 : decode cX10_isFigure 3 = .ok (.bipush 57, 2) := by decide +kernel
theorem dX10_isFigure_5 : decode cX10_isFigure 5 = .ok (.invokestatic 90, 3) := by decide +kernel
theorem dX10_isFigure_8 : decode cX10_isFigure 8 = .ok (.ireturn, 1) := by decide +kernel
theorem dX10_readNumbers_0 : decode cX10_readNumbers 0 = .ok (.iconst 0, 1) := by decide +kernel
theorem dX10_readNumbers_1 : decode cX10_readNumbers 1 = .ok (.istore_n 2, 1) := by decide +kernel
theorem dX10_readNumbers_2 : decode cX10_readNumbers 2 = .ok (.iload_n 2, 1) := by decide +kernel
theorem dX10_readNumbers_3 : decode cX10_readNumbers 3 = .ok (.iload_n 1, 1) := by decide +kernel
theorem dX10_readNumbers_4 : decode cX10_readNumbers 4 = .ok (.if_icmp .ge 140, 3) := by decide +kernel
theorem dX10_readNumbers_7 : decode cX10_readNumbers 7 = .ok (.aload_n 0, 1) := by decide +kernel
theorem dX10_readNumbers_8 : decode cX10_readNumbers 8 = .ok (.aload_n 0, 1) := by decide +kernel
theorem dX10_readNumbers_9 : decode cX10_readNumbers 9 = .ok (.getfield 97, 3) := by decide +kernel
theorem kw928 : Cond.code yX10_letterAt cX10_letterAt 2 (some .int) ∈ Tg := mem_Tg (List.mem_append_right _ (List.mem_of_getElem? (i := 928) (by decide +kernel))) (by decide +kernel)
theorem dX10_readNumbers_12 : decode cX10_readNumbers 12 = .ok (.invokevirtual 100, 3) := by decide +kernel
theorem kw939 : Cond.code yX10_isFigure cX10_isFigure 1 (some .boolean) ∈ Tg := mem_Tg (List.mem_append_right _ (List.mem_of_getElem? (i := 939) (by decide +kernel))) (by decide +kernel)
theorem dX10_readNumbers_15 : decode cX10_readNumbers 15 = .ok (.invokestatic 104, 3) := by decide +kernel
theorem dX10_readNumbers_18 : decode cX10_readNumbers 18 = .ok (.ifCond .ne 5, 3) := by decide +kernel
theorem dX10_readNumbers_23 : decode cX10_readNumbers 23 = .ok (.aload_n 0, 1) := by decide +kernel
theorem dX10_readNumbers_24 : decode cX10_readNumbers 24 = .ok (.getfield 32, 3) := by decide +kernel
theorem dX10_readNumbers_27 : decode cX10_readNumbers 27 = .ok (.iload_n 2, 1) := by decide +kernel
theorem dX10_readNumbers_28 : decode cX10_readNumbers 28 = .ok (.aload_n 0, 1) := by decide +kernel
theorem dX10_readNumbers_29 : decode cX10_readNumbers 29 = .ok (.aload_n 0, 1) := by decide +kernel
theorem dX10_readNumbers_30 : decode cX10_readNumbers 30 = .ok (.getfield 97, 3) := by decide +kernel
theorem dX10_readNumbers_33 : decode cX10_readNumbers 33 = .ok (.invokevirtual 100, 3) := by decide +kernel
theorem dX10_readNumbers_36 : decode cX10_readNumbers 36 = .ok (.bipush 48, 2) := by decide +kernel
theorem dX10_readNumbers_38 : decode cX10_readNumbers 38 = .ok (.isub, 1) := by decide +kernel
theorem dX10_readNumbers_39 : decode cX10_readNumbers 39 = .ok (.iastore, 1) := by decide +kernel
theorem dX10_readNumbers_40 : decode cX10_readNumbers 40 = .ok (.aload_n 0, 1) := by decide +kernel
theorem dX10_readNumbers_41 : decode cX10_readNumbers 41 = .ok (.dup, 1) := by decide +kernel
theorem dX10_readNumbers_42 : decode cX10_readNumbers 42 = .ok (.getfield 97, 3) := by decide +kernel
theorem dX10_readNumbers_45 : decode cX10_readNumbers 45 = .ok (.iconst 1, 1) := by decide +kernel
theorem dX10_readNumbers_46 : decode cX10_readNumbers 46 = .ok (.iadd, 1) := by decide +kernel
theorem dX10_readNumbers_47 : decode cX10_readNumbers 47 = .ok (.putfield 97, 3) := by decide +kernel
theorem dX10_readNumbers_50 : decode cX10_readNumbers 50 = .ok (.aload_n 0, 1) := by decide +kernel
theorem dX10_readNumbers_51 : decode cX10_readNumbers 51 = .ok (.aload_n 0, 1) := by decide +kernel
theorem dX10_readNumbers_52 : decode cX10_readNumbers 52 = .ok (.getfield 97, 3) := by decide +kernel
theorem dX10_readNumbers_55 : decode cX10_readNumbers 55 = .ok (.invokevirtual 100, 3) := by decide +kernel
theorem dX10_readNumbers_58 : decode cX10_readNumbers 58 = .ok (.invokestatic 104, 3) := by decide +kernel
theorem dX10_readNumbers_61 : decode cX10_readNumbers 61 = .ok (.ifCond .eq 40, 3) := by decide +kernel
theorem dX10_readNumbers_101 : decode cX10_readNumbers 101 = .ok (.aload_n 0, 1) := by decide +kernel
theorem dX10_readNumbers_102 : decode cX10_readNumbers 102 = .ok (.aload_n 0, 1) := by decide +kernel
theorem dX10_readNumbers_103 : decode cX10_readNumbers 103 = .ok (.getfield 97, 3) := by decide +kernel
theorem dX10_readNumbers_106 : decode cX10_readNumbers 106 = .ok (.invokevirtual 100, 3) := by decide +kernel
theorem dX10_readNumbers_109 : decode cX10_readNumbers 109 = .ok (.iload_n 2, 1) := by decide +kernel
theorem dX10_readNumbers_110 : decode cX10_readNumbers 110 = .ok (.iload_n 1, 1) := by decide +kernel
theorem dX10_readNumbers_111 : decode cX10_readNumbers 111 = .ok (.iconst 1, 1) := by decide +kernel
theorem dX10_readNumbers_112 : decode cX10_readNumbers 112 = .ok (.isub, 1) := by decide +kernel
theorem dX10_readNumbers_113 : decode cX10_readNumbers 113 = .ok (.if_icmp .ge 8, 3) := by decide +kernel
theorem dX10_readNumbers_121 : decode cX10_readNumbers 121 = .ok (.bipush 59, 2) := by decide +kernel
theorem dX10_readNumbers_123 : decode cX10_readNumbers 123 = .ok (.if_icmp .eq 5, 3) := by decide +kernel
theorem dX10_readNumbers_128 : decode cX10_readNumbers 128 = .ok (.aload_n 0, 1) := by decide +kernel
theorem dX10_readNumbers_129 : decode cX10_readNumbers 129 = .ok (.dup, 1) := by decide +kernel
theorem dX10_readNumbers_130 : decode cX10_readNumbers 130 = .ok (.getfield 97, 3) := by decide +kernel
theorem dX10_readNumbers_133 : decode cX10_readNumbers 133 = .ok (.iconst 1, 1) := by decide +kernel
theorem dX10_readNumbers_134 : decode cX10_readNumbers 134 = .ok (.iadd, 1) := by decide +kernel
theorem dX10_readNumbers_135 : decode cX10_readNumbers 135 = .ok (.putfield 97, 3) := by decide +kernel
theorem dX10_readNumbers_138 : decode cX10_readNumbers 138 = .ok (.iinc 2 1, 3) := by decide +kernel
theorem dX10_readNumbers_141 : decode cX10_readNumbers 141 = .ok (.goto (-139), 3) := by decide +kernel
theorem dX10_readNumbers_126 : decode cX10_readNumbers 126 = .ok (.iconst 0, 1) := by decide +kernel
theorem dX10_readNumbers_127 : decode cX10_readNumbers 127 = .ok (.ireturn, 1) := by decide +kernel
theorem dX10_readNumbers_116 : decode cX10_readNumbers 116 = .ok (.bipush 44, 2) := by decide +kernel
theorem dX10_readNumbers_118 : decode cX10_readNumbers 118 = .ok (.goto 5, 3) := by decide +kernel
theorem dX10_readNumbers_64 : decode cX10_readNumbers 64 = .ok (.aload_n 0, 1) := by decide +kernel
theorem dX10_readNumbers_65 : decode cX10_readNumbers 65 = .ok (.getfield 32, 3) := by decide +kernel
theorem dX10_readNumbers_68 : decode cX10_readNumbers 68 = .ok (.iload_n 2, 1) := by decide +kernel
theorem dX10_readNumbers_69 : decode cX10_readNumbers 69 = .ok (.bipush 10, 2) := by decide +kernel
theorem dX10_readNumbers_71 : decode cX10_readNumbers 71 = .ok (.aload_n 0, 1) := by decide +kernel
theorem dX10_readNumbers_72 : decode cX10_readNumbers 72 = .ok (.getfield 32, 3) := by decide +kernel
theorem dX10_readNumbers_75 : decode cX10_readNumbers 75 = .ok (.iload_n 2, 1) := by decide +kernel
theorem dX10_readNumbers_76 : decode cX10_readNumbers 76 = .ok (.iaload, 1) := by decide +kernel
theorem dX10_readNumbers_77 : decode cX10_readNumbers 77 = .ok (.imul, 1) := by decide +kernel
theorem dX10_readNumbers_78 : decode cX10_readNumbers 78 = .ok (.aload_n 0, 1) := by decide +kernel
theorem dX10_readNumbers_79 : decode cX10_readNumbers 79 = .ok (.aload_n 0, 1) := by decide +kernel
theorem dX10_readNumbers_80 : decode cX10_readNumbers 80 = .ok (.getfield 97, 3) := by decide +kernel
theorem dX10_readNumbers_83 : decode cX10_readNumbers 83 = .ok (.invokevirtual 100, 3) := by decide +kernel
theorem dX10_readNumbers_86 : decode cX10_readNumbers 86 = .ok (.iadd, 1) := by decide +kernel
theorem dX10_readNumbers_87 : decode cX10_readNumbers 87 = .ok (.bipush 48, 2) := by decide +kernel
theorem dX10_readNumbers_89 : decode cX10_readNumbers 89 = .ok (.isub, 1) := by decide +kernel
theorem dX10_readNumbers_90 : decode cX10_readNumbers 90 = .ok (.iastore, 1) := by decide +kernel
theorem dX10_readNumbers_91 : decode cX10_readNumbers 91 = .ok (.aload_n 0, 1) := by decide +kernel
theorem dX10_readNumbers_92 : decode cX10_readNumbers 92 = .ok (.dup, 1) := by decide +kernel
theorem dX10_readNumbers_93 : decode cX10_readNumbers 93 = .ok (.getfield 97, 3) := by decide +kernel
theorem dX10_readNumbers_96 : decode cX10_readNumbers 96 = .ok (.iconst 1, 1) := by decide +kernel
theorem dX10_readNumbers_97 : decode cX10_readNumbers 97 = .ok (.iadd, 1) := by decide +kernel
theorem dX10_readNumbers_98 : decode cX10_readNumbers 98 = .ok (.putfield 97, 3) := by decide +kernel
theorem dX10_readNumbers_21 : decode cX10_readNumbers 21 = .ok (.iconst 0, 1) := by decide +kernel
theorem dX10_readNumbers_22 : decode cX10_readNumbers 22 = .ok (.ireturn, 1) := by decide +kernel
theorem dX10_readNumbers_144 : decode cX10_readNumbers 144 = .ok (.iconst 1, 1) := by decide +kernel
theorem dX10_readNumbers_145 : decode cX10_readNumbers 145 = .ok (.ireturn, 1) := by decide +kernel
theorem dX10_isTold_0 : decode cX10_isTold 0 = .ok (.aload_n 0, 1) := by decide +kernel
theorem dX10_isTold_1 : decode cX10_isTold 1 = .ok (.getfield 32, 3) := by decide +kernel
theorem dX10_isTold_4 : decode cX10_isTold 4 = .ok (.iload_n 1, 1) := by decide +kernel
theorem dX10_isTold_5 : decode cX10_isTold 5 = .ok (.iaload, 1) := by decide +kernel
theorem dX10_isTold_6 : decode cX10_isTold 6 = .ok (.iload_n 2, 1) := by decide +kernel
theorem dX10_isTold_7 : decode cX10_isTold 7 = .ok (.iload_n 3, 1) := by decide +kernel
theorem dX10_isTold_8 : decode cX10_isTold 8 = .ok (.invokestatic 90, 3) := by decide +kernel
theorem dX10_isTold_11 : decode cX10_isTold 11 = .ok (.ireturn, 1) := by decide +kernel
theorem dX10_clearTold_0 : decode cX10_clearTold 0 = .ok (.iconst 0, 1) := by decide +kernel
theorem dX10_clearTold_1 : decode cX10_clearTold 1 = .ok (.istore_n 1, 1) := by decide +kernel
theorem dX10_clearTold_2 : decode cX10_clearTold 2 = .ok (.iload_n 1, 1) := by decide +kernel
theorem dX10_clearTold_3 : decode cX10_clearTold 3 = .ok (.bipush 52, 2) := by decide +kernel
theorem dX10_clearTold_5 : decode cX10_clearTold 5 = .ok (.if_icmp .ge 16, 3) := by decide +kernel
theorem dX10_clearTold_8 : decode cX10_clearTold 8 = .ok (.aload_n 0, 1) := by decide +kernel
theorem dX10_clearTold_9 : decode cX10_clearTold 9 = .ok (.getfield 35, 3) := by decide +kernel
theorem dX10_clearTold_12 : decode cX10_clearTold 12 = .ok (.iload_n 1, 1) := by decide +kernel
theorem dX10_clearTold_13 : decode cX10_clearTold 13 = .ok (.iconst 0, 1) := by decide +kernel
theorem dX10_clearTold_14 : decode cX10_clearTold 14 = .ok (.iastore, 1) := by decide +kernel
theorem dX10_clearTold_15 : decode cX10_clearTold 15 = .ok (.iinc 1 1, 3) := by decide +kernel
theorem dX10_clearTold_18 : decode cX10_clearTold 18 = .ok (.goto (-16), 3) := by decide +kernel
theorem dX10_clearTold_21 : decode cX10_clearTold 21 = .ok (.iconst 0, 1) := by decide +kernel
theorem dX10_clearTold_22 : decode cX10_clearTold 22 = .ok (.istore_n 1, 1) := by decide +kernel
theorem dX10_clearTold_23 : decode cX10_clearTold 23 = .ok (.iload_n 1, 1) := by decide +kernel
theorem dX10_clearTold_24 : decode cX10_clearTold 24 = .ok (.bipush 40, 2) := by decide +kernel
theorem dX10_clearTold_26 : decode cX10_clearTold 26 = .ok (.if_icmp .ge 16, 3) := by decide +kernel
theorem dX10_clearTold_29 : decode cX10_clearTold 29 = .ok (.aload_n 0, 1) := by decide +kernel
theorem dX10_clearTold_30 : decode cX10_clearTold 30 = .ok (.getfield 41, 3) := by decide +kernel
theorem dX10_clearTold_33 : decode cX10_clearTold 33 = .ok (.iload_n 1, 1) := by decide +kernel
theorem dX10_clearTold_34 : decode cX10_clearTold 34 = .ok (.iconst 0, 1) := by decide +kernel
theorem dX10_clearTold_35 : decode cX10_clearTold 35 = .ok (.bastore, 1) := by decide +kernel
theorem dX10_clearTold_36 : decode cX10_clearTold 36 = .ok (.iinc 1 1, 3) := by decide +kernel
theorem dX10_clearTold_39 : decode cX10_clearTold 39 = .ok (.goto (-16), 3) := by decide +kernel
theorem dX10_clearTold_42 : decode cX10_clearTold 42 = .ok (.aload_n 0, 1) := by decide +kernel
theorem dX10_clearTold_43 : decode cX10_clearTold 43 = .ok (.iconst 0, 1) := by decide +kernel
theorem dX10_clearTold_44 : decode cX10_clearTold 44 = .ok (.putfield 87, 3) := by decide +kernel
theorem dX10_clearTold_47 : decode cX10_clearTold 47 = .ok (.aload_n 0, 1) := by decide +kernel
theorem dX10_clearTold_48 : decode cX10_clearTold 48 = .ok (.bipush 20, 2) := by decide +kernel
theorem dX10_clearTold_50 : decode cX10_clearTold 50 = .ok (.putfield 73, 3) := by decide +kernel
theorem dX10_clearTold_53 : decode cX10_clearTold 53 = .ok (.aload_n 0, 1) := by decide +kernel
theorem dX10_clearTold_54 : decode cX10_clearTold 54 = .ok (.iconst 4, 1) := by decide +kernel
theorem dX10_clearTold_55 : decode cX10_clearTold 55 = .ok (.putfield 77, 3) := by decide +kernel
theorem dX10_clearTold_58 : decode cX10_clearTold 58 = .ok (.aload_n 0, 1) := by decide +kernel
theorem dX10_clearTold_59 : decode cX10_clearTold 59 = .ok (.iconst 2, 1) := by decide +kernel
theorem dX10_clearTold_60 : decode cX10_clearTold 60 = .ok (.putfield 108, 3) := by decide +kernel
theorem dX10_clearTold_63 : decode cX10_clearTold 63 = .ok (.return_, 1) := by decide +kernel
theorem dX10_isOne_0 : decode cX10_isOne 0 = .ok (.iload_n 0, 1) := by decide +kernel
theorem dX10_isOne_1 : decode cX10_isOne 1 = .ok (.iconst 0, 1) := by decide +kernel
theorem dX10_isOne_2 : decode cX10_isOne 2 = .ok (.iconst 3, 1) := by decide +kernel
theorem dX10_isOne_3 : decode cX10_isOne 3 = .ok (.invokestatic 90, 3) := by decide +kernel
theorem dX10_isOne_6 : decode cX10_isOne 6 = .ok (.ifCond .eq 37, 3) := by decide +kernel
theorem dX10_isOne_43 : decode cX10_isOne 43 = .ok (.iconst 0, 1) := by decide +kernel
theorem dX10_isOne_44 : decode cX10_isOne 44 = .ok (.ireturn, 1) := by decide +kernel
theorem dX10_isOne_9 : decode cX10_isOne 9 = .ok (.iload_n 1, 1) := by decide +kernel
theorem dX10_isOne_10 : decode cX10_isOne 10 = .ok (.iconst 0, 1) := by decide +kernel
theorem dX10_isOne_11 : decode cX10_isOne 11 = .ok (.iconst 1, 1) := by decide +kernel
theorem dX10_isOne_12 : decode cX10_isOne 12 = .ok (.invokestatic 90, 3) := by decide +kernel
theorem dX10_isOne_15 : decode cX10_isOne 15 = .ok (.ifCond .eq 28, 3) := by decide +kernel
theorem dX10_isOne_18 : decode cX10_isOne 18 = .ok (.iload_n 2, 1) := by decide +kernel
theorem dX10_isOne_19 : decode cX10_isOne 19 = .ok (.bipush 12, 2) := by decide +kernel
theorem dX10_isOne_21 : decode cX10_isOne 21 = .ok (.bipush 72, 2) := by decide +kernel
theorem dX10_isOne_23 : decode cX10_isOne 23 = .ok (.invokestatic 90, 3) := by decide +kernel
theorem dX10_isOne_26 : decode cX10_isOne 26 = .ok (.ifCond .eq 17, 3) := by decide +kernel
theorem dX10_isOne_29 : decode cX10_isOne 29 = .ok (.iload_n 3, 1) := by decide +kernel
theorem dX10_isOne_30 : decode cX10_isOne 30 = .ok (.iconst 1, 1) := by decide +kernel
theorem dX10_isOne_31 : decode cX10_isOne 31 = .ok (.bipush 40, 2) := by decide +kernel
theorem dX10_isOne_33 : decode cX10_isOne 33 = .ok (.invokestatic 90, 3) := by decide +kernel
theorem dX10_isOne_36 : decode cX10_isOne 36 = .ok (.ifCond .eq 7, 3) := by decide +kernel
theorem dX10_isOne_39 : decode cX10_isOne 39 = .ok (.iconst 1, 1) := by decide +kernel
theorem dX10_isOne_40 : decode cX10_isOne 40 = .ok (.goto 4, 3) := by decide +kernel
theorem dX10_readFeetOf_0 : decode cX10_readFeetOf 0 = .ok (.aload_n 0, 1) := by decide +kernel
theorem dX10_readFeetOf_1 : decode cX10_readFeetOf 1 = .ok (.getfield 87, 3) := by decide +kernel
theorem dX10_readFeetOf_4 : decode cX10_readFeetOf 4 = .ok (.iconst 5, 1) := by decide +kernel
theorem dX10_readFeetOf_5 : decode cX10_readFeetOf 5 = .ok (.if_icmp .eq 35, 3) := by decide +kernel
theorem dX10_readFeetOf_40 : decode cX10_readFeetOf 40 = .ok (.iconst 0, 1) := by decide +kernel
theorem dX10_readFeetOf_41 : decode cX10_readFeetOf 41 = .ok (.ireturn, 1) := by decide +kernel
theorem dX10_readFeetOf_8 : decode cX10_readFeetOf 8 = .ok (.aload_n 0, 1) := by decide +kernel
theorem dX10_readFeetOf_9 : decode cX10_readFeetOf 9 = .ok (.iconst 2, 1) := by decide +kernel
theorem kw936 : Cond.code yX10_readNumbers cX10_readNumbers 3 (some .boolean) ∈ Tg := mem_Tg (List.mem_append_right _ (List.mem_of_getElem? (i := 936) (by decide +kernel))) (by decide +kernel)
theorem dX10_readFeetOf_10 : decode cX10_readFeetOf 10 = .ok (.invokevirtual 111, 3) := by decide +kernel
theorem dX10_readFeetOf_13 : decode cX10_readFeetOf 13 = .ok (.ifCond .eq 27, 3) := by decide +kernel
theorem dX10_readFeetOf_16 : decode cX10_readFeetOf 16 = .ok (.aload_n 0, 1) := by decide +kernel
theorem dX10_readFeetOf_17 : decode cX10_readFeetOf 17 = .ok (.iconst 0, 1) := by decide +kernel
theorem dX10_readFeetOf_18 : decode cX10_readFeetOf 18 = .ok (.bipush 10, 2) := by decide +kernel
theorem dX10_readFeetOf_20 : decode cX10_readFeetOf 20 = .ok (.bipush 72, 2) := by decide +kernel
theorem kw950 : Cond.code yX10_isTold cX10_isTold 4 (some .boolean) ∈ Tg := mem_Tg (List.mem_append_right _ (List.mem_of_getElem? (i := 950) (by decide +kernel))) (by decide +kernel)
theorem dX10_readFeetOf_22 : decode cX10_readFeetOf 22 = .ok (.invokevirtual 118, 3) := by decide +kernel
theorem dX10_readFeetOf_25 : decode cX10_readFeetOf 25 = .ok (.ifCond .eq 15, 3) := by decide +kernel
theorem dX10_readFeetOf_28 : decode cX10_readFeetOf 28 = .ok (.aload_n 0, 1) := by decide +kernel
theorem dX10_readFeetOf_29 : decode cX10_readFeetOf 29 = .ok (.iconst 1, 1) := by decide +kernel
theorem dX10_readFeetOf_30 : decode cX10_readFeetOf 30 = .ok (.bipush 10, 2) := by decide +kernel
theorem dX10_readFeetOf_32 : decode cX10_readFeetOf 32 = .ok (.bipush 72, 2) := by decide +kernel
theorem dX10_readFeetOf_34 : decode cX10_readFeetOf 34 = .ok (.invokevirtual 118, 3) := by decide +kernel
theorem dX10_readFeetOf_37 : decode cX10_readFeetOf 37 = .ok (.ifCond .ne 5, 3) := by decide +kernel
theorem dX10_readFeetOf_42 : decode cX10_readFeetOf 42 = .ok (.aload_n 0, 1) := by decide +kernel
theorem dX10_readFeetOf_43 : decode cX10_readFeetOf 43 = .ok (.aload_n 0, 1) := by decide +kernel
theorem dX10_readFeetOf_44 : decode cX10_readFeetOf 44 = .ok (.getfield 32, 3) := by decide +kernel
theorem dX10_readFeetOf_47 : decode cX10_readFeetOf 47 = .ok (.iconst 0, 1) := by decide +kernel
theorem dX10_readFeetOf_48 : decode cX10_readFeetOf 48 = .ok (.iaload, 1) := by decide +kernel
theorem dX10_readFeetOf_49 : decode cX10_readFeetOf 49 = .ok (.aload_n 0, 1) := by decide +kernel
theorem dX10_readFeetOf_50 : decode cX10_readFeetOf 50 = .ok (.getfield 32, 3) := by decide +kernel
theorem dX10_readFeetOf_53 : decode cX10_readFeetOf 53 = .ok (.iconst 1, 1) := by decide +kernel
theorem dX10_readFeetOf_54 : decode cX10_readFeetOf 54 = .ok (.iaload, 1) := by decide +kernel
theorem kw800 : Cond.code yX10_tellsFeet cX10_tellsFeet 3 none ∈ Tg := mem_Tg (List.mem_append_right _ (List.mem_of_getElem? (i := 800) (by decide +kernel))) (by decide +kernel)
theorem dX10_readFeetOf_55 : decode cX10_readFeetOf 55 = .ok (.invokevirtual 69, 3) := by decide +kernel
theorem dX10_readFeetOf_58 : decode cX10_readFeetOf 58 = .ok (.iconst 1, 1) := by decide +kernel
theorem dX10_readFeetOf_59 : decode cX10_readFeetOf 59 = .ok (.ireturn, 1) := by decide +kernel
theorem dX10_readLogOf_0 : decode cX10_readLogOf 0 = .ok (.aload_n 0, 1) := by decide +kernel
theorem dX10_readLogOf_1 : decode cX10_readLogOf 1 = .ok (.iconst 2, 1) := by decide +kernel
theorem dX10_readLogOf_2 : decode cX10_readLogOf 2 = .ok (.invokevirtual 111, 3) := by decide +kernel
theorem dX10_readLogOf_5 : decode cX10_readLogOf 5 = .ok (.ifCond .eq 25, 3) := by decide +kernel
theorem dX10_readLogOf_30 : decode cX10_readLogOf 30 = .ok (.iconst 0, 1) := by decide +kernel
theorem dX10_readLogOf_31 : decode cX10_readLogOf 31 = .ok (.ireturn, 1) := by decide +kernel
theorem dX10_readLogOf_8 : decode cX10_readLogOf 8 = .ok (.aload_n 0, 1) := by decide +kernel
theorem dX10_readLogOf_9 : decode cX10_readLogOf 9 = .ok (.iconst 0, 1) := by decide +kernel
theorem dX10_readLogOf_10 : decode cX10_readLogOf 10 = .ok (.iconst 1, 1) := by decide +kernel
theorem dX10_readLogOf_11 : decode cX10_readLogOf 11 = .ok (.bipush 40, 2) := by decide +kernel
theorem dX10_readLogOf_13 : decode cX10_readLogOf 13 = .ok (.invokevirtual 118, 3) := by decide +kernel
theorem dX10_readLogOf_16 : decode cX10_readLogOf 16 = .ok (.ifCond .eq 14, 3) := by decide +kernel
theorem dX10_readLogOf_19 : decode cX10_readLogOf 19 = .ok (.aload_n 0, 1) := by decide +kernel
theorem dX10_readLogOf_20 : decode cX10_readLogOf 20 = .ok (.iconst 1, 1) := by decide +kernel
theorem dX10_readLogOf_21 : decode cX10_readLogOf 21 = .ok (.iconst 2, 1) := by decide +kernel
theorem dX10_readLogOf_22 : decode cX10_readLogOf 22 = .ok (.bipush 9, 2) := by decide +kernel
theorem dX10_readLogOf_24 : decode cX10_readLogOf 24 = .ok (.invokevirtual 118, 3) := by decide +kernel
theorem dX10_readLogOf_27 : decode cX10_readLogOf 27 = .ok (.ifCond .ne 5, 3) := by decide +kernel
theorem dX10_readLogOf_32 : decode cX10_readLogOf 32 = .ok (.aload_n 0, 1) := by decide +kernel
theorem dX10_readLogOf_33 : decode cX10_readLogOf 33 = .ok (.aload_n 0, 1) := by decide +kernel
theorem dX10_readLogOf_34 : decode cX10_readLogOf 34 = .ok (.getfield 32, 3) := by decide +kernel
theorem dX10_readLogOf_37 : decode cX10_readLogOf 37 = .ok (.iconst 0, 1) := by decide +kernel
theorem dX10_readLogOf_38 : decode cX10_readLogOf 38 = .ok (.iaload, 1) := by decide +kernel
theorem dX10_readLogOf_39 : decode cX10_readLogOf 39 = .ok (.putfield 73, 3) := by decide +kernel
theorem dX10_readLogOf_42 : decode cX10_readLogOf 42 = .ok (.aload_n 0, 1) := by decide +kernel
theorem dX10_readLogOf_43 : decode cX10_readLogOf 43 = .ok (.aload_n 0, 1) := by decide +kernel
theorem dX10_readLogOf_44 : decode cX10_readLogOf 44 = .ok (.getfield 32, 3) := by decide +kernel
theorem dX10_readLogOf_47 : decode cX10_readLogOf 47 = .ok (.iconst 1, 1) := by decide +kernel
theorem dX10_readLogOf_48 : decode cX10_readLogOf 48 = .ok (.iaload, 1) := by decide +kernel
theorem dX10_readLogOf_49 : decode cX10_readLogOf 49 = .ok (.putfield 77, 3) := by decide +kernel
theorem dX10_readLogOf_52 : decode cX10_readLogOf 52 = .ok (.iconst 1, 1) := by decide +kernel
theorem dX10_readLogOf_53 : decode cX10_readLogOf 53 = .ok (.ireturn, 1) := by decide +kernel
theorem dX10_readKnotOf_0 : decode cX10_readKnotOf 0 = .ok (.aload_n 0, 1) := by decide +kernel
theorem dX10_readKnotOf_1 : decode cX10_readKnotOf 1 = .ok (.iconst 1, 1) := by decide +kernel
theorem dX10_readKnotOf_2 : decode cX10_readKnotOf 2 = .ok (.invokevirtual 111, 3) := by decide +kernel
theorem dX10_readKnotOf_5 : decode cX10_readKnotOf 5 = .ok (.ifCond .eq 14, 3) := by decide +kernel
theorem dX10_readKnotOf_19 : decode cX10_readKnotOf 19 = .ok (.iconst 0, 1) := by decide +kernel
theorem dX10_readKnotOf_20 : decode cX10_readKnotOf 20 = .ok (.ireturn, 1) := by decide +kernel
theorem dX10_readKnotOf_8 : decode cX10_readKnotOf 8 = .ok (.aload_n 0, 1) := by decide +kernel
theorem dX10_readKnotOf_9 : decode cX10_readKnotOf 9 = .ok (.iconst 0, 1) := by decide +kernel
theorem dX10_readKnotOf_10 : decode cX10_readKnotOf 10 = .ok (.iconst 0, 1) := by decide +kernel
theorem dX10_readKnotOf_11 : decode cX10_readKnotOf 11 = .ok (.bipush 39, 2) := by decide +kernel
theorem dX10_readKnotOf_13 : decode cX10_readKnotOf 13 = .ok (.invokevirtual 118, 3) := by decide +kernel
theorem dX10_readKnotOf_16 : decode cX10_readKnotOf 16 = .ok (.ifCond .ne 5, 3) := by decide +kernel
theorem dX10_readKnotOf_21 : decode cX10_readKnotOf 21 = .ok (.aload_n 0, 1) := by decide +kernel
theorem dX10_readKnotOf_22 : decode cX10_readKnotOf 22 = .ok (.getfield 41, 3) := by decide +kernel
theorem dX10_readKnotOf_25 : decode cX10_readKnotOf 25 = .ok (.aload_n 0, 1) := by decide +kernel
theorem dX10_readKnotOf_26 : decode cX10_readKnotOf 26 = .ok (.getfield 32, 3) := by decide +kernel
theorem dX10_readKnotOf_29 : decode cX10_readKnotOf 29 = .ok (.iconst 0, 1) := by decide +kernel
theorem dX10_readKnotOf_30 : decode cX10_readKnotOf 30 = .ok (.iaload, 1) := by decide +kernel
theorem dX10_readKnotOf_31 : decode cX10_readKnotOf 31 = .ok (.iconst 1, 1) := by decide +kernel
theorem dX10_readKnotOf_32 : decode cX10_readKnotOf 32 = .ok (.bastore, 1) := by decide +kernel
theorem dX10_readKnotOf_33 : decode cX10_readKnotOf 33 = .ok (.iconst 1, 1) := by decide +kernel
theorem dX10_readKnotOf_34 : decode cX10_readKnotOf 34 = .ok (.ireturn, 1) := by decide +kernel
theorem dX10_readStockingOf_0 : decode cX10_readStockingOf 0 = .ok (.aload_n 0, 1) := by decide +kernel
theorem dX10_readStockingOf_1 : decode cX10_readStockingOf 1 = .ok (.iconst 1, 1) := by decide +kernel
theorem dX10_readStockingOf_2 : decode cX10_readStockingOf 2 = .ok (.invokevirtual 111, 3) := by decide +kernel
theorem dX10_readStockingOf_5 : decode cX10_readStockingOf 5 = .ok (.ifCond .eq 14, 3) := by decide +kernel
theorem dX10_readStockingOf_19 : decode cX10_readStockingOf 19 = .ok (.iconst 0, 1) := by decide +kernel
theorem dX10_readStockingOf_20 : decode cX10_readStockingOf 20 = .ok (.ireturn, 1) := by decide +kernel
theorem dX10_readStockingOf_8 : decode cX10_readStockingOf 8 = .ok (.aload_n 0, 1) := by decide +kernel
theorem dX10_readStockingOf_9 : decode cX10_readStockingOf 9 = .ok (.iconst 0, 1) := by decide +kernel
theorem dX10_readStockingOf_10 : decode cX10_readStockingOf 10 = .ok (.iconst 0, 1) := by decide +kernel
theorem dX10_readStockingOf_11 : decode cX10_readStockingOf 11 = .ok (.bipush 6, 2) := by decide +kernel
theorem dX10_readStockingOf_13 : decode cX10_readStockingOf 13 = .ok (.invokevirtual 118, 3) := by decide +kernel
theorem dX10_readStockingOf_16 : decode cX10_readStockingOf 16 = .ok (.ifCond .ne 5, 3) := by decide +kernel
theorem dX10_readStockingOf_21 : decode cX10_readStockingOf 21 = .ok (.aload_n 0, 1) := by decide +kernel
theorem dX10_readStockingOf_22 : decode cX10_readStockingOf 22 = .ok (.aload_n 0, 1) := by decide +kernel
theorem dX10_readStockingOf_23 : decode cX10_readStockingOf 23 = .ok (.getfield 32, 3) := by decide +kernel
theorem dX10_readStockingOf_26 : decode cX10_readStockingOf 26 = .ok (.iconst 0, 1) := by decide +kernel
theorem dX10_readStockingOf_27 : decode cX10_readStockingOf 27 = .ok (.iaload, 1) := by decide +kernel
theorem dX10_readStockingOf_28 : decode cX10_readStockingOf 28 = .ok (.putfield 108, 3) := by decide +kernel
theorem dX10_readStockingOf_31 : decode cX10_readStockingOf 31 = .ok (.iconst 1, 1) := by decide +kernel
theorem dX10_readStockingOf_32 : decode cX10_readStockingOf 32 = .ok (.ireturn, 1) := by decide +kernel
theorem dX10_copies_0 : decode cX10_copies 0 = .ok (.iconst 0, 1) := by decide +kernel
theorem dX10_copies_1 : decode cX10_copies 1 = .ok (.istore 5, 2) := by decide +kernel
theorem dX10_copies_3 : decode cX10_copies 3 = .ok (.iload 5, 2) := by decide +kernel
theorem dX10_copies_5 : decode cX10_copies 5 = .ok (.iload 4, 2) := by decide +kernel
theorem dX10_copies_7 : decode cX10_copies 7 = .ok (.if_icmp .ge 21, 3) := by decide +kernel
theorem dX10_copies_10 : decode cX10_copies 10 = .ok (.aload_n 0, 1) := by decide +kernel
theorem dX10_copies_11 : decode cX10_copies 11 = .ok (.iload_n 1, 1) := by decide +kernel
theorem dX10_copies_12 : decode cX10_copies 12 = .ok (.iload 5, 2) := by decide +kernel
theorem dX10_copies_14 : decode cX10_copies 14 = .ok (.iadd, 1) := by decide +kernel
theorem dX10_copies_15 : decode cX10_copies 15 = .ok (.aload_n 2, 1) := by decide +kernel
theorem dX10_copies_16 : decode cX10_copies 16 = .ok (.iload_n 3, 1) := by decide +kernel
theorem dX10_copies_17 : decode cX10_copies 17 = .ok (.iload 5, 2) := by decide +kernel
theorem dX10_copies_19 : decode cX10_copies 19 = .ok (.iadd, 1) := by decide +kernel
theorem dX10_copies_20 : decode cX10_copies 20 = .ok (.iaload, 1) := by decide +kernel
theorem dX10_copies_21 : decode cX10_copies 21 = .ok (.iastore, 1) := by decide +kernel
theorem dX10_copies_22 : decode cX10_copies 22 = .ok (.iinc 5 1, 3) := by decide +kernel
theorem dX10_copies_25 : decode cX10_copies 25 = .ok (.goto (-22), 3) := by decide +kernel
theorem dX10_copies_28 : decode cX10_copies 28 = .ok (.return_, 1) := by decide +kernel
theorem dX10_settles_0 : decode cX10_settles 0 = .ok (.aload_n 0, 1) := by decide +kernel
theorem dX10_settles_1 : decode cX10_settles 1 = .ok (.getfield 17, 3) := by decide +kernel
theorem dX10_settles_4 : decode cX10_settles 4 = .ok (.iconst 0, 1) := by decide +kernel
theorem dX10_settles_5 : decode cX10_settles 5 = .ok (.aload_n 0, 1) := by decide +kernel
theorem dX10_settles_6 : decode cX10_settles 6 = .ok (.getfield 35, 3) := by decide +kernel
theorem dX10_settles_9 : decode cX10_settles 9 = .ok (.iconst 0, 1) := by decide +kernel
theorem dX10_settles_10 : decode cX10_settles 10 = .ok (.bipush 52, 2) := by decide +kernel
theorem kw807 : Cond.code yX10_copies cX10_copies 6 none ∈ Tg := mem_Tg (List.mem_append_right _ (List.mem_of_getElem? (i := 807) (by decide +kernel))) (by decide +kernel)
theorem dX10_settles_12 : decode cX10_settles 12 = .ok (.invokestatic 144, 3) := by decide +kernel
theorem dX10_settles_15 : decode cX10_settles 15 = .ok (.aload_n 0, 1) := by decide +kernel
theorem dX10_settles_16 : decode cX10_settles 16 = .ok (.aload_n 0, 1) := by decide +kernel
theorem dX10_settles_17 : decode cX10_settles 17 = .ok (.getfield 87, 3) := by decide +kernel
theorem dX10_settles_20 : decode cX10_settles 20 = .ok (.putfield 148, 3) := by decide +kernel
theorem dX10_settles_23 : decode cX10_settles 23 = .ok (.aload_n 0, 1) := by decide +kernel
theorem dX10_settles_24 : decode cX10_settles 24 = .ok (.getfield 7, 3) := by decide +kernel
theorem dX10_settles_27 : decode cX10_settles 27 = .ok (.iconst 0, 1) := by decide +kernel
theorem dX10_settles_28 : decode cX10_settles 28 = .ok (.aload_n 0, 1) := by decide +kernel
theorem dX10_settles_29 : decode cX10_settles 29 = .ok (.getfield 38, 3) := by decide +kernel
theorem dX10_settles_32 : decode cX10_settles 32 = .ok (.iconst 0, 1) := by decide +kernel
theorem dX10_settles_33 : decode cX10_settles 33 = .ok (.bipush 10, 2) := by decide +kernel
theorem dX10_settles_35 : decode cX10_settles 35 = .ok (.invokestatic 144, 3) := by decide +kernel
theorem dX10_settles_38 : decode cX10_settles 38 = .ok (.aload_n 0, 1) := by decide +kernel
theorem dX10_settles_39 : decode cX10_settles 39 = .ok (.aload_n 0, 1) := by decide +kernel
theorem dX10_settles_40 : decode cX10_settles 40 = .ok (.getfield 73, 3) := by decide +kernel
theorem dX10_settles_43 : decode cX10_settles 43 = .ok (.putfield 151, 3) := by decide +kernel
theorem dX10_settles_46 : decode cX10_settles 46 = .ok (.aload_n 0, 1) := by decide +kernel
theorem dX10_settles_47 : decode cX10_settles 47 = .ok (.aload_n 0, 1) := by decide +kernel
theorem dX10_settles_48 : decode cX10_settles 48 = .ok (.getfield 77, 3) := by decide +kernel
theorem dX10_settles_51 : decode cX10_settles 51 = .ok (.putfield 154, 3) := by decide +kernel
theorem dX10_settles_54 : decode cX10_settles 54 = .ok (.iconst 0, 1) := by decide +kernel
theorem dX10_settles_55 : decode cX10_settles 55 = .ok (.istore_n 1, 1) := by decide +kernel
theorem dX10_settles_56 : decode cX10_settles 56 = .ok (.iload_n 1, 1) := by decide +kernel
theorem dX10_settles_57 : decode cX10_settles 57 = .ok (.bipush 40, 2) := by decide +kernel
theorem dX10_settles_59 : decode cX10_settles 59 = .ok (.if_icmp .ge 21, 3) := by decide +kernel
theorem dX10_settles_62 : decode cX10_settles 62 = .ok (.aload_n 0, 1) := by decide +kernel
theorem dX10_settles_63 : decode cX10_settles 63 = .ok (.getfield 13, 3) := by decide +kernel
theorem dX10_settles_66 : decode cX10_settles 66 = .ok (.iload_n 1, 1) := by decide +kernel
theorem dX10_settles_67 : decode cX10_settles 67 = .ok (.aload_n 0, 1) := by decide +kernel
theorem dX10_settles_68 : decode cX10_settles 68 = .ok (.getfield 41, 3) := by decide +kernel
theorem dX10_settles_71 : decode cX10_settles 71 = .ok (.iload_n 1, 1) := by decide +kernel
theorem dX10_settles_72 : decode cX10_settles 72 = .ok (.baload, 1) := by decide +kernel
theorem dX10_settles_73 : decode cX10_settles 73 = .ok (.bastore, 1) := by decide +kernel
theorem dX10_settles_74 : decode cX10_settles 74 = .ok (.iinc 1 1, 3) := by decide +kernel
theorem dX10_settles_77 : decode cX10_settles 77 = .ok (.goto (-21), 3) := by decide +kernel
theorem dX10_settles_80 : decode cX10_settles 80 = .ok (.aload_n 0, 1) := by decide +kernel
theorem dX10_settles_81 : decode cX10_settles 81 = .ok (.aload_n 0, 1) := by decide +kernel
theorem dX10_settles_82 : decode cX10_settles 82 = .ok (.getfield 108, 3) := by decide +kernel
theorem dX10_settles_85 : decode cX10_settles 85 = .ok (.putfield 157, 3) := by decide +kernel
theorem dX10_settles_88 : decode cX10_settles 88 = .ok (.aload_n 0, 1) := by decide +kernel
theorem dX10_settles_89 : decode cX10_settles 89 = .ok (.iconst 0, 1) := by decide +kernel
theorem dX10_settles_90 : decode cX10_settles 90 = .ok (.putfield 160, 3) := by decide +kernel
theorem dX10_settles_93 : decode cX10_settles 93 = .ok (.aload_n 0, 1) := by decide +kernel
theorem dX10_settles_94 : decode cX10_settles 94 = .ok (.iconst 0, 1) := by decide +kernel
theorem dX10_settles_95 : decode cX10_settles 95 = .ok (.putfield 163, 3) := by decide +kernel
theorem dX10_settles_98 : decode cX10_settles 98 = .ok (.aload_n 0, 1) := by decide +kernel
theorem dX10_settles_99 : decode cX10_settles 99 = .ok (.iconst 0, 1) := by decide +kernel
theorem dX10_settles_100 : decode cX10_settles 100 = .ok (.putfield 166, 3) := by decide +kernel
theorem dX10_settles_103 : decode cX10_settles 103 = .ok (.return_, 1) := by decide +kernel
theorem dX10_tellsClog_0 : decode cX10_tellsClog 0 = .ok (.aload_n 0, 1) := by decide +kernel
theorem dX10_tellsClog_1 : decode cX10_tellsClog 1 = .ok (.getfield 35, 3) := by decide +kernel
theorem dX10_tellsClog_4 : decode cX10_tellsClog 4 = .ok (.iload_n 1, 1) := by decide +kernel
theorem dX10_tellsClog_5 : decode cX10_tellsClog 5 = .ok (.iload_n 2, 1) := by decide +kernel
theorem dX10_tellsClog_6 : decode cX10_tellsClog 6 = .ok (.iload_n 3, 1) := by decide +kernel
theorem dX10_tellsClog_7 : decode cX10_tellsClog 7 = .ok (.iload 4, 2) := by decide +kernel
theorem kw796 : Cond.code yX10_puts cX10_puts 6 none ∈ Tg := mem_Tg (List.mem_append_right _ (List.mem_of_getElem? (i := 796) (by decide +kernel))) (by decide +kernel)
theorem dX10_tellsClog_9 : decode cX10_tellsClog 9 = .ok (.invokestatic 83, 3) := by decide +kernel
theorem dX10_tellsClog_12 : decode cX10_tellsClog 12 = .ok (.return_, 1) := by decide +kernel
theorem dX10_readClogOf_0 : decode cX10_readClogOf 0 = .ok (.aload_n 0, 1) := by decide +kernel
theorem dX10_readClogOf_1 : decode cX10_readClogOf 1 = .ok (.getfield 35, 3) := by decide +kernel
theorem dX10_readClogOf_4 : decode cX10_readClogOf 4 = .ok (.iconst 1, 1) := by decide +kernel
theorem dX10_readClogOf_5 : decode cX10_readClogOf 5 = .ok (.iaload, 1) := by decide +kernel
theorem dX10_readClogOf_6 : decode cX10_readClogOf 6 = .ok (.bipush 10, 2) := by decide +kernel
theorem dX10_readClogOf_8 : decode cX10_readClogOf 8 = .ok (.if_icmp .eq 41, 3) := by decide +kernel
theorem dX10_readClogOf_49 : decode cX10_readClogOf 49 = .ok (.iconst 0, 1) := by decide +kernel
theorem dX10_readClogOf_50 : decode cX10_readClogOf 50 = .ok (.ireturn, 1) := by decide +kernel
theorem dX10_readClogOf_11 : decode cX10_readClogOf 11 = .ok (.aload_n 0, 1) := by decide +kernel
theorem dX10_readClogOf_12 : decode cX10_readClogOf 12 = .ok (.iconst 4, 1) := by decide +kernel
theorem dX10_readClogOf_13 : decode cX10_readClogOf 13 = .ok (.invokevirtual 111, 3) := by decide +kernel
theorem dX10_readClogOf_16 : decode cX10_readClogOf 16 = .ok (.ifCond .eq 33, 3) := by decide +kernel
theorem dX10_readClogOf_19 : decode cX10_readClogOf 19 = .ok (.aload_n 0, 1) := by decide +kernel
theorem dX10_readClogOf_20 : decode cX10_readClogOf 20 = .ok (.getfield 32, 3) := by decide +kernel
theorem dX10_readClogOf_23 : decode cX10_readClogOf 23 = .ok (.iconst 0, 1) := by decide +kernel
theorem dX10_readClogOf_24 : decode cX10_readClogOf 24 = .ok (.iaload, 1) := by decide +kernel
theorem dX10_readClogOf_25 : decode cX10_readClogOf 25 = .ok (.aload_n 0, 1) := by decide +kernel
theorem dX10_readClogOf_26 : decode cX10_readClogOf 26 = .ok (.getfield 32, 3) := by decide +kernel
theorem dX10_readClogOf_29 : decode cX10_readClogOf 29 = .ok (.iconst 1, 1) := by decide +kernel
theorem dX10_readClogOf_30 : decode cX10_readClogOf 30 = .ok (.iaload, 1) := by decide +kernel
theorem dX10_readClogOf_31 : decode cX10_readClogOf 31 = .ok (.aload_n 0, 1) := by decide +kernel
theorem dX10_readClogOf_32 : decode cX10_readClogOf 32 = .ok (.getfield 32, 3) := by decide +kernel
theorem dX10_readClogOf_35 : decode cX10_readClogOf 35 = .ok (.iconst 2, 1) := by decide +kernel
theorem dX10_readClogOf_36 : decode cX10_readClogOf 36 = .ok (.iaload, 1) := by decide +kernel
theorem dX10_readClogOf_37 : decode cX10_readClogOf 37 = .ok (.aload_n 0, 1) := by decide +kernel
theorem dX10_readClogOf_38 : decode cX10_readClogOf 38 = .ok (.getfield 32, 3) := by decide +kernel
theorem dX10_readClogOf_41 : decode cX10_readClogOf 41 = .ok (.iconst 3, 1) := by decide +kernel
theorem dX10_readClogOf_42 : decode cX10_readClogOf 42 = .ok (.iaload, 1) := by decide +kernel
theorem kw942 : Cond.code yX10_isOne cX10_isOne 4 (some .boolean) ∈ Tg := mem_Tg (List.mem_append_right _ (List.mem_of_getElem? (i := 942) (by decide +kernel))) (by decide +kernel)
theorem dX10_readClogOf_43 : decode cX10_readClogOf 43 = .ok (.invokestatic 114, 3) := by decide +kernel
theorem dX10_readClogOf_46 : decode cX10_readClogOf 46 = .ok (.ifCond .ne 5, 3) := by decide +kernel
theorem dX10_readClogOf_51 : decode cX10_readClogOf 51 = .ok (.aload_n 0, 1) := by decide +kernel
theorem dX10_readClogOf_52 : decode cX10_readClogOf 52 = .ok (.aload_n 0, 1) := by decide +kernel
theorem dX10_readClogOf_53 : decode cX10_readClogOf 53 = .ok (.getfield 32, 3) := by decide +kernel
theorem dX10_readClogOf_56 : decode cX10_readClogOf 56 = .ok (.iconst 0, 1) := by decide +kernel
theorem dX10_readClogOf_57 : decode cX10_readClogOf 57 = .ok (.iaload, 1) := by decide +kernel
theorem dX10_readClogOf_58 : decode cX10_readClogOf 58 = .ok (.aload_n 0, 1) := by decide +kernel
theorem dX10_readClogOf_59 : decode cX10_readClogOf 59 = .ok (.getfield 32, 3) := by decide +kernel
theorem dX10_readClogOf_62 : decode cX10_readClogOf 62 = .ok (.iconst 1, 1) := by decide +kernel
theorem dX10_readClogOf_63 : decode cX10_readClogOf 63 = .ok (.iaload, 1) := by decide +kernel
theorem dX10_readClogOf_64 : decode cX10_readClogOf 64 = .ok (.aload_n 0, 1) := by decide +kernel
theorem dX10_readClogOf_65 : decode cX10_readClogOf 65 = .ok (.getfield 32, 3) := by decide +kernel
theorem dX10_readClogOf_68 : decode cX10_readClogOf 68 = .ok (.iconst 2, 1) := by decide +kernel
theorem dX10_readClogOf_69 : decode cX10_readClogOf 69 = .ok (.iaload, 1) := by decide +kernel
theorem dX10_readClogOf_70 : decode cX10_readClogOf 70 = .ok (.aload_n 0, 1) := by decide +kernel
theorem dX10_readClogOf_71 : decode cX10_readClogOf 71 = .ok (.getfield 32, 3) := by decide +kernel
theorem dX10_readClogOf_74 : decode cX10_readClogOf 74 = .ok (.iconst 3, 1) := by decide +kernel
theorem dX10_readClogOf_75 : decode cX10_readClogOf 75 = .ok (.iaload, 1) := by decide +kernel
theorem kw793 : Cond.code yX10_tellsClog cX10_tellsClog 5 none ∈ Tg := mem_Tg (List.mem_append_right _ (List.mem_of_getElem? (i := 793) (by decide +kernel))) (by decide +kernel)
theorem dX10_readClogOf_76 : decode cX10_readClogOf 76 = .ok (.invokevirtual 65, 3) := by decide +kernel
theorem dX10_readClogOf_79 : decode cX10_readClogOf 79 = .ok (.iconst 1, 1) := by decide +kernel
theorem dX10_readClogOf_80 : decode cX10_readClogOf 80 = .ok (.ireturn, 1) := by decide +kernel
theorem dX10_readItem_0 : decode cX10_readItem 0 = .ok (.aload_n 0, 1) := by decide +kernel
theorem dX10_readItem_1 : decode cX10_readItem 1 = .ok (.aload_n 0, 1) := by decide +kernel
theorem dX10_readItem_2 : decode cX10_readItem 2 = .ok (.getfield 97, 3) := by decide +kernel
theorem dX10_readItem_5 : decode cX10_readItem 5 = .ok (.invokevirtual 100, 3) := by decide +kernel
theorem dX10_readItem_8 : decode cX10_readItem 8 = .ok (.istore_n 1, 1) := by decide +kernel
theorem dX10_readItem_9 : decode cX10_readItem 9 = .ok (.aload_n 0, 1) := by decide +kernel
theorem dX10_readItem_10 : decode cX10_readItem 10 = .ok (.dup, 1) := by decide +kernel
theorem dX10_readItem_11 : decode cX10_readItem 11 = .ok (.getfield 97, 3) := by decide +kernel
theorem dX10_readItem_14 : decode cX10_readItem 14 = .ok (.iconst 1, 1) := by decide +kernel
theorem dX10_readItem_15 : decode cX10_readItem 15 = .ok (.iadd, 1) := by decide +kernel
theorem dX10_readItem_16 : decode cX10_readItem 16 = .ok (.putfield 97, 3) := by decide +kernel
theorem dX10_readItem_19 : decode cX10_readItem 19 = .ok (.iload_n 1, 1) := by decide +kernel
theorem dX10_readItem_20 : decode cX10_readItem 20 = .ok (.lookupswitch 77 #[(99, 52), (102, 57), (103, 62), (107, 67), (115, 72)], 52) := by decide +kernel
theorem dX10_readItem_72 : decode cX10_readItem 72 = .ok (.aload_n 0, 1) := by decide +kernel
theorem kw932 : Cond.code yX10_readClogOf cX10_readClogOf 1 (some .boolean) ∈ Tg := mem_Tg (List.mem_append_right _ (List.mem_of_getElem? (i := 932) (by decide +kernel))) (by decide +kernel)
theorem dX10_readItem_73 : decode cX10_readItem 73 = .ok (.invokevirtual 121, 3) := by decide +kernel
theorem dX10_readItem_76 : decode cX10_readItem 76 = .ok (.ireturn, 1) := by decide +kernel
theorem dX10_readItem_77 : decode cX10_readItem 77 = .ok (.aload_n 0, 1) := by decide +kernel
theorem kw946 : Cond.code yX10_readFeetOf cX10_readFeetOf 1 (some .boolean) ∈ Tg := mem_Tg (List.mem_append_right _ (List.mem_of_getElem? (i := 946) (by decide +kernel))) (by decide +kernel)
theorem dX10_readItem_78 : decode cX10_readItem 78 = .ok (.invokevirtual 125, 3) := by decide +kernel
theorem dX10_readItem_81 : decode cX10_readItem 81 = .ok (.ireturn, 1) := by decide +kernel
theorem dX10_readItem_82 : decode cX10_readItem 82 = .ok (.aload_n 0, 1) := by decide +kernel
theorem kw954 : Cond.code yX10_readLogOf cX10_readLogOf 1 (some .boolean) ∈ Tg := mem_Tg (List.mem_append_right _ (List.mem_of_getElem? (i := 954) (by decide +kernel))) (by decide +kernel)
theorem dX10_readItem_83 : decode cX10_readItem 83 = .ok (.invokevirtual 128, 3) := by decide +kernel
theorem dX10_readItem_86 : decode cX10_readItem 86 = .ok (.ireturn, 1) := by decide +kernel
theorem dX10_readItem_87 : decode cX10_readItem 87 = .ok (.aload_n 0, 1) := by decide +kernel
theorem kw958 : Cond.code yX10_readKnotOf cX10_readKnotOf 1 (some .boolean) ∈ Tg := mem_Tg (List.mem_append_right _ (List.mem_of_getElem? (i := 958) (by decide +kernel))) (by decide +kernel)
theorem dX10_readItem_88 : decode cX10_readItem 88 = .ok (.invokevirtual 131, 3) := by decide +kernel
theorem dX10_readItem_91 : decode cX10_readItem 91 = .ok (.ireturn, 1) := by decide +kernel
theorem dX10_readItem_92 : decode cX10_readItem 92 = .ok (.aload_n 0, 1) := by decide +kernel
theorem kw962 : Cond.code yX10_readStockingOf cX10_readStockingOf 1 (some .boolean) ∈ Tg := mem_Tg (List.mem_append_right _ (List.mem_of_getElem? (i := 962) (by decide +kernel))) (by decide +kernel)
theorem dX10_readItem_93 : decode cX10_readItem 93 = .ok (.invokevirtual 134, 3) := by decide +kernel
theorem dX10_readItem_96 : decode cX10_readItem 96 = .ok (.ireturn, 1) := by decide +kernel
theorem dX10_readItem_97 : decode cX10_readItem 97 = .ok (.iconst 0, 1) := by decide +kernel
theorem dX10_readItem_98 : decode cX10_readItem 98 = .ok (.ireturn, 1) := by decide +kernel
theorem dX10_fault_0 : decode cX10_fault 0 = .ok (.aload_n 0, 1) := by decide +kernel
theorem dX10_fault_1 : decode cX10_fault 1 = .ok (.iconst 0, 1) := by decide +kernel
theorem dX10_fault_2 : decode cX10_fault 2 = .ok (.putfield 97, 3) := by decide +kernel
theorem dX10_fault_5 : decode cX10_fault 5 = .ok (.aload_n 0, 1) := by decide +kernel
theorem kw789 : Cond.code yX10_clearTold cX10_clearTold 2 none ∈ Tg := mem_Tg (List.mem_append_right _ (List.mem_of_getElem? (i := 789) (by decide +kernel))) (by decide +kernel)
theorem dX10_fault_6 : decode cX10_fault 6 = .ok (.invokevirtual 62, 3) := by decide +kernel
theorem dX10_fault_9 : decode cX10_fault 9 = .ok (.aload_n 0, 1) := by decide +kernel
theorem dX10_fault_10 : decode cX10_fault 10 = .ok (.getfield 97, 3) := by decide +kernel
theorem dX10_fault_13 : decode cX10_fault 13 = .ok (.aload_n 0, 1) := by decide +kernel
theorem dX10_fault_14 : decode cX10_fault 14 = .ok (.getfield 94, 3) := by decide +kernel
theorem dX10_fault_17 : decode cX10_fault 17 = .ok (.if_icmp .ge 20, 3) := by decide +kernel
theorem dX10_fault_20 : decode cX10_fault 20 = .ok (.aload_n 0, 1) := by decide +kernel
theorem dX10_fault_21 : decode cX10_fault 21 = .ok (.getfield 97, 3) := by decide +kernel
theorem dX10_fault_24 : decode cX10_fault 24 = .ok (.istore_n 1, 1) := by decide +kernel
theorem dX10_fault_25 : decode cX10_fault 25 = .ok (.aload_n 0, 1) := by decide +kernel
theorem kw924 : Cond.code yX10_readItem cX10_readItem 2 (some .boolean) ∈ Tg := mem_Tg (List.mem_append_right _ (List.mem_of_getElem? (i := 924) (by decide +kernel))) (by decide +kernel)
theorem dX10_fault_26 : decode cX10_fault 26 = .ok (.invokevirtual 137, 3) := by decide +kernel
theorem dX10_fault_29 : decode cX10_fault 29 = .ok (.ifCond .ne 5, 3) := by decide +kernel
theorem dX10_fault_34 : decode cX10_fault 34 = .ok (.goto (-25), 3) := by decide +kernel
theorem dX10_fault_32 : decode cX10_fault 32 = .ok (.iload_n 1, 1) := by decide +kernel
theorem dX10_fault_33 : decode cX10_fault 33 = .ok (.ireturn, 1) := by decide +kernel
theorem dX10_fault_37 : decode cX10_fault 37 = .ok (.bipush (-4), 2) := by decide +kernel
theorem dX10_fault_39 : decode cX10_fault 39 = .ok (.ireturn, 1) := by decide +kernel
theorem dX10_lay_0 : decode cX10_lay 0 = .ok (.aload_n 0, 1) := by decide +kernel
theorem kw920 : Cond.code yX10_fault cX10_fault 2 (some .int) ∈ Tg := mem_Tg (List.mem_append_right _ (List.mem_of_getElem? (i := 920) (by decide +kernel))) (by decide +kernel)
theorem dX10_lay_1 : decode cX10_lay 1 = .ok (.invokevirtual 140, 3) := by decide +kernel
theorem dX10_lay_4 : decode cX10_lay 4 = .ok (.bipush (-4), 2) := by decide +kernel
theorem dX10_lay_6 : decode cX10_lay 6 = .ok (.if_icmp .ne 12, 3) := by decide +kernel
theorem dX10_lay_18 : decode cX10_lay 18 = .ok (.bipush (-2), 2) := by decide +kernel
theorem dX10_lay_20 : decode cX10_lay 20 = .ok (.ireturn, 1) := by decide +kernel
theorem dX10_lay_9 : decode cX10_lay 9 = .ok (.aload_n 0, 1) := by decide +kernel
theorem dX10_lay_10 : decode cX10_lay 10 = .ok (.getfield 35, 3) := by decide +kernel
theorem dX10_lay_13 : decode cX10_lay 13 = .ok (.iconst 1, 1) := by decide +kernel
theorem dX10_lay_14 : decode cX10_lay 14 = .ok (.iaload, 1) := by decide +kernel
theorem dX10_lay_15 : decode cX10_lay 15 = .ok (.ifCond .ne 6, 3) := by decide +kernel
theorem dX10_lay_21 : decode cX10_lay 21 = .ok (.aload_n 0, 1) := by decide +kernel
theorem kw804 : Cond.code yX10_settles cX10_settles 2 none ∈ Tg := mem_Tg (List.mem_append_right _ (List.mem_of_getElem? (i := 804) (by decide +kernel))) (by decide +kernel)
theorem dX10_lay_22 : decode cX10_lay 22 = .ok (.invokevirtual 80, 3) := by decide +kernel
theorem dX10_lay_25 : decode cX10_lay 25 = .ok (.aload_n 0, 1) := by decide +kernel
theorem dX10_lay_26 : decode cX10_lay 26 = .ok (.getfield 17, 3) := by decide +kernel
theorem dX10_lay_29 : decode cX10_lay 29 = .ok (.iconst 1, 1) := by decide +kernel
theorem dX10_lay_30 : decode cX10_lay 30 = .ok (.iaload, 1) := by decide +kernel
theorem dX10_lay_31 : decode cX10_lay 31 = .ok (.ireturn, 1) := by decide +kernel
theorem dX10_asItIs_0 : decode cX10_asItIs 0 = .ok (.aload_n 0, 1) := by decide +kernel
theorem dX10_asItIs_1 : decode cX10_asItIs 1 = .ok (.getfield 44, 3) := by decide +kernel
theorem dX10_asItIs_4 : decode cX10_asItIs 4 = .ok (.iconst 0, 1) := by decide +kernel
theorem dX10_asItIs_5 : decode cX10_asItIs 5 = .ok (.aload_n 0, 1) := by decide +kernel
theorem dX10_asItIs_6 : decode cX10_asItIs 6 = .ok (.getfield 17, 3) := by decide +kernel
theorem dX10_asItIs_9 : decode cX10_asItIs 9 = .ok (.iconst 0, 1) := by decide +kernel
theorem dX10_asItIs_10 : decode cX10_asItIs 10 = .ok (.bipush 52, 2) := by decide +kernel
theorem dX10_asItIs_12 : decode cX10_asItIs 12 = .ok (.invokestatic 144, 3) := by decide +kernel
theorem dX10_asItIs_15 : decode cX10_asItIs 15 = .ok (.return_, 1) := by decide +kernel
theorem dX10_kindOf_0 : decode cX10_kindOf 0 = .ok (.aload_n 0, 1) := by decide +kernel
theorem dX10_kindOf_1 : decode cX10_kindOf 1 = .ok (.getfield 44, 3) := by decide +kernel
theorem dX10_kindOf_4 : decode cX10_kindOf 4 = .ok (.iconst 2, 1) := by decide +kernel
theorem dX10_kindOf_5 : decode cX10_kindOf 5 = .ok (.iconst 5, 1) := by decide +kernel
theorem dX10_kindOf_6 : decode cX10_kindOf 6 = .ok (.iload_n 1, 1) := by decide +kernel
theorem dX10_kindOf_7 : decode cX10_kindOf 7 = .ok (.imul, 1) := by decide +kernel
theorem dX10_kindOf_8 : decode cX10_kindOf 8 = .ok (.iadd, 1) := by decide +kernel
theorem dX10_kindOf_9 : decode cX10_kindOf 9 = .ok (.iaload, 1) := by decide +kernel
theorem dX10_kindOf_10 : decode cX10_kindOf 10 = .ok (.ireturn, 1) := by decide +kernel
theorem dX10_sideOf_0 : decode cX10_sideOf 0 = .ok (.aload_n 0, 1) := by decide +kernel
theorem dX10_sideOf_1 : decode cX10_sideOf 1 = .ok (.getfield 44, 3) := by decide +kernel
theorem dX10_sideOf_4 : decode cX10_sideOf 4 = .ok (.iconst 2, 1) := by decide +kernel
theorem dX10_sideOf_5 : decode cX10_sideOf 5 = .ok (.iconst 5, 1) := by decide +kernel
theorem dX10_sideOf_6 : decode cX10_sideOf 6 = .ok (.iload_n 1, 1) := by decide +kernel
theorem dX10_sideOf_7 : decode cX10_sideOf 7 = .ok (.imul, 1) := by decide +kernel
theorem dX10_sideOf_8 : decode cX10_sideOf 8 = .ok (.iadd, 1) := by decide +kernel
theorem dX10_sideOf_9 : decode cX10_sideOf 9 = .ok (.iconst 1, 1) := by decide +kernel
theorem dX10_sideOf_10 : decode cX10_sideOf 10 = .ok (.iadd, 1) := by decide +kernel
theorem dX10_sideOf_11 : decode cX10_sideOf 11 = .ok (.iaload, 1) := by decide +kernel
theorem dX10_sideOf_12 : decode cX10_sideOf 12 = .ok (.ireturn, 1) := by decide +kernel
theorem dX10_driedFor_0 : decode cX10_driedFor 0 = .ok (.aload_n 0, 1) := by decide +kernel
theorem dX10_driedFor_1 : decode cX10_driedFor 1 = .ok (.getfield 44, 3) := by decide +kernel
theorem dX10_driedFor_4 : decode cX10_driedFor 4 = .ok (.iconst 0, 1) := by decide +kernel
theorem dX10_driedFor_5 : decode cX10_driedFor 5 = .ok (.iaload, 1) := by decide +kernel
theorem dX10_driedFor_6 : decode cX10_driedFor 6 = .ok (.aload_n 0, 1) := by decide +kernel
theorem dX10_driedFor_7 : decode cX10_driedFor 7 = .ok (.getfield 44, 3) := by decide +kernel
theorem dX10_driedFor_10 : decode cX10_driedFor 10 = .ok (.iconst 2, 1) := by decide +kernel
theorem dX10_driedFor_11 : decode cX10_driedFor 11 = .ok (.iconst 5, 1) := by decide +kernel
theorem dX10_driedFor_12 : decode cX10_driedFor 12 = .ok (.iload_n 1, 1) := by decide +kernel
theorem dX10_driedFor_13 : decode cX10_driedFor 13 = .ok (.imul, 1) := by decide +kernel
theorem dX10_driedFor_14 : decode cX10_driedFor 14 = .ok (.iadd, 1) := by decide +kernel
theorem dX10_driedFor_15 : decode cX10_driedFor 15 = .ok (.iconst 4, 1) := by decide +kernel
theorem dX10_driedFor_16 : decode cX10_driedFor 16 = .ok (.iadd, 1) := by decide +kernel
theorem dX10_driedFor_17 : decode cX10_driedFor 17 = .ok (.iaload, 1) := by decide +kernel
theorem dX10_driedFor_18 : decode cX10_driedFor 18 = .ok (.isub, 1) := by decide +kernel
theorem dX10_driedFor_19 : decode cX10_driedFor 19 = .ok (.istore_n 2, 1) := by decide +kernel
theorem dX10_driedFor_20 : decode cX10_driedFor 20 = .ok (.iload_n 2, 1) := by decide +kernel
theorem dX10_driedFor_21 : decode cX10_driedFor 21 = .ok (.bipush 30, 2) := by decide +kernel
theorem dX10_driedFor_23 : decode cX10_driedFor 23 = .ok (.if_icmp .ge 7, 3) := by decide +kernel
theorem dX10_driedFor_30 : decode cX10_driedFor 30 = .ok (.bipush 30, 2) := by decide +kernel
theorem dX10_driedFor_32 : decode cX10_driedFor 32 = .ok (.ireturn, 1) := by decide +kernel
theorem dX10_driedFor_26 : decode cX10_driedFor 26 = .ok (.iload_n 2, 1) := by decide +kernel
theorem dX10_driedFor_27 : decode cX10_driedFor 27 = .ok (.goto 5, 3) := by decide +kernel
theorem dX10_sizeOf_0 : decode cX10_sizeOf 0 = .ok (.aload_n 0, 1) := by decide +kernel
theorem dX10_sizeOf_1 : decode cX10_sizeOf 1 = .ok (.getfield 44, 3) := by decide +kernel
theorem dX10_sizeOf_4 : decode cX10_sizeOf 4 = .ok (.iconst 2, 1) := by decide +kernel
theorem dX10_sizeOf_5 : decode cX10_sizeOf 5 = .ok (.iconst 5, 1) := by decide +kernel
theorem dX10_sizeOf_6 : decode cX10_sizeOf 6 = .ok (.iload_n 1, 1) := by decide +kernel
theorem dX10_sizeOf_7 : decode cX10_sizeOf 7 = .ok (.imul, 1) := by decide +kernel
theorem dX10_sizeOf_8 : decode cX10_sizeOf 8 = .ok (.iadd, 1) := by decide +kernel
theorem dX10_sizeOf_9 : decode cX10_sizeOf 9 = .ok (.iconst 2, 1) := by decide +kernel
theorem dX10_sizeOf_10 : decode cX10_sizeOf 10 = .ok (.iadd, 1) := by decide +kernel
theorem dX10_sizeOf_11 : decode cX10_sizeOf 11 = .ok (.iaload, 1) := by decide +kernel
theorem dX10_sizeOf_12 : decode cX10_sizeOf 12 = .ok (.istore_n 2, 1) := by decide +kernel
theorem dX10_sizeOf_13 : decode cX10_sizeOf 13 = .ok (.aload_n 0, 1) := by decide +kernel
theorem dX10_sizeOf_14 : decode cX10_sizeOf 14 = .ok (.iload_n 1, 1) := by decide +kernel
theorem kw983 : Cond.code yX10_kindOf cX10_kindOf 2 (some .int) ∈ Tg := mem_Tg (List.mem_append_right _ (List.mem_of_getElem? (i := 983) (by decide +kernel))) (by decide +kernel)
theorem dX10_sizeOf_15 : decode cX10_sizeOf 15 = .ok (.invokevirtual 169, 3) := by decide +kernel
theorem dX10_sizeOf_18 : decode cX10_sizeOf 18 = .ok (.iconst 1, 1) := by decide +kernel
theorem dX10_sizeOf_19 : decode cX10_sizeOf 19 = .ok (.if_icmp .ne 19, 3) := by decide +kernel
theorem dX10_sizeOf_38 : decode cX10_sizeOf 38 = .ok (.iload_n 2, 1) := by decide +kernel
theorem dX10_sizeOf_39 : decode cX10_sizeOf 39 = .ok (.ireturn, 1) := by decide +kernel
theorem dX10_sizeOf_22 : decode cX10_sizeOf 22 = .ok (.iload_n 2, 1) := by decide +kernel
theorem dX10_sizeOf_23 : decode cX10_sizeOf 23 = .ok (.iload_n 2, 1) := by decide +kernel
theorem dX10_sizeOf_24 : decode cX10_sizeOf 24 = .ok (.aload_n 0, 1) := by decide +kernel
theorem dX10_sizeOf_25 : decode cX10_sizeOf 25 = .ok (.iload_n 1, 1) := by decide +kernel
theorem kw995 : Cond.code yX10_driedFor cX10_driedFor 3 (some .int) ∈ Tg := mem_Tg (List.mem_append_right _ (List.mem_of_getElem? (i := 995) (by decide +kernel))) (by decide +kernel)
theorem dX10_sizeOf_26 : decode cX10_sizeOf 26 = .ok (.invokevirtual 172, 3) := by decide +kernel
theorem dX10_sizeOf_29 : decode cX10_sizeOf 29 = .ok (.imul, 1) := by decide +kernel
theorem dX10_sizeOf_30 : decode cX10_sizeOf 30 = .ok (.sipush 360, 3) := by decide +kernel
theorem dX10_sizeOf_33 : decode cX10_sizeOf 33 = .ok (.idiv, 1) := by decide +kernel
theorem dX10_sizeOf_34 : decode cX10_sizeOf 34 = .ok (.isub, 1) := by decide +kernel
theorem dX10_sizeOf_35 : decode cX10_sizeOf 35 = .ok (.goto 4, 3) := by decide +kernel
theorem dX10_weightOf_0 : decode cX10_weightOf 0 = .ok (.aload_n 0, 1) := by decide +kernel
theorem dX10_weightOf_1 : decode cX10_weightOf 1 = .ok (.getfield 44, 3) := by decide +kernel
theorem dX10_weightOf_4 : decode cX10_weightOf 4 = .ok (.iconst 2, 1) := by decide +kernel
theorem dX10_weightOf_5 : decode cX10_weightOf 5 = .ok (.iconst 5, 1) := by decide +kernel
theorem dX10_weightOf_6 : decode cX10_weightOf 6 = .ok (.iload_n 1, 1) := by decide +kernel
theorem dX10_weightOf_7 : decode cX10_weightOf 7 = .ok (.imul, 1) := by decide +kernel
theorem dX10_weightOf_8 : decode cX10_weightOf 8 = .ok (.iadd, 1) := by decide +kernel
theorem dX10_weightOf_9 : decode cX10_weightOf 9 = .ok (.iconst 3, 1) := by decide +kernel
theorem dX10_weightOf_10 : decode cX10_weightOf 10 = .ok (.iadd, 1) := by decide +kernel
theorem dX10_weightOf_11 : decode cX10_weightOf 11 = .ok (.iaload, 1) := by decide +kernel
theorem dX10_weightOf_12 : decode cX10_weightOf 12 = .ok (.istore_n 2, 1) := by decide +kernel
theorem dX10_weightOf_13 : decode cX10_weightOf 13 = .ok (.aload_n 0, 1) := by decide +kernel
theorem dX10_weightOf_14 : decode cX10_weightOf 14 = .ok (.iload_n 1, 1) := by decide +kernel
theorem dX10_weightOf_15 : decode cX10_weightOf 15 = .ok (.invokevirtual 169, 3) := by decide +kernel
theorem dX10_weightOf_18 : decode cX10_weightOf 18 = .ok (.lookupswitch 43 #[(1, 26), (3, 39)], 26) := by decide +kernel
theorem dX10_weightOf_44 : decode cX10_weightOf 44 = .ok (.iload_n 2, 1) := by decide +kernel
theorem dX10_weightOf_45 : decode cX10_weightOf 45 = .ok (.iload_n 2, 1) := by decide +kernel
theorem dX10_weightOf_46 : decode cX10_weightOf 46 = .ok (.aload_n 0, 1) := by decide +kernel
theorem dX10_weightOf_47 : decode cX10_weightOf 47 = .ok (.iload_n 1, 1) := by decide +kernel
theorem dX10_weightOf_48 : decode cX10_weightOf 48 = .ok (.invokevirtual 172, 3) := by decide +kernel
theorem dX10_weightOf_51 : decode cX10_weightOf 51 = .ok (.imul, 1) := by decide +kernel
theorem dX10_weightOf_52 : decode cX10_weightOf 52 = .ok (.bipush 90, 2) := by decide +kernel
theorem dX10_weightOf_54 : decode cX10_weightOf 54 = .ok (.idiv, 1) := by decide +kernel
theorem dX10_weightOf_55 : decode cX10_weightOf 55 = .ok (.isub, 1) := by decide +kernel
theorem dX10_weightOf_56 : decode cX10_weightOf 56 = .ok (.ireturn, 1) := by decide +kernel
theorem dX10_weightOf_57 : decode cX10_weightOf 57 = .ok (.iload_n 2, 1) := by decide +kernel
theorem dX10_weightOf_58 : decode cX10_weightOf 58 = .ok (.iconst 2, 1) := by decide +kernel
theorem dX10_weightOf_59 : decode cX10_weightOf 59 = .ok (.iadd, 1) := by decide +kernel
theorem dX10_weightOf_60 : decode cX10_weightOf 60 = .ok (.ireturn, 1) := by decide +kernel
theorem dX10_weightOf_61 : decode cX10_weightOf 61 = .ok (.iload_n 2, 1) := by decide +kernel
theorem dX10_weightOf_62 : decode cX10_weightOf 62 = .ok (.ireturn, 1) := by decide +kernel
theorem dX10_areAlike_0 : decode cX10_areAlike 0 = .ok (.aload_n 0, 1) := by decide +kernel
theorem dX10_areAlike_1 : decode cX10_areAlike 1 = .ok (.iload_n 1, 1) := by decide +kernel
theorem kw987 : Cond.code yX10_sideOf cX10_sideOf 2 (some .int) ∈ Tg := mem_Tg (List.mem_append_right _ (List.mem_of_getElem? (i := 987) (by decide +kernel))) (by decide +kernel)
theorem dX10_areAlike_2 : decode cX10_areAlike 2 = .ok (.invokevirtual 175, 3) := by decide +kernel
theorem dX10_areAlike_5 : decode cX10_areAlike 5 = .ok (.aload_n 0, 1) := by decide +kernel
theorem dX10_areAlike_6 : decode cX10_areAlike 6 = .ok (.iload_n 2, 1) := by decide +kernel
theorem dX10_areAlike_7 : decode cX10_areAlike 7 = .ok (.invokevirtual 175, 3) := by decide +kernel
theorem dX10_areAlike_10 : decode cX10_areAlike 10 = .ok (.if_icmp .eq 59, 3) := by decide +kernel
theorem dX10_areAlike_69 : decode cX10_areAlike 69 = .ok (.iconst 0, 1) := by decide +kernel
theorem dX10_areAlike_70 : decode cX10_areAlike 70 = .ok (.ireturn, 1) := by decide +kernel
theorem dX10_areAlike_13 : decode cX10_areAlike 13 = .ok (.aload_n 0, 1) := by decide +kernel
theorem dX10_areAlike_14 : decode cX10_areAlike 14 = .ok (.iload_n 1, 1) := by decide +kernel
theorem dX10_areAlike_15 : decode cX10_areAlike 15 = .ok (.invokevirtual 169, 3) := by decide +kernel
theorem dX10_areAlike_18 : decode cX10_areAlike 18 = .ok (.iconst 2, 1) := by decide +kernel
theorem dX10_areAlike_19 : decode cX10_areAlike 19 = .ok (.if_icmp .eq 50, 3) := by decide +kernel
theorem dX10_areAlike_22 : decode cX10_areAlike 22 = .ok (.aload_n 0, 1) := by decide +kernel
theorem dX10_areAlike_23 : decode cX10_areAlike 23 = .ok (.iload_n 2, 1) := by decide +kernel
theorem dX10_areAlike_24 : decode cX10_areAlike 24 = .ok (.invokevirtual 169, 3) := by decide +kernel
theorem dX10_areAlike_27 : decode cX10_areAlike 27 = .ok (.iconst 2, 1) := by decide +kernel
theorem dX10_areAlike_28 : decode cX10_areAlike 28 = .ok (.if_icmp .eq 41, 3) := by decide +kernel
theorem dX10_areAlike_31 : decode cX10_areAlike 31 = .ok (.aload_n 0, 1) := by decide +kernel
theorem dX10_areAlike_32 : decode cX10_areAlike 32 = .ok (.iload_n 1, 1) := by decide +kernel
theorem kw991 : Cond.code yX10_sizeOf cX10_sizeOf 3 (some .int) ∈ Tg := mem_Tg (List.mem_append_right _ (List.mem_of_getElem? (i := 991) (by decide +kernel))) (by decide +kernel)
theorem dX10_areAlike_33 : decode cX10_areAlike 33 = .ok (.invokevirtual 178, 3) := by decide +kernel
theorem dX10_areAlike_36 : decode cX10_areAlike 36 = .ok (.aload_n 0, 1) := by decide +kernel
theorem dX10_areAlike_37 : decode cX10_areAlike 37 = .ok (.iload_n 2, 1) := by decide +kernel
theorem dX10_areAlike_38 : decode cX10_areAlike 38 = .ok (.invokevirtual 178, 3) := by decide +kernel
theorem kw1026 : Cond.code yX10_apart cX10_apart 2 (some .int) ∈ Tg := mem_Tg (List.mem_append_right _ (List.mem_of_getElem? (i := 1026) (by decide +kernel))) (by decide +kernel)
theorem dX10_areAlike_41 : decode cX10_areAlike 41 = .ok (.invokestatic 181, 3) := by decide +kernel
theorem dX10_areAlike_44 : decode cX10_areAlike 44 = .ok (.iconst 2, 1) := by decide +kernel
theorem dX10_areAlike_45 : decode cX10_areAlike 45 = .ok (.if_icmp .ge 24, 3) := by decide +kernel
theorem dX10_areAlike_48 : decode cX10_areAlike 48 = .ok (.aload_n 0, 1) := by decide +kernel
theorem dX10_areAlike_49 : decode cX10_areAlike 49 = .ok (.iload_n 1, 1) := by decide +kernel
theorem kw999 : Cond.code yX10_weightOf cX10_weightOf 3 (some .int) ∈ Tg := mem_Tg (List.mem_append_right _ (List.mem_of_getElem? (i := 999) (by decide +kernel))) (by decide +kernel)
theorem dX10_areAlike_50 : decode cX10_areAlike 50 = .ok (.invokevirtual 185, 3) := by decide +kernel
theorem dX10_areAlike_53 : decode cX10_areAlike 53 = .ok (.aload_n 0, 1) := by decide +kernel
theorem dX10_areAlike_54 : decode cX10_areAlike 54 = .ok (.iload_n 2, 1) := by decide +kernel
theorem dX10_areAlike_55 : decode cX10_areAlike 55 = .ok (.invokevirtual 185, 3) := by decide +kernel
theorem dX10_areAlike_58 : decode cX10_areAlike 58 = .ok (.invokestatic 181, 3) := by decide +kernel
theorem dX10_areAlike_61 : decode cX10_areAlike 61 = .ok (.iconst 4, 1) := by decide +kernel
theorem dX10_areAlike_62 : decode cX10_areAlike 62 = .ok (.if_icmp .ge 7, 3) := by decide +kernel
theorem dX10_areAlike_65 : decode cX10_areAlike 65 = .ok (.iconst 1, 1) := by decide +kernel
theorem dX10_areAlike_66 : decode cX10_areAlike 66 = .ok (.goto 4, 3) := by decide +kernel
theorem dX10_clog_0 : decode cX10_clog 0 = .ok (.aload_n 0, 1) := by decide +kernel
theorem dX10_clog_1 : decode cX10_clog 1 = .ok (.iload_n 1, 1) := by decide +kernel
theorem kw975 : Cond.code yX10_isClog cX10_isClog 2 (some .boolean) ∈ Tg := mem_Tg (List.mem_append_right _ (List.mem_of_getElem? (i := 975) (by decide +kernel))) (by decide +kernel)
theorem dX10_clog_2 : decode cX10_clog 2 = .ok (.invokevirtual 188, 3) := by decide +kernel
theorem dX10_clog_5 : decode cX10_clog 5 = .ok (.ifCond .ne 5, 3) := by decide +kernel
theorem dX10_clog_10 : decode cX10_clog 10 = .ok (.aload_n 0, 1) := by decide +kernel
theorem kw979 : Cond.code yX10_asItIs cX10_asItIs 1 none ∈ Tg := mem_Tg (List.mem_append_right _ (List.mem_of_getElem? (i := 979) (by decide +kernel))) (by decide +kernel)
theorem dX10_clog_11 : decode cX10_clog 11 = .ok (.invokevirtual 191, 3) := by decide +kernel
theorem dX10_clog_14 : decode cX10_clog 14 = .ok (.iload_n 2, 1) := by decide +kernel
theorem dX10_clog_15 : decode cX10_clog 15 = .ok (.tableswitch 70 0 4 #[33, 39, 45, 51, 57], 33) := by decide +kernel
theorem dX10_clog_48 : decode cX10_clog 48 = .ok (.aload_n 0, 1) := by decide +kernel
theorem dX10_clog_49 : decode cX10_clog 49 = .ok (.iload_n 1, 1) := by decide +kernel
theorem dX10_clog_50 : decode cX10_clog 50 = .ok (.invokevirtual 169, 3) := by decide +kernel
theorem dX10_clog_53 : decode cX10_clog 53 = .ok (.ireturn, 1) := by decide +kernel
theorem dX10_clog_54 : decode cX10_clog 54 = .ok (.aload_n 0, 1) := by decide +kernel
theorem dX10_clog_55 : decode cX10_clog 55 = .ok (.iload_n 1, 1) := by decide +kernel
theorem dX10_clog_56 : decode cX10_clog 56 = .ok (.invokevirtual 175, 3) := by decide +kernel
theorem dX10_clog_59 : decode cX10_clog 59 = .ok (.ireturn, 1) := by decide +kernel
theorem dX10_clog_60 : decode cX10_clog 60 = .ok (.aload_n 0, 1) := by decide +kernel
theorem dX10_clog_61 : decode cX10_clog 61 = .ok (.iload_n 1, 1) := by decide +kernel
theorem dX10_clog_62 : decode cX10_clog 62 = .ok (.invokevirtual 178, 3) := by decide +kernel
theorem dX10_clog_65 : decode cX10_clog 65 = .ok (.ireturn, 1) := by decide +kernel
theorem dX10_clog_66 : decode cX10_clog 66 = .ok (.aload_n 0, 1) := by decide +kernel
theorem dX10_clog_67 : decode cX10_clog 67 = .ok (.iload_n 1, 1) := by decide +kernel
theorem dX10_clog_68 : decode cX10_clog 68 = .ok (.invokevirtual 185, 3) := by decide +kernel
theorem dX10_clog_71 : decode cX10_clog 71 = .ok (.ireturn, 1) := by decide +kernel
theorem dX10_clog_72 : decode cX10_clog 72 = .ok (.aload_n 0, 1) := by decide +kernel
theorem dX10_clog_73 : decode cX10_clog 73 = .ok (.getfield 17, 3) := by decide +kernel
theorem dX10_clog_76 : decode cX10_clog 76 = .ok (.iconst 2, 1) := by decide +kernel
theorem dX10_clog_77 : decode cX10_clog 77 = .ok (.iconst 5, 1) := by decide +kernel
theorem dX10_clog_78 : decode cX10_clog 78 = .ok (.iload_n 1, 1) := by decide +kernel
theorem dX10_clog_79 : decode cX10_clog 79 = .ok (.imul, 1) := by decide +kernel
theorem dX10_clog_80 : decode cX10_clog 80 = .ok (.iadd, 1) := by decide +kernel
theorem dX10_clog_81 : decode cX10_clog 81 = .ok (.iconst 4, 1) := by decide +kernel
theorem dX10_clog_82 : decode cX10_clog 82 = .ok (.iadd, 1) := by decide +kernel
theorem dX10_clog_83 : decode cX10_clog 83 = .ok (.iaload, 1) := by decide +kernel
theorem dX10_clog_84 : decode cX10_clog 84 = .ok (.ireturn, 1) := by decide +kernel
theorem dX10_clog_85 : decode cX10_clog 85 = .ok (.iconst (-1), 1) := by decide +kernel
theorem dX10_clog_86 : decode cX10_clog 86 = .ok (.ireturn, 1) := by decide +kernel
theorem dX10_clog_8 : decode cX10_clog 8 = .ok (.iconst (-1), 1) := by decide +kernel
theorem dX10_clog_9 : decode cX10_clog 9 = .ok (.ireturn, 1) := by decide +kernel
theorem dX10_feet_0 : decode cX10_feet 0 = .ok (.iload_n 1, 1) := by decide +kernel
theorem dX10_feet_1 : decode cX10_feet 1 = .ok (.iconst 0, 1) := by decide +kernel
theorem dX10_feet_2 : decode cX10_feet 2 = .ok (.aload_n 0, 1) := by decide +kernel
theorem dX10_feet_3 : decode cX10_feet 3 = .ok (.getfield 148, 3) := by decide +kernel
theorem dX10_feet_6 : decode cX10_feet 6 = .ok (.iconst 1, 1) := by decide +kernel
theorem dX10_feet_7 : decode cX10_feet 7 = .ok (.isub, 1) := by decide +kernel
theorem dX10_feet_8 : decode cX10_feet 8 = .ok (.invokestatic 90, 3) := by decide +kernel
theorem dX10_feet_11 : decode cX10_feet 11 = .ok (.ifCond .eq 25, 3) := by decide +kernel
theorem dX10_feet_36 : decode cX10_feet 36 = .ok (.iconst (-1), 1) := by decide +kernel
theorem dX10_feet_37 : decode cX10_feet 37 = .ok (.ireturn, 1) := by decide +kernel
theorem dX10_feet_14 : decode cX10_feet 14 = .ok (.iload_n 2, 1) := by decide +kernel
theorem dX10_feet_15 : decode cX10_feet 15 = .ok (.iconst 0, 1) := by decide +kernel
theorem dX10_feet_16 : decode cX10_feet 16 = .ok (.iconst 1, 1) := by decide +kernel
theorem dX10_feet_17 : decode cX10_feet 17 = .ok (.invokestatic 90, 3) := by decide +kernel
theorem dX10_feet_20 : decode cX10_feet 20 = .ok (.ifCond .eq 16, 3) := by decide +kernel
theorem dX10_feet_23 : decode cX10_feet 23 = .ok (.aload_n 0, 1) := by decide +kernel
theorem dX10_feet_24 : decode cX10_feet 24 = .ok (.getfield 7, 3) := by decide +kernel
theorem dX10_feet_27 : decode cX10_feet 27 = .ok (.iconst 2, 1) := by decide +kernel
theorem dX10_feet_28 : decode cX10_feet 28 = .ok (.iload_n 1, 1) := by decide +kernel
theorem dX10_feet_29 : decode cX10_feet 29 = .ok (.imul, 1) := by decide +kernel
theorem dX10_feet_30 : decode cX10_feet 30 = .ok (.iload_n 2, 1) := by decide +kernel
theorem dX10_feet_31 : decode cX10_feet 31 = .ok (.iadd, 1) := by decide +kernel
theorem dX10_feet_32 : decode cX10_feet 32 = .ok (.iaload, 1) := by decide +kernel
theorem dX10_feet_33 : decode cX10_feet 33 = .ok (.goto 4, 3) := by decide +kernel
theorem dX10_remembers_0 : decode cX10_remembers 0 = .ok (.aload_n 0, 1) := by decide +kernel
theorem dX10_remembers_1 : decode cX10_remembers 1 = .ok (.getfield 160, 3) := by decide +kernel
theorem dX10_remembers_4 : decode cX10_remembers 4 = .ok (.bipush 8, 2) := by decide +kernel
theorem dX10_remembers_6 : decode cX10_remembers 6 = .ok (.if_icmp .ne 43, 3) := by decide +kernel
theorem dX10_remembers_49 : decode cX10_remembers 49 = .ok (.aload_n 0, 1) := by decide +kernel
theorem dX10_remembers_50 : decode cX10_remembers 50 = .ok (.getfield 20, 3) := by decide +kernel
theorem dX10_remembers_53 : decode cX10_remembers 53 = .ok (.bipush 52, 2) := by decide +kernel
theorem dX10_remembers_55 : decode cX10_remembers 55 = .ok (.aload_n 0, 1) := by decide +kernel
theorem dX10_remembers_56 : decode cX10_remembers 56 = .ok (.getfield 160, 3) := by decide +kernel
theorem dX10_remembers_59 : decode cX10_remembers 59 = .ok (.imul, 1) := by decide +kernel
theorem dX10_remembers_60 : decode cX10_remembers 60 = .ok (.aload_n 0, 1) := by decide +kernel
theorem dX10_remembers_61 : decode cX10_remembers 61 = .ok (.getfield 17, 3) := by decide +kernel
theorem dX10_remembers_64 : decode cX10_remembers 64 = .ok (.iconst 0, 1) := by decide +kernel
theorem dX10_remembers_65 : decode cX10_remembers 65 = .ok (.bipush 52, 2) := by decide +kernel
theorem dX10_remembers_67 : decode cX10_remembers 67 = .ok (.invokestatic 144, 3) := by decide +kernel
theorem dX10_remembers_70 : decode cX10_remembers 70 = .ok (.aload_n 0, 1) := by decide +kernel
theorem dX10_remembers_71 : decode cX10_remembers 71 = .ok (.dup, 1) := by decide +kernel
theorem dX10_remembers_72 : decode cX10_remembers 72 = .ok (.getfield 160, 3) := by decide +kernel
theorem dX10_remembers_75 : decode cX10_remembers 75 = .ok (.iconst 1, 1) := by decide +kernel
theorem dX10_remembers_76 : decode cX10_remembers 76 = .ok (.iadd, 1) := by decide +kernel
theorem dX10_remembers_77 : decode cX10_remembers 77 = .ok (.putfield 160, 3) := by decide +kernel
theorem dX10_remembers_80 : decode cX10_remembers 80 = .ok (.return_, 1) := by decide +kernel
theorem dX10_remembers_9 : decode cX10_remembers 9 = .ok (.iconst 0, 1) := by decide +kernel
theorem dX10_remembers_10 : decode cX10_remembers 10 = .ok (.istore_n 1, 1) := by decide +kernel
theorem dX10_remembers_11 : decode cX10_remembers 11 = .ok (.iload_n 1, 1) := by decide +kernel
theorem dX10_remembers_12 : decode cX10_remembers 12 = .ok (.sipush 364, 3) := by decide +kernel
theorem dX10_remembers_15 : decode cX10_remembers 15 = .ok (.if_icmp .ge 24, 3) := by decide +kernel
theorem dX10_remembers_18 : decode cX10_remembers 18 = .ok (.aload_n 0, 1) := by decide +kernel
theorem dX10_remembers_19 : decode cX10_remembers 19 = .ok (.getfield 20, 3) := by decide +kernel
theorem dX10_remembers_22 : decode cX10_remembers 22 = .ok (.iload_n 1, 1) := by decide +kernel
theorem dX10_remembers_23 : decode cX10_remembers 23 = .ok (.aload_n 0, 1) := by decide +kernel
theorem dX10_remembers_24 : decode cX10_remembers 24 = .ok (.getfield 20, 3) := by decide +kernel
theorem dX10_remembers_27 : decode cX10_remembers 27 = .ok (.iload_n 1, 1) := by decide +kernel
theorem dX10_remembers_28 : decode cX10_remembers 28 = .ok (.bipush 52, 2) := by decide +kernel
theorem dX10_remembers_30 : decode cX10_remembers 30 = .ok (.iadd, 1) := by decide +kernel
theorem dX10_remembers_31 : decode cX10_remembers 31 = .ok (.iaload, 1) := by decide +kernel
theorem dX10_remembers_32 : decode cX10_remembers 32 = .ok (.iastore, 1) := by decide +kernel
theorem dX10_remembers_33 : decode cX10_remembers 33 = .ok (.iinc 1 1, 3) := by decide +kernel
theorem dX10_remembers_36 : decode cX10_remembers 36 = .ok (.goto (-25), 3) := by decide +kernel
theorem dX10_remembers_39 : decode cX10_remembers 39 = .ok (.aload_n 0, 1) := by decide +kernel
theorem dX10_remembers_40 : decode cX10_remembers 40 = .ok (.dup, 1) := by decide +kernel
theorem dX10_remembers_41 : decode cX10_remembers 41 = .ok (.getfield 160, 3) := by decide +kernel
theorem dX10_remembers_44 : decode cX10_remembers 44 = .ok (.iconst 1, 1) := by decide +kernel
theorem dX10_remembers_45 : decode cX10_remembers 45 = .ok (.isub, 1) := by decide +kernel
theorem dX10_remembers_46 : decode cX10_remembers 46 = .ok (.putfield 160, 3) := by decide +kernel
theorem dX10_pass_0 : decode cX10_pass 0 = .ok (.iload_n 1, 1) := by decide +kernel
theorem dX10_pass_1 : decode cX10_pass 1 = .ok (.iconst 1, 1) := by decide +kernel
theorem dX10_pass_2 : decode cX10_pass 2 = .ok (.bipush 60, 2) := by decide +kernel
theorem dX10_pass_4 : decode cX10_pass 4 = .ok (.invokestatic 90, 3) := by decide +kernel
theorem dX10_pass_7 : decode cX10_pass 7 = .ok (.ifCond .ne 5, 3) := by decide +kernel
theorem dX10_pass_12 : decode cX10_pass 12 = .ok (.aload_n 0, 1) := by decide +kernel
theorem dX10_pass_13 : decode cX10_pass 13 = .ok (.getfield 17, 3) := by decide +kernel
theorem dX10_pass_16 : decode cX10_pass 16 = .ok (.iconst 0, 1) := by decide +kernel
theorem dX10_pass_17 : decode cX10_pass 17 = .ok (.iaload, 1) := by decide +kernel
theorem dX10_pass_18 : decode cX10_pass 18 = .ok (.iload_n 1, 1) := by decide +kernel
theorem dX10_pass_19 : decode cX10_pass 19 = .ok (.iadd, 1) := by decide +kernel
theorem dX10_pass_20 : decode cX10_pass 20 = .ok (.sipush 999, 3) := by decide +kernel
theorem dX10_pass_23 : decode cX10_pass 23 = .ok (.if_icmp .le 6, 3) := by decide +kernel
theorem dX10_pass_29 : decode cX10_pass 29 = .ok (.aload_n 0, 1) := by decide +kernel
theorem kw1011 : Cond.code yX10_remembers cX10_remembers 2 none ∈ Tg := mem_Tg (List.mem_append_right _ (List.mem_of_getElem? (i := 1011) (by decide +kernel))) (by decide +kernel)
theorem dX10_pass_30 : decode cX10_pass 30 = .ok (.invokevirtual 194, 3) := by decide +kernel
theorem dX10_pass_33 : decode cX10_pass 33 = .ok (.aload_n 0, 1) := by decide +kernel
theorem dX10_pass_34 : decode cX10_pass 34 = .ok (.getfield 17, 3) := by decide +kernel
theorem dX10_pass_37 : decode cX10_pass 37 = .ok (.iconst 0, 1) := by decide +kernel
theorem dX10_pass_38 : decode cX10_pass 38 = .ok (.dup2, 1) := by decide +kernel
theorem dX10_pass_39 : decode cX10_pass 39 = .ok (.iaload, 1) := by decide +kernel
theorem dX10_pass_40 : decode cX10_pass 40 = .ok (.iload_n 1, 1) := by decide +kernel
theorem dX10_pass_41 : decode cX10_pass 41 = .ok (.iadd, 1) := by decide +kernel
theorem dX10_pass_42 : decode cX10_pass 42 = .ok (.iastore, 1) := by decide +kernel
theorem dX10_pass_43 : decode cX10_pass 43 = .ok (.aload_n 0, 1) := by decide +kernel
theorem dX10_pass_44 : decode cX10_pass 44 = .ok (.getfield 17, 3) := by decide +kernel
theorem dX10_pass_47 : decode cX10_pass 47 = .ok (.iconst 0, 1) := by decide +kernel
theorem dX10_pass_48 : decode cX10_pass 48 = .ok (.iaload, 1) := by decide +kernel
theorem dX10_pass_49 : decode cX10_pass 49 = .ok (.ireturn, 1) := by decide +kernel
theorem dX10_pass_26 : decode cX10_pass 26 = .ok (.bipush (-2), 2) := by decide +kernel
theorem dX10_pass_28 : decode cX10_pass 28 = .ok (.ireturn, 1) := by decide +kernel
theorem dX10_pass_10 : decode cX10_pass 10 = .ok (.iconst (-1), 1) := by decide +kernel
theorem dX10_pass_11 : decode cX10_pass 11 = .ok (.ireturn, 1) := by decide +kernel
theorem dX10_come_0 : decode cX10_come 0 = .ok (.iload_n 1, 1) := by decide +kernel
theorem dX10_come_1 : decode cX10_come 1 = .ok (.iload_n 2, 1) := by decide +kernel
theorem dX10_come_2 : decode cX10_come 2 = .ok (.iload_n 3, 1) := by decide +kernel
theorem dX10_come_3 : decode cX10_come 3 = .ok (.iload 4, 2) := by decide +kernel
theorem dX10_come_5 : decode cX10_come 5 = .ok (.invokestatic 114, 3) := by decide +kernel
theorem dX10_come_8 : decode cX10_come 8 = .ok (.ifCond .ne 5, 3) := by decide +kernel
theorem dX10_come_13 : decode cX10_come 13 = .ok (.aload_n 0, 1) := by decide +kernel
theorem dX10_come_14 : decode cX10_come 14 = .ok (.getfield 17, 3) := by decide +kernel
theorem dX10_come_17 : decode cX10_come 17 = .ok (.iconst 1, 1) := by decide +kernel
theorem dX10_come_18 : decode cX10_come 18 = .ok (.iaload, 1) := by decide +kernel
theorem dX10_come_19 : decode cX10_come 19 = .ok (.bipush 10, 2) := by decide +kernel
theorem dX10_come_21 : decode cX10_come 21 = .ok (.if_icmp .ne 6, 3) := by decide +kernel
theorem dX10_come_27 : decode cX10_come 27 = .ok (.aload_n 0, 1) := by decide +kernel
theorem dX10_come_28 : decode cX10_come 28 = .ok (.invokevirtual 194, 3) := by decide +kernel
theorem dX10_come_31 : decode cX10_come 31 = .ok (.aload_n 0, 1) := by decide +kernel
theorem dX10_come_32 : decode cX10_come 32 = .ok (.getfield 17, 3) := by decide +kernel
theorem dX10_come_35 : decode cX10_come 35 = .ok (.iload_n 1, 1) := by decide +kernel
theorem dX10_come_36 : decode cX10_come 36 = .ok (.iload_n 2, 1) := by decide +kernel
theorem dX10_come_37 : decode cX10_come 37 = .ok (.iload_n 3, 1) := by decide +kernel
theorem dX10_come_38 : decode cX10_come 38 = .ok (.iload 4, 2) := by decide +kernel
theorem dX10_come_40 : decode cX10_come 40 = .ok (.invokestatic 83, 3) := by decide +kernel
theorem dX10_come_43 : decode cX10_come 43 = .ok (.aload_n 0, 1) := by decide +kernel
theorem dX10_come_44 : decode cX10_come 44 = .ok (.getfield 17, 3) := by decide +kernel
theorem dX10_come_47 : decode cX10_come 47 = .ok (.iconst 1, 1) := by decide +kernel
theorem dX10_come_48 : decode cX10_come 48 = .ok (.iaload, 1) := by decide +kernel
theorem dX10_come_49 : decode cX10_come 49 = .ok (.iconst 1, 1) := by decide +kernel
theorem dX10_come_50 : decode cX10_come 50 = .ok (.isub, 1) := by decide +kernel
theorem dX10_come_51 : decode cX10_come 51 = .ok (.ireturn, 1) := by decide +kernel
theorem dX10_come_24 : decode cX10_come 24 = .ok (.bipush (-3), 2) := by decide +kernel
theorem dX10_come_26 : decode cX10_come 26 = .ok (.ireturn, 1) := by decide +kernel
theorem dX10_come_11 : decode cX10_come 11 = .ok (.iconst (-1), 1) := by decide +kernel
theorem dX10_come_12 : decode cX10_come 12 = .ok (.ireturn, 1) := by decide +kernel
theorem dX10_leaves_0 : decode cX10_leaves 0 = .ok (.iconst 2, 1) := by decide +kernel
theorem dX10_leaves_1 : decode cX10_leaves 1 = .ok (.iconst 5, 1) := by decide +kernel
theorem dX10_leaves_2 : decode cX10_leaves 2 = .ok (.iload_n 1, 1) := by decide +kernel
theorem dX10_leaves_3 : decode cX10_leaves 3 = .ok (.imul, 1) := by decide +kernel
theorem dX10_leaves_4 : decode cX10_leaves 4 = .ok (.iadd, 1) := by decide +kernel
theorem dX10_leaves_5 : decode cX10_leaves 5 = .ok (.istore_n 2, 1) := by decide +kernel
theorem dX10_leaves_6 : decode cX10_leaves 6 = .ok (.iload_n 2, 1) := by decide +kernel
theorem dX10_leaves_7 : decode cX10_leaves 7 = .ok (.bipush 47, 2) := by decide +kernel
theorem dX10_leaves_9 : decode cX10_leaves 9 = .ok (.if_icmp .ge 17, 3) := by decide +kernel
theorem dX10_leaves_12 : decode cX10_leaves 12 = .ok (.aload_n 0, 1) := by decide +kernel
theorem dX10_leaves_13 : decode cX10_leaves 13 = .ok (.iload_n 2, 1) := by decide +kernel
theorem dX10_leaves_14 : decode cX10_leaves 14 = .ok (.aload_n 0, 1) := by decide +kernel
theorem dX10_leaves_15 : decode cX10_leaves 15 = .ok (.iload_n 2, 1) := by decide +kernel
theorem dX10_leaves_16 : decode cX10_leaves 16 = .ok (.iconst 5, 1) := by decide +kernel
theorem dX10_leaves_17 : decode cX10_leaves 17 = .ok (.iadd, 1) := by decide +kernel
theorem dX10_leaves_18 : decode cX10_leaves 18 = .ok (.iaload, 1) := by decide +kernel
theorem dX10_leaves_19 : decode cX10_leaves 19 = .ok (.iastore, 1) := by decide +kernel
theorem dX10_leaves_20 : decode cX10_leaves 20 = .ok (.iinc 2 1, 3) := by decide +kernel
theorem dX10_leaves_23 : decode cX10_leaves 23 = .ok (.goto (-17), 3) := by decide +kernel
theorem dX10_leaves_26 : decode cX10_leaves 26 = .ok (.aload_n 0, 1) := by decide +kernel
theorem dX10_leaves_27 : decode cX10_leaves 27 = .ok (.iconst 1, 1) := by decide +kernel
theorem dX10_leaves_28 : decode cX10_leaves 28 = .ok (.dup2, 1) := by decide +kernel
theorem dX10_leaves_29 : decode cX10_leaves 29 = .ok (.iaload, 1) := by decide +kernel
theorem dX10_leaves_30 : decode cX10_leaves 30 = .ok (.iconst 1, 1) := by decide +kernel
theorem dX10_leaves_31 : decode cX10_leaves 31 = .ok (.isub, 1) := by decide +kernel
theorem dX10_leaves_32 : decode cX10_leaves 32 = .ok (.iastore, 1) := by decide +kernel
theorem dX10_leaves_33 : decode cX10_leaves 33 = .ok (.return_, 1) := by decide +kernel
theorem dX10_go_0 : decode cX10_go 0 = .ok (.aload_n 0, 1) := by decide +kernel
theorem dX10_go_1 : decode cX10_go 1 = .ok (.iload_n 1, 1) := by decide +kernel
theorem dX10_go_2 : decode cX10_go 2 = .ok (.invokevirtual 188, 3) := by decide +kernel
theorem dX10_go_5 : decode cX10_go 5 = .ok (.ifCond .eq 11, 3) := by decide +kernel
theorem dX10_go_16 : decode cX10_go 16 = .ok (.iconst (-1), 1) := by decide +kernel
theorem dX10_go_17 : decode cX10_go 17 = .ok (.ireturn, 1) := by decide +kernel
theorem dX10_go_8 : decode cX10_go 8 = .ok (.aload_n 0, 1) := by decide +kernel
theorem dX10_go_9 : decode cX10_go 9 = .ok (.iload_n 2, 1) := by decide +kernel
theorem dX10_go_10 : decode cX10_go 10 = .ok (.invokevirtual 188, 3) := by decide +kernel
theorem dX10_go_13 : decode cX10_go 13 = .ok (.ifCond .ne 5, 3) := by decide +kernel
theorem dX10_go_18 : decode cX10_go 18 = .ok (.aload_n 0, 1) := by decide +kernel
theorem dX10_go_19 : decode cX10_go 19 = .ok (.invokevirtual 191, 3) := by decide +kernel
theorem dX10_go_22 : decode cX10_go 22 = .ok (.aload_n 0, 1) := by decide +kernel
theorem dX10_go_23 : decode cX10_go 23 = .ok (.iload_n 1, 1) := by decide +kernel
theorem dX10_go_24 : decode cX10_go 24 = .ok (.invokevirtual 175, 3) := by decide +kernel
theorem dX10_go_27 : decode cX10_go 27 = .ok (.ifCond .ne 12, 3) := by decide +kernel
theorem dX10_go_39 : decode cX10_go 39 = .ok (.bipush (-2), 2) := by decide +kernel
theorem dX10_go_41 : decode cX10_go 41 = .ok (.ireturn, 1) := by decide +kernel
theorem dX10_go_30 : decode cX10_go 30 = .ok (.aload_n 0, 1) := by decide +kernel
theorem dX10_go_31 : decode cX10_go 31 = .ok (.iload_n 1, 1) := by decide +kernel
theorem dX10_go_32 : decode cX10_go 32 = .ok (.iload_n 2, 1) := by decide +kernel
theorem kw1023 : Cond.code yX10_areAlike cX10_areAlike 3 (some .boolean) ∈ Tg := mem_Tg (List.mem_append_right _ (List.mem_of_getElem? (i := 1023) (by decide +kernel))) (by decide +kernel)
theorem dX10_go_33 : decode cX10_go 33 = .ok (.invokevirtual 197, 3) := by decide +kernel
theorem dX10_go_36 : decode cX10_go 36 = .ok (.ifCond .ne 6, 3) := by decide +kernel
theorem dX10_go_42 : decode cX10_go 42 = .ok (.aload_n 0, 1) := by decide +kernel
theorem dX10_go_43 : decode cX10_go 43 = .ok (.invokevirtual 194, 3) := by decide +kernel
theorem dX10_go_46 : decode cX10_go 46 = .ok (.aload_n 0, 1) := by decide +kernel
theorem dX10_go_47 : decode cX10_go 47 = .ok (.getfield 17, 3) := by decide +kernel
theorem dX10_go_50 : decode cX10_go 50 = .ok (.iload_n 1, 1) := by decide +kernel
theorem dX10_go_51 : decode cX10_go 51 = .ok (.iload_n 2, 1) := by decide +kernel
theorem dX10_go_52 : decode cX10_go 52 = .ok (.if_icmp .le 7, 3) := by decide +kernel
theorem dX10_go_59 : decode cX10_go 59 = .ok (.iload_n 2, 1) := by decide +kernel
theorem kw1029 : Cond.code yX10_leaves cX10_leaves 3 none ∈ Tg := mem_Tg (List.mem_append_right _ (List.mem_of_getElem? (i := 1029) (by decide +kernel))) (by decide +kernel)
theorem dX10_go_60 : decode cX10_go 60 = .ok (.invokestatic 201, 3) := by decide +kernel
theorem dX10_go_63 : decode cX10_go 63 = .ok (.aload_n 0, 1) := by decide +kernel
theorem dX10_go_64 : decode cX10_go 64 = .ok (.getfield 17, 3) := by decide +kernel
theorem dX10_go_67 : decode cX10_go 67 = .ok (.iload_n 1, 1) := by decide +kernel
theorem dX10_go_68 : decode cX10_go 68 = .ok (.iload_n 2, 1) := by decide +kernel
theorem dX10_go_69 : decode cX10_go 69 = .ok (.if_icmp .le 7, 3) := by decide +kernel
theorem dX10_go_76 : decode cX10_go 76 = .ok (.iload_n 1, 1) := by decide +kernel
theorem dX10_go_77 : decode cX10_go 77 = .ok (.invokestatic 201, 3) := by decide +kernel
theorem dX10_go_80 : decode cX10_go 80 = .ok (.aload_n 0, 1) := by decide +kernel
theorem dX10_go_81 : decode cX10_go 81 = .ok (.getfield 17, 3) := by decide +kernel
theorem dX10_go_84 : decode cX10_go 84 = .ok (.iconst 1, 1) := by decide +kernel
theorem dX10_go_85 : decode cX10_go 85 = .ok (.iaload, 1) := by decide +kernel
theorem dX10_go_86 : decode cX10_go 86 = .ok (.ireturn, 1) := by decide +kernel
theorem dX10_go_72 : decode cX10_go 72 = .ok (.iload_n 2, 1) := by decide +kernel
theorem dX10_go_73 : decode cX10_go 73 = .ok (.goto 4, 3) := by decide +kernel
theorem dX10_go_55 : decode cX10_go 55 = .ok (.iload_n 1, 1) := by decide +kernel
theorem dX10_go_56 : decode cX10_go 56 = .ok (.goto 4, 3) := by decide +kernel
theorem dX10_hole_0 : decode cX10_hole 0 = .ok (.aload_n 0, 1) := by decide +kernel
theorem dX10_hole_1 : decode cX10_hole 1 = .ok (.iload_n 1, 1) := by decide +kernel
theorem dX10_hole_2 : decode cX10_hole 2 = .ok (.invokevirtual 188, 3) := by decide +kernel
theorem dX10_hole_5 : decode cX10_hole 5 = .ok (.ifCond .ne 5, 3) := by decide +kernel
theorem dX10_hole_10 : decode cX10_hole 10 = .ok (.aload_n 0, 1) := by decide +kernel
theorem dX10_hole_11 : decode cX10_hole 11 = .ok (.getfield 17, 3) := by decide +kernel
theorem dX10_hole_14 : decode cX10_hole 14 = .ok (.iconst 2, 1) := by decide +kernel
theorem dX10_hole_15 : decode cX10_hole 15 = .ok (.iconst 5, 1) := by decide +kernel
theorem dX10_hole_16 : decode cX10_hole 16 = .ok (.iload_n 1, 1) := by decide +kernel
theorem dX10_hole_17 : decode cX10_hole 17 = .ok (.imul, 1) := by decide +kernel
theorem dX10_hole_18 : decode cX10_hole 18 = .ok (.iadd, 1) := by decide +kernel
theorem dX10_hole_19 : decode cX10_hole 19 = .ok (.iaload, 1) := by decide +kernel
theorem dX10_hole_20 : decode cX10_hole 20 = .ok (.istore_n 2, 1) := by decide +kernel
theorem dX10_hole_21 : decode cX10_hole 21 = .ok (.iload_n 2, 1) := by decide +kernel
theorem dX10_hole_22 : decode cX10_hole 22 = .ok (.iconst 2, 1) := by decide +kernel
theorem dX10_hole_23 : decode cX10_hole 23 = .ok (.if_icmp .ne 6, 3) := by decide +kernel
theorem dX10_hole_29 : decode cX10_hole 29 = .ok (.aload_n 0, 1) := by decide +kernel
theorem dX10_hole_30 : decode cX10_hole 30 = .ok (.invokevirtual 194, 3) := by decide +kernel
theorem dX10_hole_33 : decode cX10_hole 33 = .ok (.aload_n 0, 1) := by decide +kernel
theorem dX10_hole_34 : decode cX10_hole 34 = .ok (.getfield 17, 3) := by decide +kernel
theorem dX10_hole_37 : decode cX10_hole 37 = .ok (.iconst 2, 1) := by decide +kernel
theorem dX10_hole_38 : decode cX10_hole 38 = .ok (.iconst 5, 1) := by decide +kernel
theorem dX10_hole_39 : decode cX10_hole 39 = .ok (.iload_n 1, 1) := by decide +kernel
theorem dX10_hole_40 : decode cX10_hole 40 = .ok (.imul, 1) := by decide +kernel
theorem dX10_hole_41 : decode cX10_hole 41 = .ok (.iadd, 1) := by decide +kernel
theorem dX10_hole_42 : decode cX10_hole 42 = .ok (.iconst 2, 1) := by decide +kernel
theorem dX10_hole_43 : decode cX10_hole 43 = .ok (.iastore, 1) := by decide +kernel
theorem dX10_hole_44 : decode cX10_hole 44 = .ok (.iload_n 2, 1) := by decide +kernel
theorem dX10_hole_45 : decode cX10_hole 45 = .ok (.ireturn, 1) := by decide +kernel
theorem dX10_hole_26 : decode cX10_hole 26 = .ok (.bipush (-2), 2) := by decide +kernel
theorem dX10_hole_28 : decode cX10_hole 28 = .ok (.ireturn, 1) := by decide +kernel
theorem dX10_hole_8 : decode cX10_hole 8 = .ok (.iconst (-1), 1) := by decide +kernel
theorem dX10_hole_9 : decode cX10_hole 9 = .ok (.ireturn, 1) := by decide +kernel
theorem dX10_undo_0 : decode cX10_undo 0 = .ok (.aload_n 0, 1) := by decide +kernel
theorem dX10_undo_1 : decode cX10_undo 1 = .ok (.getfield 160, 3) := by decide +kernel
theorem dX10_undo_4 : decode cX10_undo 4 = .ok (.ifCond .ne 6, 3) := by decide +kernel
theorem dX10_undo_10 : decode cX10_undo 10 = .ok (.aload_n 0, 1) := by decide +kernel
theorem dX10_undo_11 : decode cX10_undo 11 = .ok (.dup, 1) := by decide +kernel
theorem dX10_undo_12 : decode cX10_undo 12 = .ok (.getfield 160, 3) := by decide +kernel
theorem dX10_undo_15 : decode cX10_undo 15 = .ok (.iconst 1, 1) := by decide +kernel
theorem dX10_undo_16 : decode cX10_undo 16 = .ok (.isub, 1) := by decide +kernel
theorem dX10_undo_17 : decode cX10_undo 17 = .ok (.putfield 160, 3) := by decide +kernel
theorem dX10_undo_20 : decode cX10_undo 20 = .ok (.aload_n 0, 1) := by decide +kernel
theorem dX10_undo_21 : decode cX10_undo 21 = .ok (.getfield 17, 3) := by decide +kernel
theorem dX10_undo_24 : decode cX10_undo 24 = .ok (.iconst 0, 1) := by decide +kernel
theorem dX10_undo_25 : decode cX10_undo 25 = .ok (.aload_n 0, 1) := by decide +kernel
theorem dX10_undo_26 : decode cX10_undo 26 = .ok (.getfield 20, 3) := by decide +kernel
theorem dX10_undo_29 : decode cX10_undo 29 = .ok (.bipush 52, 2) := by decide +kernel
theorem dX10_undo_31 : decode cX10_undo 31 = .ok (.aload_n 0, 1) := by decide +kernel
theorem dX10_undo_32 : decode cX10_undo 32 = .ok (.getfield 160, 3) := by decide +kernel
theorem dX10_undo_35 : decode cX10_undo 35 = .ok (.imul, 1) := by decide +kernel
theorem dX10_undo_36 : decode cX10_undo 36 = .ok (.bipush 52, 2) := by decide +kernel
theorem dX10_undo_38 : decode cX10_undo 38 = .ok (.invokestatic 144, 3) := by decide +kernel
theorem dX10_undo_41 : decode cX10_undo 41 = .ok (.aload_n 0, 1) := by decide +kernel
theorem dX10_undo_42 : decode cX10_undo 42 = .ok (.getfield 160, 3) := by decide +kernel
theorem dX10_undo_45 : decode cX10_undo 45 = .ok (.ireturn, 1) := by decide +kernel
theorem dX10_undo_7 : decode cX10_undo 7 = .ok (.bipush (-2), 2) := by decide +kernel
theorem dX10_undo_9 : decode cX10_undo 9 = .ok (.ireturn, 1) := by decide +kernel
theorem dX10_mates_0 : decode cX10_mates 0 = .ok (.aload_n 0, 1) := by decide +kernel
theorem dX10_mates_1 : decode cX10_mates 1 = .ok (.iload_n 1, 1) := by decide +kernel
theorem dX10_mates_2 : decode cX10_mates 2 = .ok (.invokevirtual 188, 3) := by decide +kernel
theorem dX10_mates_5 : decode cX10_mates 5 = .ok (.ifCond .ne 5, 3) := by decide +kernel
theorem dX10_mates_10 : decode cX10_mates 10 = .ok (.aload_n 0, 1) := by decide +kernel
theorem dX10_mates_11 : decode cX10_mates 11 = .ok (.invokevirtual 191, 3) := by decide +kernel
theorem dX10_mates_14 : decode cX10_mates 14 = .ok (.iconst 0, 1) := by decide +kernel
theorem dX10_mates_15 : decode cX10_mates 15 = .ok (.istore_n 2, 1) := by decide +kernel
theorem dX10_mates_16 : decode cX10_mates 16 = .ok (.iconst 0, 1) := by decide +kernel
theorem dX10_mates_17 : decode cX10_mates 17 = .ok (.istore_n 3, 1) := by decide +kernel
theorem dX10_mates_18 : decode cX10_mates 18 = .ok (.iload_n 3, 1) := by decide +kernel
theorem dX10_mates_19 : decode cX10_mates 19 = .ok (.aload_n 0, 1) := by decide +kernel
theorem dX10_mates_20 : decode cX10_mates 20 = .ok (.getfield 17, 3) := by decide +kernel
theorem dX10_mates_23 : decode cX10_mates 23 = .ok (.iconst 1, 1) := by decide +kernel
theorem dX10_mates_24 : decode cX10_mates 24 = .ok (.iaload, 1) := by decide +kernel
theorem dX10_mates_25 : decode cX10_mates 25 = .ok (.if_icmp .ge 28, 3) := by decide +kernel
theorem dX10_mates_28 : decode cX10_mates 28 = .ok (.iload_n 2, 1) := by decide +kernel
theorem dX10_mates_29 : decode cX10_mates 29 = .ok (.aload_n 0, 1) := by decide +kernel
theorem dX10_mates_30 : decode cX10_mates 30 = .ok (.iload_n 1, 1) := by decide +kernel
theorem dX10_mates_31 : decode cX10_mates 31 = .ok (.iload_n 3, 1) := by decide +kernel
theorem dX10_mates_32 : decode cX10_mates 32 = .ok (.invokevirtual 197, 3) := by decide +kernel
theorem dX10_mates_35 : decode cX10_mates 35 = .ok (.ifCond .eq 9, 3) := by decide +kernel
theorem dX10_mates_44 : decode cX10_mates 44 = .ok (.iconst 0, 1) := by decide +kernel
theorem dX10_mates_45 : decode cX10_mates 45 = .ok (.ior, 1) := by decide +kernel
theorem dX10_mates_46 : decode cX10_mates 46 = .ok (.istore_n 2, 1) := by decide +kernel
theorem dX10_mates_47 : decode cX10_mates 47 = .ok (.iinc 3 1, 3) := by decide +kernel
theorem dX10_mates_50 : decode cX10_mates 50 = .ok (.goto (-32), 3) := by decide +kernel
theorem dX10_mates_38 : decode cX10_mates 38 = .ok (.iconst 1, 1) := by decide +kernel
theorem dX10_mates_39 : decode cX10_mates 39 = .ok (.iload_n 3, 1) := by decide +kernel
theorem dX10_mates_40 : decode cX10_mates 40 = .ok (.ishl, 1) := by decide +kernel
theorem dX10_mates_41 : decode cX10_mates 41 = .ok (.goto 4, 3) := by decide +kernel
theorem dX10_mates_53 : decode cX10_mates 53 = .ok (.iload_n 2, 1) := by decide +kernel
theorem dX10_mates_54 : decode cX10_mates 54 = .ok (.ireturn, 1) := by decide +kernel
theorem dX10_mates_8 : decode cX10_mates 8 = .ok (.iconst (-1), 1) := by decide +kernel
theorem dX10_mates_9 : decode cX10_mates 9 = .ok (.ireturn, 1) := by decide +kernel
theorem dX10_findSides_0 : decode cX10_findSides 0 = .ok (.aload_n 0, 1) := by decide +kernel
theorem dX10_findSides_1 : decode cX10_findSides 1 = .ok (.iconst 0, 1) := by decide +kernel
theorem dX10_findSides_2 : decode cX10_findSides 2 = .ok (.putfield 205, 3) := by decide +kernel
theorem dX10_findSides_5 : decode cX10_findSides 5 = .ok (.aload_n 0, 1) := by decide +kernel
theorem dX10_findSides_6 : decode cX10_findSides 6 = .ok (.iconst 0, 1) := by decide +kernel
theorem dX10_findSides_7 : decode cX10_findSides 7 = .ok (.putfield 208, 3) := by decide +kernel
theorem dX10_findSides_10 : decode cX10_findSides 10 = .ok (.iconst 0, 1) := by decide +kernel
theorem dX10_findSides_11 : decode cX10_findSides 11 = .ok (.istore_n 1, 1) := by decide +kernel
theorem dX10_findSides_12 : decode cX10_findSides 12 = .ok (.iload_n 1, 1) := by decide +kernel
theorem dX10_findSides_13 : decode cX10_findSides 13 = .ok (.aload_n 0, 1) := by decide +kernel
theorem dX10_findSides_14 : decode cX10_findSides 14 = .ok (.getfield 17, 3) := by decide +kernel
theorem dX10_findSides_17 : decode cX10_findSides 17 = .ok (.iconst 1, 1) := by decide +kernel
theorem dX10_findSides_18 : decode cX10_findSides 18 = .ok (.iaload, 1) := by decide +kernel
theorem dX10_findSides_19 : decode cX10_findSides 19 = .ok (.if_icmp .ge 60, 3) := by decide +kernel
theorem dX10_findSides_22 : decode cX10_findSides 22 = .ok (.aload_n 0, 1) := by decide +kernel
theorem dX10_findSides_23 : decode cX10_findSides 23 = .ok (.iload_n 1, 1) := by decide +kernel
theorem dX10_findSides_24 : decode cX10_findSides 24 = .ok (.invokevirtual 175, 3) := by decide +kernel
theorem dX10_findSides_27 : decode cX10_findSides 27 = .ok (.ifCond .ne 26, 3) := by decide +kernel
theorem dX10_findSides_53 : decode cX10_findSides 53 = .ok (.aload_n 0, 1) := by decide +kernel
theorem dX10_findSides_54 : decode cX10_findSides 54 = .ok (.getfield 50, 3) := by decide +kernel
theorem dX10_findSides_57 : decode cX10_findSides 57 = .ok (.aload_n 0, 1) := by decide +kernel
theorem dX10_findSides_58 : decode cX10_findSides 58 = .ok (.getfield 208, 3) := by decide +kernel
theorem dX10_findSides_61 : decode cX10_findSides 61 = .ok (.iload_n 1, 1) := by decide +kernel
theorem dX10_findSides_62 : decode cX10_findSides 62 = .ok (.iastore, 1) := by decide +kernel
theorem dX10_findSides_63 : decode cX10_findSides 63 = .ok (.aload_n 0, 1) := by decide +kernel
theorem dX10_findSides_64 : decode cX10_findSides 64 = .ok (.dup, 1) := by decide +kernel
theorem dX10_findSides_65 : decode cX10_findSides 65 = .ok (.getfield 208, 3) := by decide +kernel
theorem dX10_findSides_68 : decode cX10_findSides 68 = .ok (.iconst 1, 1) := by decide +kernel
theorem dX10_findSides_69 : decode cX10_findSides 69 = .ok (.iadd, 1) := by decide +kernel
theorem dX10_findSides_70 : decode cX10_findSides 70 = .ok (.putfield 208, 3) := by decide +kernel
theorem dX10_findSides_73 : decode cX10_findSides 73 = .ok (.iinc 1 1, 3) := by decide +kernel
theorem dX10_findSides_76 : decode cX10_findSides 76 = .ok (.goto (-64), 3) := by decide +kernel
theorem dX10_findSides_30 : decode cX10_findSides 30 = .ok (.aload_n 0, 1) := by decide +kernel
theorem dX10_findSides_31 : decode cX10_findSides 31 = .ok (.getfield 47, 3) := by decide +kernel
theorem dX10_findSides_34 : decode cX10_findSides 34 = .ok (.aload_n 0, 1) := by decide +kernel
theorem dX10_findSides_35 : decode cX10_findSides 35 = .ok (.getfield 205, 3) := by decide +kernel
theorem dX10_findSides_38 : decode cX10_findSides 38 = .ok (.iload_n 1, 1) := by decide +kernel
theorem dX10_findSides_39 : decode cX10_findSides 39 = .ok (.iastore, 1) := by decide +kernel
theorem dX10_findSides_40 : decode cX10_findSides 40 = .ok (.aload_n 0, 1) := by decide +kernel
theorem dX10_findSides_41 : decode cX10_findSides 41 = .ok (.dup, 1) := by decide +kernel
theorem dX10_findSides_42 : decode cX10_findSides 42 = .ok (.getfield 205, 3) := by decide +kernel
theorem dX10_findSides_45 : decode cX10_findSides 45 = .ok (.iconst 1, 1) := by decide +kernel
theorem dX10_findSides_46 : decode cX10_findSides 46 = .ok (.iadd, 1) := by decide +kernel
theorem dX10_findSides_47 : decode cX10_findSides 47 = .ok (.putfield 205, 3) := by decide +kernel
theorem dX10_findSides_50 : decode cX10_findSides 50 = .ok (.goto 23, 3) := by decide +kernel
theorem dX10_findSides_79 : decode cX10_findSides 79 = .ok (.return_, 1) := by decide +kernel
theorem dX10_bestWith_0 : decode cX10_bestWith 0 = .ok (.aload_n 0, 1) := by decide +kernel
theorem dX10_bestWith_1 : decode cX10_bestWith 1 = .ok (.getfield 53, 3) := by decide +kernel
theorem dX10_bestWith_4 : decode cX10_bestWith 4 = .ok (.iload_n 1, 1) := by decide +kernel
theorem dX10_bestWith_5 : decode cX10_bestWith 5 = .ok (.iconst 1, 1) := by decide +kernel
theorem dX10_bestWith_6 : decode cX10_bestWith 6 = .ok (.iadd, 1) := by decide +kernel
theorem dX10_bestWith_7 : decode cX10_bestWith 7 = .ok (.aload_n 0, 1) := by decide +kernel
theorem dX10_bestWith_8 : decode cX10_bestWith 8 = .ok (.getfield 208, 3) := by decide +kernel
theorem dX10_bestWith_11 : decode cX10_bestWith 11 = .ok (.ishl, 1) := by decide +kernel
theorem dX10_bestWith_12 : decode cX10_bestWith 12 = .ok (.iload_n 2, 1) := by decide +kernel
theorem dX10_bestWith_13 : decode cX10_bestWith 13 = .ok (.iconst 1, 1) := by decide +kernel
theorem dX10_bestWith_14 : decode cX10_bestWith 14 = .ok (.iload_n 3, 1) := by decide +kernel
theorem dX10_bestWith_15 : decode cX10_bestWith 15 = .ok (.ishl, 1) := by decide +kernel
theorem dX10_bestWith_16 : decode cX10_bestWith 16 = .ok (.ior, 1) := by decide +kernel
theorem dX10_bestWith_17 : decode cX10_bestWith 17 = .ok (.iadd, 1) := by decide +kernel
theorem dX10_bestWith_18 : decode cX10_bestWith 18 = .ok (.iaload, 1) := by decide +kernel
theorem dX10_bestWith_19 : decode cX10_bestWith 19 = .ok (.istore 4, 2) := by decide +kernel
theorem dX10_bestWith_21 : decode cX10_bestWith 21 = .ok (.bipush 100, 2) := by decide +kernel
theorem dX10_bestWith_23 : decode cX10_bestWith 23 = .ok (.aload_n 0, 1) := by decide +kernel
theorem dX10_bestWith_24 : decode cX10_bestWith 24 = .ok (.aload_n 0, 1) := by decide +kernel
theorem dX10_bestWith_25 : decode cX10_bestWith 25 = .ok (.getfield 47, 3) := by decide +kernel
theorem dX10_bestWith_28 : decode cX10_bestWith 28 = .ok (.iload_n 1, 1) := by decide +kernel
theorem dX10_bestWith_29 : decode cX10_bestWith 29 = .ok (.iaload, 1) := by decide +kernel
theorem dX10_bestWith_30 : decode cX10_bestWith 30 = .ok (.invokevirtual 178, 3) := by decide +kernel
theorem dX10_bestWith_33 : decode cX10_bestWith 33 = .ok (.aload_n 0, 1) := by decide +kernel
theorem dX10_bestWith_34 : decode cX10_bestWith 34 = .ok (.aload_n 0, 1) := by decide +kernel
theorem dX10_bestWith_35 : decode cX10_bestWith 35 = .ok (.getfield 50, 3) := by decide +kernel
theorem dX10_bestWith_38 : decode cX10_bestWith 38 = .ok (.iload_n 3, 1) := by decide +kernel
theorem dX10_bestWith_39 : decode cX10_bestWith 39 = .ok (.iaload, 1) := by decide +kernel
theorem dX10_bestWith_40 : decode cX10_bestWith 40 = .ok (.invokevirtual 178, 3) := by decide +kernel
theorem dX10_bestWith_43 : decode cX10_bestWith 43 = .ok (.invokestatic 181, 3) := by decide +kernel
theorem dX10_bestWith_46 : decode cX10_bestWith 46 = .ok (.isub, 1) := by decide +kernel
theorem dX10_bestWith_47 : decode cX10_bestWith 47 = .ok (.iload 4, 2) := by decide +kernel
theorem dX10_bestWith_49 : decode cX10_bestWith 49 = .ok (.iadd, 1) := by decide +kernel
theorem dX10_bestWith_50 : decode cX10_bestWith 50 = .ok (.ireturn, 1) := by decide +kernel
theorem dX10_mayPair_0 : decode cX10_mayPair 0 = .ok (.iload_n 2, 1) := by decide +kernel
theorem dX10_mayPair_1 : decode cX10_mayPair 1 = .ok (.iload_n 3, 1) := by decide +kernel
theorem kw1060 : Cond.code yX10_has cX10_has 2 (some .boolean) ∈ Tg := mem_Tg (List.mem_append_right _ (List.mem_of_getElem? (i := 1060) (by decide +kernel))) (by decide +kernel)
theorem dX10_mayPair_2 : decode cX10_mayPair 2 = .ok (.invokestatic 211, 3) := by decide +kernel
theorem dX10_mayPair_5 : decode cX10_mayPair 5 = .ok (.ifCond .ne 26, 3) := by decide +kernel
theorem dX10_mayPair_31 : decode cX10_mayPair 31 = .ok (.iconst 0, 1) := by decide +kernel
theorem dX10_mayPair_32 : decode cX10_mayPair 32 = .ok (.ireturn, 1) := by decide +kernel
theorem dX10_mayPair_8 : decode cX10_mayPair 8 = .ok (.aload_n 0, 1) := by decide +kernel
theorem dX10_mayPair_9 : decode cX10_mayPair 9 = .ok (.aload_n 0, 1) := by decide +kernel
theorem dX10_mayPair_10 : decode cX10_mayPair 10 = .ok (.getfield 47, 3) := by decide +kernel
theorem dX10_mayPair_13 : decode cX10_mayPair 13 = .ok (.iload_n 1, 1) := by decide +kernel
theorem dX10_mayPair_14 : decode cX10_mayPair 14 = .ok (.iaload, 1) := by decide +kernel
theorem dX10_mayPair_15 : decode cX10_mayPair 15 = .ok (.aload_n 0, 1) := by decide +kernel
theorem dX10_mayPair_16 : decode cX10_mayPair 16 = .ok (.getfield 50, 3) := by decide +kernel
theorem dX10_mayPair_19 : decode cX10_mayPair 19 = .ok (.iload_n 3, 1) := by decide +kernel
theorem dX10_mayPair_20 : decode cX10_mayPair 20 = .ok (.iaload, 1) := by decide +kernel
theorem dX10_mayPair_21 : decode cX10_mayPair 21 = .ok (.invokevirtual 197, 3) := by decide +kernel
theorem dX10_mayPair_24 : decode cX10_mayPair 24 = .ok (.ifCond .eq 7, 3) := by decide +kernel
theorem dX10_mayPair_27 : decode cX10_mayPair 27 = .ok (.iconst 1, 1) := by decide +kernel
theorem dX10_mayPair_28 : decode cX10_mayPair 28 = .ok (.goto 4, 3) := by decide +kernel
theorem dX10_findPairs_0 : decode cX10_findPairs 0 = .ok (.aload_n 0, 1) := by decide +kernel
theorem dX10_findPairs_1 : decode cX10_findPairs 1 = .ok (.invokevirtual 191, 3) := by decide +kernel
theorem dX10_findPairs_4 : decode cX10_findPairs 4 = .ok (.aload_n 0, 1) := by decide +kernel
theorem kw1053 : Cond.code yX10_findSides cX10_findSides 2 none ∈ Tg := mem_Tg (List.mem_append_right _ (List.mem_of_getElem? (i := 1053) (by decide +kernel))) (by decide +kernel)
theorem dX10_findPairs_5 : decode cX10_findPairs 5 = .ok (.invokevirtual 214, 3) := by decide +kernel
theorem dX10_findPairs_8 : decode cX10_findPairs 8 = .ok (.iconst 0, 1) := by decide +kernel
theorem dX10_findPairs_9 : decode cX10_findPairs 9 = .ok (.istore_n 1, 1) := by decide +kernel
theorem dX10_findPairs_10 : decode cX10_findPairs 10 = .ok (.iload_n 1, 1) := by decide +kernel
theorem dX10_findPairs_11 : decode cX10_findPairs 11 = .ok (.iconst 1, 1) := by decide +kernel
theorem dX10_findPairs_12 : decode cX10_findPairs 12 = .ok (.aload_n 0, 1) := by decide +kernel
theorem dX10_findPairs_13 : decode cX10_findPairs 13 = .ok (.getfield 208, 3) := by decide +kernel
theorem dX10_findPairs_16 : decode cX10_findPairs 16 = .ok (.ishl, 1) := by decide +kernel
theorem dX10_findPairs_17 : decode cX10_findPairs 17 = .ok (.if_icmp .ge 26, 3) := by decide +kernel
theorem dX10_findPairs_20 : decode cX10_findPairs 20 = .ok (.aload_n 0, 1) := by decide +kernel
theorem dX10_findPairs_21 : decode cX10_findPairs 21 = .ok (.getfield 53, 3) := by decide +kernel
theorem dX10_findPairs_24 : decode cX10_findPairs 24 = .ok (.aload_n 0, 1) := by decide +kernel
theorem dX10_findPairs_25 : decode cX10_findPairs 25 = .ok (.getfield 205, 3) := by decide +kernel
theorem dX10_findPairs_28 : decode cX10_findPairs 28 = .ok (.aload_n 0, 1) := by decide +kernel
theorem dX10_findPairs_29 : decode cX10_findPairs 29 = .ok (.getfield 208, 3) := by decide +kernel
theorem dX10_findPairs_32 : decode cX10_findPairs 32 = .ok (.ishl, 1) := by decide +kernel
theorem dX10_findPairs_33 : decode cX10_findPairs 33 = .ok (.iload_n 1, 1) := by decide +kernel
theorem dX10_findPairs_34 : decode cX10_findPairs 34 = .ok (.iadd, 1) := by decide +kernel
theorem dX10_findPairs_35 : decode cX10_findPairs 35 = .ok (.iconst 0, 1) := by decide +kernel
theorem dX10_findPairs_36 : decode cX10_findPairs 36 = .ok (.iastore, 1) := by decide +kernel
theorem dX10_findPairs_37 : decode cX10_findPairs 37 = .ok (.iinc 1 1, 3) := by decide +kernel
theorem dX10_findPairs_40 : decode cX10_findPairs 40 = .ok (.goto (-30), 3) := by decide +kernel
theorem dX10_findPairs_43 : decode cX10_findPairs 43 = .ok (.aload_n 0, 1) := by decide +kernel
theorem dX10_findPairs_44 : decode cX10_findPairs 44 = .ok (.getfield 205, 3) := by decide +kernel
theorem dX10_findPairs_47 : decode cX10_findPairs 47 = .ok (.iconst 1, 1) := by decide +kernel
theorem dX10_findPairs_48 : decode cX10_findPairs 48 = .ok (.isub, 1) := by decide +kernel
theorem dX10_findPairs_49 : decode cX10_findPairs 49 = .ok (.istore_n 1, 1) := by decide +kernel
theorem dX10_findPairs_50 : decode cX10_findPairs 50 = .ok (.iload_n 1, 1) := by decide +kernel
theorem dX10_findPairs_51 : decode cX10_findPairs 51 = .ok (.ifCond .lt 113, 3) := by decide +kernel
theorem dX10_findPairs_54 : decode cX10_findPairs 54 = .ok (.iconst 0, 1) := by decide +kernel
theorem dX10_findPairs_55 : decode cX10_findPairs 55 = .ok (.istore_n 2, 1) := by decide +kernel
theorem dX10_findPairs_56 : decode cX10_findPairs 56 = .ok (.iload_n 2, 1) := by decide +kernel
theorem dX10_findPairs_57 : decode cX10_findPairs 57 = .ok (.iconst 1, 1) := by decide +kernel
theorem dX10_findPairs_58 : decode cX10_findPairs 58 = .ok (.aload_n 0, 1) := by decide +kernel
theorem dX10_findPairs_59 : decode cX10_findPairs 59 = .ok (.getfield 208, 3) := by decide +kernel
theorem dX10_findPairs_62 : decode cX10_findPairs 62 = .ok (.ishl, 1) := by decide +kernel
theorem dX10_findPairs_63 : decode cX10_findPairs 63 = .ok (.if_icmp .ge 95, 3) := by decide +kernel
theorem dX10_findPairs_66 : decode cX10_findPairs 66 = .ok (.aload_n 0, 1) := by decide +kernel
theorem dX10_findPairs_67 : decode cX10_findPairs 67 = .ok (.getfield 53, 3) := by decide +kernel
theorem dX10_findPairs_70 : decode cX10_findPairs 70 = .ok (.iload_n 1, 1) := by decide +kernel
theorem dX10_findPairs_71 : decode cX10_findPairs 71 = .ok (.iconst 1, 1) := by decide +kernel
theorem dX10_findPairs_72 : decode cX10_findPairs 72 = .ok (.iadd, 1) := by decide +kernel
theorem dX10_findPairs_73 : decode cX10_findPairs 73 = .ok (.aload_n 0, 1) := by decide +kernel
theorem dX10_findPairs_74 : decode cX10_findPairs 74 = .ok (.getfield 208, 3) := by decide +kernel
theorem dX10_findPairs_77 : decode cX10_findPairs 77 = .ok (.ishl, 1) := by decide +kernel
theorem dX10_findPairs_78 : decode cX10_findPairs 78 = .ok (.iload_n 2, 1) := by decide +kernel
theorem dX10_findPairs_79 : decode cX10_findPairs 79 = .ok (.iadd, 1) := by decide +kernel
theorem dX10_findPairs_80 : decode cX10_findPairs 80 = .ok (.iaload, 1) := by decide +kernel
theorem dX10_findPairs_81 : decode cX10_findPairs 81 = .ok (.istore_n 3, 1) := by decide +kernel
theorem dX10_findPairs_82 : decode cX10_findPairs 82 = .ok (.iconst 0, 1) := by decide +kernel
theorem dX10_findPairs_83 : decode cX10_findPairs 83 = .ok (.istore 4, 2) := by decide +kernel
theorem dX10_findPairs_85 : decode cX10_findPairs 85 = .ok (.iload 4, 2) := by decide +kernel
theorem dX10_findPairs_87 : decode cX10_findPairs 87 = .ok (.aload_n 0, 1) := by decide +kernel
theorem dX10_findPairs_88 : decode cX10_findPairs 88 = .ok (.getfield 208, 3) := by decide +kernel
theorem dX10_findPairs_91 : decode cX10_findPairs 91 = .ok (.if_icmp .ge 47, 3) := by decide +kernel
theorem dX10_findPairs_94 : decode cX10_findPairs 94 = .ok (.aload_n 0, 1) := by decide +kernel
theorem dX10_findPairs_95 : decode cX10_findPairs 95 = .ok (.iload_n 1, 1) := by decide +kernel
theorem dX10_findPairs_96 : decode cX10_findPairs 96 = .ok (.iload_n 2, 1) := by decide +kernel
theorem dX10_findPairs_97 : decode cX10_findPairs 97 = .ok (.iload 4, 2) := by decide +kernel
theorem kw1057 : Cond.code yX10_mayPair cX10_mayPair 4 (some .boolean) ∈ Tg := mem_Tg (List.mem_append_right _ (List.mem_of_getElem? (i := 1057) (by decide +kernel))) (by decide +kernel)
theorem dX10_findPairs_99 : decode cX10_findPairs 99 = .ok (.invokevirtual 217, 3) := by decide +kernel
theorem dX10_findPairs_102 : decode cX10_findPairs 102 = .ok (.ifCond .eq 14, 3) := by decide +kernel
theorem dX10_findPairs_116 : decode cX10_findPairs 116 = .ok (.iconst (-1), 1) := by decide +kernel
theorem dX10_findPairs_117 : decode cX10_findPairs 117 = .ok (.istore 5, 2) := by decide +kernel
theorem dX10_findPairs_119 : decode cX10_findPairs 119 = .ok (.iload 5, 2) := by decide +kernel
theorem dX10_findPairs_121 : decode cX10_findPairs 121 = .ok (.iload_n 3, 1) := by decide +kernel
theorem dX10_findPairs_122 : decode cX10_findPairs 122 = .ok (.if_icmp .le 8, 3) := by decide +kernel
theorem dX10_findPairs_130 : decode cX10_findPairs 130 = .ok (.iload_n 3, 1) := by decide +kernel
theorem dX10_findPairs_131 : decode cX10_findPairs 131 = .ok (.istore_n 3, 1) := by decide +kernel
theorem dX10_findPairs_132 : decode cX10_findPairs 132 = .ok (.iinc 4 1, 3) := by decide +kernel
theorem dX10_findPairs_135 : decode cX10_findPairs 135 = .ok (.goto (-50), 3) := by decide +kernel
theorem dX10_findPairs_125 : decode cX10_findPairs 125 = .ok (.iload 5, 2) := by decide +kernel
theorem dX10_findPairs_127 : decode cX10_findPairs 127 = .ok (.goto 4, 3) := by decide +kernel
theorem dX10_findPairs_105 : decode cX10_findPairs 105 = .ok (.aload_n 0, 1) := by decide +kernel
theorem dX10_findPairs_106 : decode cX10_findPairs 106 = .ok (.iload_n 1, 1) := by decide +kernel
theorem dX10_findPairs_107 : decode cX10_findPairs 107 = .ok (.iload_n 2, 1) := by decide +kernel
theorem dX10_findPairs_108 : decode cX10_findPairs 108 = .ok (.iload 4, 2) := by decide +kernel
theorem kw1064 : Cond.code yX10_bestWith cX10_bestWith 5 (some .int) ∈ Tg := mem_Tg (List.mem_append_right _ (List.mem_of_getElem? (i := 1064) (by decide +kernel))) (by decide +kernel)
theorem dX10_findPairs_110 : decode cX10_findPairs 110 = .ok (.invokevirtual 220, 3) := by decide +kernel
theorem dX10_findPairs_113 : decode cX10_findPairs 113 = .ok (.goto 4, 3) := by decide +kernel
theorem dX10_findPairs_138 : decode cX10_findPairs 138 = .ok (.aload_n 0, 1) := by decide +kernel
theorem dX10_findPairs_139 : decode cX10_findPairs 139 = .ok (.getfield 53, 3) := by decide +kernel
theorem dX10_findPairs_142 : decode cX10_findPairs 142 = .ok (.iload_n 1, 1) := by decide +kernel
theorem dX10_findPairs_143 : decode cX10_findPairs 143 = .ok (.aload_n 0, 1) := by decide +kernel
theorem dX10_findPairs_144 : decode cX10_findPairs 144 = .ok (.getfield 208, 3) := by decide +kernel
theorem dX10_findPairs_147 : decode cX10_findPairs 147 = .ok (.ishl, 1) := by decide +kernel
theorem dX10_findPairs_148 : decode cX10_findPairs 148 = .ok (.iload_n 2, 1) := by decide +kernel
theorem dX10_findPairs_149 : decode cX10_findPairs 149 = .ok (.iadd, 1) := by decide +kernel
theorem dX10_findPairs_150 : decode cX10_findPairs 150 = .ok (.iload_n 3, 1) := by decide +kernel
theorem dX10_findPairs_151 : decode cX10_findPairs 151 = .ok (.iastore, 1) := by decide +kernel
theorem dX10_findPairs_152 : decode cX10_findPairs 152 = .ok (.iinc 2 1, 3) := by decide +kernel
theorem dX10_findPairs_155 : decode cX10_findPairs 155 = .ok (.goto (-99), 3) := by decide +kernel
theorem dX10_findPairs_158 : decode cX10_findPairs 158 = .ok (.iinc 1 (-1), 3) := by decide +kernel
theorem dX10_findPairs_161 : decode cX10_findPairs 161 = .ok (.goto (-111), 3) := by decide +kernel
theorem dX10_findPairs_164 : decode cX10_findPairs 164 = .ok (.iconst 0, 1) := by decide +kernel
theorem dX10_findPairs_165 : decode cX10_findPairs 165 = .ok (.istore_n 1, 1) := by decide +kernel
theorem dX10_findPairs_166 : decode cX10_findPairs 166 = .ok (.iload_n 1, 1) := by decide +kernel
theorem dX10_findPairs_167 : decode cX10_findPairs 167 = .ok (.bipush 10, 2) := by decide +kernel
theorem dX10_findPairs_169 : decode cX10_findPairs 169 = .ok (.if_icmp .ge 17, 3) := by decide +kernel
theorem dX10_findPairs_172 : decode cX10_findPairs 172 = .ok (.aload_n 0, 1) := by decide +kernel
theorem dX10_findPairs_173 : decode cX10_findPairs 173 = .ok (.getfield 56, 3) := by decide +kernel
theorem dX10_findPairs_176 : decode cX10_findPairs 176 = .ok (.iload_n 1, 1) := by decide +kernel
theorem dX10_findPairs_177 : decode cX10_findPairs 177 = .ok (.bipush (-4), 2) := by decide +kernel
theorem dX10_findPairs_179 : decode cX10_findPairs 179 = .ok (.iastore, 1) := by decide +kernel
theorem dX10_findPairs_180 : decode cX10_findPairs 180 = .ok (.iinc 1 1, 3) := by decide +kernel
theorem dX10_findPairs_183 : decode cX10_findPairs 183 = .ok (.goto (-17), 3) := by decide +kernel
theorem dX10_findPairs_186 : decode cX10_findPairs 186 = .ok (.iconst 0, 1) := by decide +kernel
theorem dX10_findPairs_187 : decode cX10_findPairs 187 = .ok (.istore_n 1, 1) := by decide +kernel
theorem dX10_findPairs_188 : decode cX10_findPairs 188 = .ok (.iconst 0, 1) := by decide +kernel
theorem dX10_findPairs_189 : decode cX10_findPairs 189 = .ok (.istore_n 2, 1) := by decide +kernel
theorem dX10_findPairs_190 : decode cX10_findPairs 190 = .ok (.iload_n 2, 1) := by decide +kernel
theorem dX10_findPairs_191 : decode cX10_findPairs 191 = .ok (.aload_n 0, 1) := by decide +kernel
theorem dX10_findPairs_192 : decode cX10_findPairs 192 = .ok (.getfield 205, 3) := by decide +kernel
theorem dX10_findPairs_195 : decode cX10_findPairs 195 = .ok (.if_icmp .ge 106, 3) := by decide +kernel
theorem dX10_findPairs_198 : decode cX10_findPairs 198 = .ok (.iconst 0, 1) := by decide +kernel
theorem dX10_findPairs_199 : decode cX10_findPairs 199 = .ok (.istore_n 3, 1) := by decide +kernel
theorem dX10_findPairs_200 : decode cX10_findPairs 200 = .ok (.iload_n 3, 1) := by decide +kernel
theorem dX10_findPairs_201 : decode cX10_findPairs 201 = .ok (.aload_n 0, 1) := by decide +kernel
theorem dX10_findPairs_202 : decode cX10_findPairs 202 = .ok (.getfield 208, 3) := by decide +kernel
theorem dX10_findPairs_205 : decode cX10_findPairs 205 = .ok (.if_icmp .ge 42, 3) := by decide +kernel
theorem dX10_findPairs_208 : decode cX10_findPairs 208 = .ok (.aload_n 0, 1) := by decide +kernel
theorem dX10_findPairs_209 : decode cX10_findPairs 209 = .ok (.iload_n 2, 1) := by decide +kernel
theorem dX10_findPairs_210 : decode cX10_findPairs 210 = .ok (.iload_n 1, 1) := by decide +kernel
theorem dX10_findPairs_211 : decode cX10_findPairs 211 = .ok (.iload_n 3, 1) := by decide +kernel
theorem dX10_findPairs_212 : decode cX10_findPairs 212 = .ok (.invokevirtual 217, 3) := by decide +kernel
theorem dX10_findPairs_215 : decode cX10_findPairs 215 = .ok (.ifCond .eq 26, 3) := by decide +kernel
theorem dX10_findPairs_241 : decode cX10_findPairs 241 = .ok (.iinc 3 1, 3) := by decide +kernel
theorem dX10_findPairs_244 : decode cX10_findPairs 244 = .ok (.goto (-44), 3) := by decide +kernel
theorem dX10_findPairs_218 : decode cX10_findPairs 218 = .ok (.aload_n 0, 1) := by decide +kernel
theorem dX10_findPairs_219 : decode cX10_findPairs 219 = .ok (.iload_n 2, 1) := by decide +kernel
theorem dX10_findPairs_220 : decode cX10_findPairs 220 = .ok (.iload_n 1, 1) := by decide +kernel
theorem dX10_findPairs_221 : decode cX10_findPairs 221 = .ok (.iload_n 3, 1) := by decide +kernel
theorem dX10_findPairs_222 : decode cX10_findPairs 222 = .ok (.invokevirtual 220, 3) := by decide +kernel
theorem dX10_findPairs_225 : decode cX10_findPairs 225 = .ok (.aload_n 0, 1) := by decide +kernel
theorem dX10_findPairs_226 : decode cX10_findPairs 226 = .ok (.getfield 53, 3) := by decide +kernel
theorem dX10_findPairs_229 : decode cX10_findPairs 229 = .ok (.iload_n 2, 1) := by decide +kernel
theorem dX10_findPairs_230 : decode cX10_findPairs 230 = .ok (.aload_n 0, 1) := by decide +kernel
theorem dX10_findPairs_231 : decode cX10_findPairs 231 = .ok (.getfield 208, 3) := by decide +kernel
theorem dX10_findPairs_234 : decode cX10_findPairs 234 = .ok (.ishl, 1) := by decide +kernel
theorem dX10_findPairs_235 : decode cX10_findPairs 235 = .ok (.iload_n 1, 1) := by decide +kernel
theorem dX10_findPairs_236 : decode cX10_findPairs 236 = .ok (.iadd, 1) := by decide +kernel
theorem dX10_findPairs_237 : decode cX10_findPairs 237 = .ok (.iaload, 1) := by decide +kernel
theorem dX10_findPairs_238 : decode cX10_findPairs 238 = .ok (.if_icmp .eq 9, 3) := by decide +kernel
theorem dX10_findPairs_247 : decode cX10_findPairs 247 = .ok (.iload_n 3, 1) := by decide +kernel
theorem dX10_findPairs_248 : decode cX10_findPairs 248 = .ok (.aload_n 0, 1) := by decide +kernel
theorem dX10_findPairs_249 : decode cX10_findPairs 249 = .ok (.getfield 208, 3) := by decide +kernel
theorem dX10_findPairs_252 : decode cX10_findPairs 252 = .ok (.if_icmp .ge 43, 3) := by decide +kernel
theorem dX10_findPairs_295 : decode cX10_findPairs 295 = .ok (.iinc 2 1, 3) := by decide +kernel
theorem dX10_findPairs_298 : decode cX10_findPairs 298 = .ok (.goto (-108), 3) := by decide +kernel
theorem dX10_findPairs_255 : decode cX10_findPairs 255 = .ok (.aload_n 0, 1) := by decide +kernel
theorem dX10_findPairs_256 : decode cX10_findPairs 256 = .ok (.getfield 56, 3) := by decide +kernel
theorem dX10_findPairs_259 : decode cX10_findPairs 259 = .ok (.aload_n 0, 1) := by decide +kernel
theorem dX10_findPairs_260 : decode cX10_findPairs 260 = .ok (.getfield 47, 3) := by decide +kernel
theorem dX10_findPairs_263 : decode cX10_findPairs 263 = .ok (.iload_n 2, 1) := by decide +kernel
theorem dX10_findPairs_264 : decode cX10_findPairs 264 = .ok (.iaload, 1) := by decide +kernel
theorem dX10_findPairs_265 : decode cX10_findPairs 265 = .ok (.aload_n 0, 1) := by decide +kernel
theorem dX10_findPairs_266 : decode cX10_findPairs 266 = .ok (.getfield 50, 3) := by decide +kernel
theorem dX10_findPairs_269 : decode cX10_findPairs 269 = .ok (.iload_n 3, 1) := by decide +kernel
theorem dX10_findPairs_270 : decode cX10_findPairs 270 = .ok (.iaload, 1) := by decide +kernel
theorem dX10_findPairs_271 : decode cX10_findPairs 271 = .ok (.iastore, 1) := by decide +kernel
theorem dX10_findPairs_272 : decode cX10_findPairs 272 = .ok (.aload_n 0, 1) := by decide +kernel
theorem dX10_findPairs_273 : decode cX10_findPairs 273 = .ok (.getfield 56, 3) := by decide +kernel
theorem dX10_findPairs_276 : decode cX10_findPairs 276 = .ok (.aload_n 0, 1) := by decide +kernel
theorem dX10_findPairs_277 : decode cX10_findPairs 277 = .ok (.getfield 50, 3) := by decide +kernel
theorem dX10_findPairs_280 : decode cX10_findPairs 280 = .ok (.iload_n 3, 1) := by decide +kernel
theorem dX10_findPairs_281 : decode cX10_findPairs 281 = .ok (.iaload, 1) := by decide +kernel
theorem dX10_findPairs_282 : decode cX10_findPairs 282 = .ok (.aload_n 0, 1) := by decide +kernel
theorem dX10_findPairs_283 : decode cX10_findPairs 283 = .ok (.getfield 47, 3) := by decide +kernel
theorem dX10_findPairs_286 : decode cX10_findPairs 286 = .ok (.iload_n 2, 1) := by decide +kernel
theorem dX10_findPairs_287 : decode cX10_findPairs 287 = .ok (.iaload, 1) := by decide +kernel
theorem dX10_findPairs_288 : decode cX10_findPairs 288 = .ok (.iastore, 1) := by decide +kernel
theorem dX10_findPairs_289 : decode cX10_findPairs 289 = .ok (.iload_n 1, 1) := by decide +kernel
theorem dX10_findPairs_290 : decode cX10_findPairs 290 = .ok (.iconst 1, 1) := by decide +kernel
theorem dX10_findPairs_291 : decode cX10_findPairs 291 = .ok (.iload_n 3, 1) := by decide +kernel
theorem dX10_findPairs_292 : decode cX10_findPairs 292 = .ok (.ishl, 1) := by decide +kernel
theorem dX10_findPairs_293 : decode cX10_findPairs 293 = .ok (.ior, 1) := by decide +kernel
theorem dX10_findPairs_294 : decode cX10_findPairs 294 = .ok (.istore_n 1, 1) := by decide +kernel
theorem dX10_findPairs_301 : decode cX10_findPairs 301 = .ok (.return_, 1) := by decide +kernel
theorem dX10_pairs_0 : decode cX10_pairs 0 = .ok (.iload_n 1, 1) := by decide +kernel
theorem dX10_pairs_1 : decode cX10_pairs 1 = .ok (.bipush (-2), 2) := by decide +kernel
theorem dX10_pairs_3 : decode cX10_pairs 3 = .ok (.aload_n 0, 1) := by decide +kernel
theorem dX10_pairs_4 : decode cX10_pairs 4 = .ok (.getfield 17, 3) := by decide +kernel
theorem dX10_pairs_7 : decode cX10_pairs 7 = .ok (.iconst 1, 1) := by decide +kernel
theorem dX10_pairs_8 : decode cX10_pairs 8 = .ok (.iaload, 1) := by decide +kernel
theorem dX10_pairs_9 : decode cX10_pairs 9 = .ok (.iconst 1, 1) := by decide +kernel
theorem dX10_pairs_10 : decode cX10_pairs 10 = .ok (.isub, 1) := by decide +kernel
theorem dX10_pairs_11 : decode cX10_pairs 11 = .ok (.invokestatic 90, 3) := by decide +kernel
theorem dX10_pairs_14 : decode cX10_pairs 14 = .ok (.ifCond .ne 5, 3) := by decide +kernel
theorem dX10_pairs_19 : decode cX10_pairs 19 = .ok (.aload_n 0, 1) := by decide +kernel
theorem kw1049 : Cond.code yX10_findPairs cX10_findPairs 6 none ∈ Tg := mem_Tg (List.mem_append_right _ (List.mem_of_getElem? (i := 1049) (by decide +kernel))) (by decide +kernel)
theorem dX10_pairs_20 : decode cX10_pairs 20 = .ok (.invokevirtual 224, 3) := by decide +kernel
theorem dX10_pairs_23 : decode cX10_pairs 23 = .ok (.aload_n 0, 1) := by decide +kernel
theorem dX10_pairs_24 : decode cX10_pairs 24 = .ok (.getfield 53, 3) := by decide +kernel
theorem dX10_pairs_27 : decode cX10_pairs 27 = .ok (.iconst 0, 1) := by decide +kernel
theorem dX10_pairs_28 : decode cX10_pairs 28 = .ok (.iaload, 1) := by decide +kernel
theorem dX10_pairs_29 : decode cX10_pairs 29 = .ok (.bipush 99, 2) := by decide +kernel
theorem dX10_pairs_31 : decode cX10_pairs 31 = .ok (.iadd, 1) := by decide +kernel
theorem dX10_pairs_32 : decode cX10_pairs 32 = .ok (.bipush 100, 2) := by decide +kernel
theorem dX10_pairs_34 : decode cX10_pairs 34 = .ok (.idiv, 1) := by decide +kernel
theorem dX10_pairs_35 : decode cX10_pairs 35 = .ok (.istore_n 2, 1) := by decide +kernel
theorem dX10_pairs_36 : decode cX10_pairs 36 = .ok (.iload_n 1, 1) := by decide +kernel
theorem dX10_pairs_37 : decode cX10_pairs 37 = .ok (.iconst (-1), 1) := by decide +kernel
theorem dX10_pairs_38 : decode cX10_pairs 38 = .ok (.if_icmp .ne 7, 3) := by decide +kernel
theorem dX10_pairs_45 : decode cX10_pairs 45 = .ok (.iload_n 1, 1) := by decide +kernel
theorem dX10_pairs_46 : decode cX10_pairs 46 = .ok (.bipush (-2), 2) := by decide +kernel
theorem dX10_pairs_48 : decode cX10_pairs 48 = .ok (.if_icmp .ne 17, 3) := by decide +kernel
theorem dX10_pairs_65 : decode cX10_pairs 65 = .ok (.aload_n 0, 1) := by decide +kernel
theorem dX10_pairs_66 : decode cX10_pairs 66 = .ok (.getfield 56, 3) := by decide +kernel
theorem dX10_pairs_69 : decode cX10_pairs 69 = .ok (.iload_n 1, 1) := by decide +kernel
theorem dX10_pairs_70 : decode cX10_pairs 70 = .ok (.iaload, 1) := by decide +kernel
theorem dX10_pairs_71 : decode cX10_pairs 71 = .ok (.ireturn, 1) := by decide +kernel
theorem dX10_pairs_51 : decode cX10_pairs 51 = .ok (.bipush 100, 2) := by decide +kernel
theorem dX10_pairs_53 : decode cX10_pairs 53 = .ok (.iload_n 2, 1) := by decide +kernel
theorem dX10_pairs_54 : decode cX10_pairs 54 = .ok (.imul, 1) := by decide +kernel
theorem dX10_pairs_55 : decode cX10_pairs 55 = .ok (.aload_n 0, 1) := by decide +kernel
theorem dX10_pairs_56 : decode cX10_pairs 56 = .ok (.getfield 53, 3) := by decide +kernel
theorem dX10_pairs_59 : decode cX10_pairs 59 = .ok (.iconst 0, 1) := by decide +kernel
theorem dX10_pairs_60 : decode cX10_pairs 60 = .ok (.iaload, 1) := by decide +kernel
theorem dX10_pairs_61 : decode cX10_pairs 61 = .ok (.isub, 1) := by decide +kernel
theorem dX10_pairs_62 : decode cX10_pairs 62 = .ok (.goto 9, 3) := by decide +kernel
theorem dX10_pairs_41 : decode cX10_pairs 41 = .ok (.iload_n 2, 1) := by decide +kernel
theorem dX10_pairs_42 : decode cX10_pairs 42 = .ok (.goto 29, 3) := by decide +kernel
theorem dX10_pairs_17 : decode cX10_pairs 17 = .ok (.iconst (-1), 1) := by decide +kernel
theorem dX10_pairs_18 : decode cX10_pairs 18 = .ok (.ireturn, 1) := by decide +kernel
theorem dX10_leftOver_0 : decode cX10_leftOver 0 = .ok (.iload_n 1, 1) := by decide +kernel
theorem dX10_leftOver_1 : decode cX10_leftOver 1 = .ok (.iconst 0, 1) := by decide +kernel
theorem dX10_leftOver_2 : decode cX10_leftOver 2 = .ok (.iconst 1, 1) := by decide +kernel
theorem dX10_leftOver_3 : decode cX10_leftOver 3 = .ok (.invokestatic 90, 3) := by decide +kernel
theorem dX10_leftOver_6 : decode cX10_leftOver 6 = .ok (.ifCond .ne 5, 3) := by decide +kernel
theorem dX10_leftOver_11 : decode cX10_leftOver 11 = .ok (.aload_n 0, 1) := by decide +kernel
theorem dX10_leftOver_12 : decode cX10_leftOver 12 = .ok (.invokevirtual 224, 3) := by decide +kernel
theorem dX10_leftOver_15 : decode cX10_leftOver 15 = .ok (.iconst 0, 1) := by decide +kernel
theorem dX10_leftOver_16 : decode cX10_leftOver 16 = .ok (.istore_n 2, 1) := by decide +kernel
theorem dX10_leftOver_17 : decode cX10_leftOver 17 = .ok (.iconst 0, 1) := by decide +kernel
theorem dX10_leftOver_18 : decode cX10_leftOver 18 = .ok (.istore_n 3, 1) := by decide +kernel
theorem dX10_leftOver_19 : decode cX10_leftOver 19 = .ok (.iload_n 3, 1) := by decide +kernel
theorem dX10_leftOver_20 : decode cX10_leftOver 20 = .ok (.aload_n 0, 1) := by decide +kernel
theorem dX10_leftOver_21 : decode cX10_leftOver 21 = .ok (.getfield 17, 3) := by decide +kernel
theorem dX10_leftOver_24 : decode cX10_leftOver 24 = .ok (.iconst 1, 1) := by decide +kernel
theorem dX10_leftOver_25 : decode cX10_leftOver 25 = .ok (.iaload, 1) := by decide +kernel
theorem dX10_leftOver_26 : decode cX10_leftOver 26 = .ok (.if_icmp .ge 35, 3) := by decide +kernel
theorem dX10_leftOver_29 : decode cX10_leftOver 29 = .ok (.iload_n 2, 1) := by decide +kernel
theorem dX10_leftOver_30 : decode cX10_leftOver 30 = .ok (.aload_n 0, 1) := by decide +kernel
theorem dX10_leftOver_31 : decode cX10_leftOver 31 = .ok (.iload_n 3, 1) := by decide +kernel
theorem dX10_leftOver_32 : decode cX10_leftOver 32 = .ok (.invokevirtual 175, 3) := by decide +kernel
theorem dX10_leftOver_35 : decode cX10_leftOver 35 = .ok (.iload_n 1, 1) := by decide +kernel
theorem dX10_leftOver_36 : decode cX10_leftOver 36 = .ok (.if_icmp .ne 16, 3) := by decide +kernel
theorem dX10_leftOver_52 : decode cX10_leftOver 52 = .ok (.iconst 0, 1) := by decide +kernel
theorem dX10_leftOver_53 : decode cX10_leftOver 53 = .ok (.iadd, 1) := by decide +kernel
theorem dX10_leftOver_54 : decode cX10_leftOver 54 = .ok (.istore_n 2, 1) := by decide +kernel
theorem dX10_leftOver_55 : decode cX10_leftOver 55 = .ok (.iinc 3 1, 3) := by decide +kernel
theorem dX10_leftOver_58 : decode cX10_leftOver 58 = .ok (.goto (-39), 3) := by decide +kernel
theorem dX10_leftOver_39 : decode cX10_leftOver 39 = .ok (.aload_n 0, 1) := by decide +kernel
theorem dX10_leftOver_40 : decode cX10_leftOver 40 = .ok (.getfield 56, 3) := by decide +kernel
theorem dX10_leftOver_43 : decode cX10_leftOver 43 = .ok (.iload_n 3, 1) := by decide +kernel
theorem dX10_leftOver_44 : decode cX10_leftOver 44 = .ok (.iaload, 1) := by decide +kernel
theorem dX10_leftOver_45 : decode cX10_leftOver 45 = .ok (.ifCond .ge 7, 3) := by decide +kernel
theorem dX10_leftOver_48 : decode cX10_leftOver 48 = .ok (.iconst 1, 1) := by decide +kernel
theorem dX10_leftOver_49 : decode cX10_leftOver 49 = .ok (.goto 4, 3) := by decide +kernel
theorem dX10_leftOver_61 : decode cX10_leftOver 61 = .ok (.iload_n 2, 1) := by decide +kernel
theorem dX10_leftOver_62 : decode cX10_leftOver 62 = .ok (.ireturn, 1) := by decide +kernel
theorem dX10_leftOver_9 : decode cX10_leftOver 9 = .ok (.iconst (-1), 1) := by decide +kernel
theorem dX10_leftOver_10 : decode cX10_leftOver 10 = .ok (.ireturn, 1) := by decide +kernel
theorem dX10_fits_0 : decode cX10_fits 0 = .ok (.aload_n 0, 1) := by decide +kernel
theorem dX10_fits_1 : decode cX10_fits 1 = .ok (.getfield 7, 3) := by decide +kernel
theorem dX10_fits_4 : decode cX10_fits 4 = .ok (.iconst 2, 1) := by decide +kernel
theorem dX10_fits_5 : decode cX10_fits 5 = .ok (.iload_n 2, 1) := by decide +kernel
theorem dX10_fits_6 : decode cX10_fits 6 = .ok (.imul, 1) := by decide +kernel
theorem dX10_fits_7 : decode cX10_fits 7 = .ok (.iload_n 3, 1) := by decide +kernel
theorem dX10_fits_8 : decode cX10_fits 8 = .ok (.iadd, 1) := by decide +kernel
theorem dX10_fits_9 : decode cX10_fits 9 = .ok (.iaload, 1) := by decide +kernel
theorem dX10_fits_10 : decode cX10_fits 10 = .ok (.aload_n 0, 1) := by decide +kernel
theorem dX10_fits_11 : decode cX10_fits 11 = .ok (.getfield 157, 3) := by decide +kernel
theorem dX10_fits_14 : decode cX10_fits 14 = .ok (.iadd, 1) := by decide +kernel
theorem dX10_fits_15 : decode cX10_fits 15 = .ok (.istore 4, 2) := by decide +kernel
theorem dX10_fits_17 : decode cX10_fits 17 = .ok (.aload_n 0, 1) := by decide +kernel
theorem dX10_fits_18 : decode cX10_fits 18 = .ok (.iload_n 1, 1) := by decide +kernel
theorem dX10_fits_19 : decode cX10_fits 19 = .ok (.invokevirtual 175, 3) := by decide +kernel
theorem dX10_fits_22 : decode cX10_fits 22 = .ok (.iload_n 3, 1) := by decide +kernel
theorem dX10_fits_23 : decode cX10_fits 23 = .ok (.if_icmp .ne 24, 3) := by decide +kernel
theorem dX10_fits_47 : decode cX10_fits 47 = .ok (.iconst 0, 1) := by decide +kernel
theorem dX10_fits_48 : decode cX10_fits 48 = .ok (.ireturn, 1) := by decide +kernel
theorem dX10_fits_26 : decode cX10_fits 26 = .ok (.aload_n 0, 1) := by decide +kernel
theorem dX10_fits_27 : decode cX10_fits 27 = .ok (.iload_n 1, 1) := by decide +kernel
theorem dX10_fits_28 : decode cX10_fits 28 = .ok (.invokevirtual 178, 3) := by decide +kernel
theorem dX10_fits_31 : decode cX10_fits 31 = .ok (.iload 4, 2) := by decide +kernel
theorem dX10_fits_33 : decode cX10_fits 33 = .ok (.iload 4, 2) := by decide +kernel
theorem dX10_fits_35 : decode cX10_fits 35 = .ok (.iconst 4, 1) := by decide +kernel
theorem dX10_fits_36 : decode cX10_fits 36 = .ok (.iadd, 1) := by decide +kernel
theorem dX10_fits_37 : decode cX10_fits 37 = .ok (.invokestatic 90, 3) := by decide +kernel
theorem dX10_fits_40 : decode cX10_fits 40 = .ok (.ifCond .eq 7, 3) := by decide +kernel
theorem dX10_fits_43 : decode cX10_fits 43 = .ok (.iconst 1, 1) := by decide +kernel
theorem dX10_fits_44 : decode cX10_fits 44 = .ok (.goto 4, 3) := by decide +kernel
theorem dX10_serveMore_0 : decode cX10_serveMore 0 = .ok (.iconst 0, 1) := by decide +kernel
theorem dX10_serveMore_1 : decode cX10_serveMore 1 = .ok (.istore_n 3, 1) := by decide +kernel
theorem dX10_serveMore_2 : decode cX10_serveMore 2 = .ok (.iload_n 3, 1) := by decide +kernel
theorem dX10_serveMore_3 : decode cX10_serveMore 3 = .ok (.aload_n 0, 1) := by decide +kernel
theorem dX10_serveMore_4 : decode cX10_serveMore 4 = .ok (.getfield 17, 3) := by decide +kernel
theorem dX10_serveMore_7 : decode cX10_serveMore 7 = .ok (.iconst 1, 1) := by decide +kernel
theorem dX10_serveMore_8 : decode cX10_serveMore 8 = .ok (.iaload, 1) := by decide +kernel
theorem dX10_serveMore_9 : decode cX10_serveMore 9 = .ok (.if_icmp .ge 144, 3) := by decide +kernel
theorem dX10_serveMore_12 : decode cX10_serveMore 12 = .ok (.iconst 0, 1) := by decide +kernel
theorem dX10_serveMore_13 : decode cX10_serveMore 13 = .ok (.istore 4, 2) := by decide +kernel
theorem dX10_serveMore_15 : decode cX10_serveMore 15 = .ok (.iload 4, 2) := by decide +kernel
theorem dX10_serveMore_17 : decode cX10_serveMore 17 = .ok (.aload_n 0, 1) := by decide +kernel
theorem dX10_serveMore_18 : decode cX10_serveMore 18 = .ok (.getfield 17, 3) := by decide +kernel
theorem dX10_serveMore_21 : decode cX10_serveMore 21 = .ok (.iconst 1, 1) := by decide +kernel
theorem dX10_serveMore_22 : decode cX10_serveMore 22 = .ok (.iaload, 1) := by decide +kernel
theorem dX10_serveMore_23 : decode cX10_serveMore 23 = .ok (.if_icmp .ge 124, 3) := by decide +kernel
theorem dX10_serveMore_26 : decode cX10_serveMore 26 = .ok (.iload_n 2, 1) := by decide +kernel
theorem dX10_serveMore_27 : decode cX10_serveMore 27 = .ok (.iload_n 3, 1) := by decide +kernel
theorem dX10_serveMore_28 : decode cX10_serveMore 28 = .ok (.invokestatic 211, 3) := by decide +kernel
theorem dX10_serveMore_31 : decode cX10_serveMore 31 = .ok (.ifCond .ne 47, 3) := by decide +kernel
theorem dX10_serveMore_78 : decode cX10_serveMore 78 = .ok (.iconst 0, 1) := by decide +kernel
theorem dX10_serveMore_79 : decode cX10_serveMore 79 = .ok (.istore 5, 2) := by decide +kernel
theorem dX10_serveMore_81 : decode cX10_serveMore 81 = .ok (.iload 5, 2) := by decide +kernel
theorem dX10_serveMore_83 : decode cX10_serveMore 83 = .ok (.ifCond .eq 58, 3) := by decide +kernel
theorem dX10_serveMore_141 : decode cX10_serveMore 141 = .ok (.iinc 4 1, 3) := by decide +kernel
theorem dX10_serveMore_144 : decode cX10_serveMore 144 = .ok (.goto (-129), 3) := by decide +kernel
theorem dX10_serveMore_34 : decode cX10_serveMore 34 = .ok (.iload_n 2, 1) := by decide +kernel
theorem dX10_serveMore_35 : decode cX10_serveMore 35 = .ok (.iload 4, 2) := by decide +kernel
theorem dX10_serveMore_37 : decode cX10_serveMore 37 = .ok (.invokestatic 211, 3) := by decide +kernel
theorem dX10_serveMore_40 : decode cX10_serveMore 40 = .ok (.ifCond .ne 38, 3) := by decide +kernel
theorem dX10_serveMore_43 : decode cX10_serveMore 43 = .ok (.aload_n 0, 1) := by decide +kernel
theorem dX10_serveMore_44 : decode cX10_serveMore 44 = .ok (.iload_n 3, 1) := by decide +kernel
theorem dX10_serveMore_45 : decode cX10_serveMore 45 = .ok (.iload_n 1, 1) := by decide +kernel
theorem dX10_serveMore_46 : decode cX10_serveMore 46 = .ok (.iconst 0, 1) := by decide +kernel
theorem kw1080 : Cond.code yX10_fits cX10_fits 5 (some .boolean) ∈ Tg := mem_Tg (List.mem_append_right _ (List.mem_of_getElem? (i := 1080) (by decide +kernel))) (by decide +kernel)
theorem dX10_serveMore_47 : decode cX10_serveMore 47 = .ok (.invokevirtual 230, 3) := by decide +kernel
theorem dX10_serveMore_50 : decode cX10_serveMore 50 = .ok (.ifCond .eq 28, 3) := by decide +kernel
theorem dX10_serveMore_53 : decode cX10_serveMore 53 = .ok (.aload_n 0, 1) := by decide +kernel
theorem dX10_serveMore_54 : decode cX10_serveMore 54 = .ok (.iload 4, 2) := by decide +kernel
theorem dX10_serveMore_56 : decode cX10_serveMore 56 = .ok (.iload_n 1, 1) := by decide +kernel
theorem dX10_serveMore_57 : decode cX10_serveMore 57 = .ok (.iconst 1, 1) := by decide +kernel
theorem dX10_serveMore_58 : decode cX10_serveMore 58 = .ok (.invokevirtual 230, 3) := by decide +kernel
theorem dX10_serveMore_61 : decode cX10_serveMore 61 = .ok (.ifCond .eq 17, 3) := by decide +kernel
theorem dX10_serveMore_64 : decode cX10_serveMore 64 = .ok (.aload_n 0, 1) := by decide +kernel
theorem dX10_serveMore_65 : decode cX10_serveMore 65 = .ok (.iload_n 3, 1) := by decide +kernel
theorem dX10_serveMore_66 : decode cX10_serveMore 66 = .ok (.iload 4, 2) := by decide +kernel
theorem dX10_serveMore_68 : decode cX10_serveMore 68 = .ok (.invokevirtual 197, 3) := by decide +kernel
theorem dX10_serveMore_71 : decode cX10_serveMore 71 = .ok (.ifCond .eq 7, 3) := by decide +kernel
theorem dX10_serveMore_74 : decode cX10_serveMore 74 = .ok (.iconst 1, 1) := by decide +kernel
theorem dX10_serveMore_75 : decode cX10_serveMore 75 = .ok (.goto 4, 3) := by decide +kernel
theorem dX10_serveMore_86 : decode cX10_serveMore 86 = .ok (.iload_n 2, 1) := by decide +kernel
theorem dX10_serveMore_87 : decode cX10_serveMore 87 = .ok (.iconst 1, 1) := by decide +kernel
theorem dX10_serveMore_88 : decode cX10_serveMore 88 = .ok (.iload_n 3, 1) := by decide +kernel
theorem dX10_serveMore_89 : decode cX10_serveMore 89 = .ok (.ishl, 1) := by decide +kernel
theorem dX10_serveMore_90 : decode cX10_serveMore 90 = .ok (.ior, 1) := by decide +kernel
theorem dX10_serveMore_91 : decode cX10_serveMore 91 = .ok (.iconst 1, 1) := by decide +kernel
theorem dX10_serveMore_92 : decode cX10_serveMore 92 = .ok (.iload 4, 2) := by decide +kernel
theorem dX10_serveMore_94 : decode cX10_serveMore 94 = .ok (.ishl, 1) := by decide +kernel
theorem dX10_serveMore_95 : decode cX10_serveMore 95 = .ok (.ior, 1) := by decide +kernel
theorem dX10_serveMore_96 : decode cX10_serveMore 96 = .ok (.istore 6, 2) := by decide +kernel
theorem dX10_serveMore_98 : decode cX10_serveMore 98 = .ok (.aload_n 0, 1) := by decide +kernel
theorem dX10_serveMore_99 : decode cX10_serveMore 99 = .ok (.getfield 59, 3) := by decide +kernel
theorem dX10_serveMore_102 : decode cX10_serveMore 102 = .ok (.iload 6, 2) := by decide +kernel
theorem dX10_serveMore_104 : decode cX10_serveMore 104 = .ok (.aload_n 0, 1) := by decide +kernel
theorem dX10_serveMore_105 : decode cX10_serveMore 105 = .ok (.getfield 59, 3) := by decide +kernel
theorem dX10_serveMore_108 : decode cX10_serveMore 108 = .ok (.iload_n 2, 1) := by decide +kernel
theorem dX10_serveMore_109 : decode cX10_serveMore 109 = .ok (.iaload, 1) := by decide +kernel
theorem dX10_serveMore_110 : decode cX10_serveMore 110 = .ok (.iconst 1, 1) := by decide +kernel
theorem dX10_serveMore_111 : decode cX10_serveMore 111 = .ok (.iadd, 1) := by decide +kernel
theorem dX10_serveMore_112 : decode cX10_serveMore 112 = .ok (.aload_n 0, 1) := by decide +kernel
theorem dX10_serveMore_113 : decode cX10_serveMore 113 = .ok (.getfield 59, 3) := by decide +kernel
theorem dX10_serveMore_116 : decode cX10_serveMore 116 = .ok (.iload 6, 2) := by decide +kernel
theorem dX10_serveMore_118 : decode cX10_serveMore 118 = .ok (.iaload, 1) := by decide +kernel
theorem dX10_serveMore_119 : decode cX10_serveMore 119 = .ok (.if_icmp .le 14, 3) := by decide +kernel
theorem dX10_serveMore_133 : decode cX10_serveMore 133 = .ok (.aload_n 0, 1) := by decide +kernel
theorem dX10_serveMore_134 : decode cX10_serveMore 134 = .ok (.getfield 59, 3) := by decide +kernel
theorem dX10_serveMore_137 : decode cX10_serveMore 137 = .ok (.iload 6, 2) := by decide +kernel
theorem dX10_serveMore_139 : decode cX10_serveMore 139 = .ok (.iaload, 1) := by decide +kernel
theorem dX10_serveMore_140 : decode cX10_serveMore 140 = .ok (.iastore, 1) := by decide +kernel
theorem dX10_serveMore_122 : decode cX10_serveMore 122 = .ok (.aload_n 0, 1) := by decide +kernel
theorem dX10_serveMore_123 : decode cX10_serveMore 123 = .ok (.getfield 59, 3) := by decide +kernel
theorem dX10_serveMore_126 : decode cX10_serveMore 126 = .ok (.iload_n 2, 1) := by decide +kernel
theorem dX10_serveMore_127 : decode cX10_serveMore 127 = .ok (.iaload, 1) := by decide +kernel
theorem dX10_serveMore_128 : decode cX10_serveMore 128 = .ok (.iconst 1, 1) := by decide +kernel
theorem dX10_serveMore_129 : decode cX10_serveMore 129 = .ok (.iadd, 1) := by decide +kernel
theorem dX10_serveMore_130 : decode cX10_serveMore 130 = .ok (.goto 10, 3) := by decide +kernel
theorem dX10_serveMore_147 : decode cX10_serveMore 147 = .ok (.iinc 3 1, 3) := by decide +kernel
theorem dX10_serveMore_150 : decode cX10_serveMore 150 = .ok (.goto (-148), 3) := by decide +kernel
theorem dX10_serveMore_153 : decode cX10_serveMore 153 = .ok (.return_, 1) := by decide +kernel
theorem dX10_served_0 : decode cX10_served 0 = .ok (.aload_n 0, 1) := by decide +kernel
theorem dX10_served_1 : decode cX10_served 1 = .ok (.invokevirtual 191, 3) := by decide +kernel
theorem dX10_served_4 : decode cX10_served 4 = .ok (.iconst 1, 1) := by decide +kernel
theorem dX10_served_5 : decode cX10_served 5 = .ok (.aload_n 0, 1) := by decide +kernel
theorem dX10_served_6 : decode cX10_served 6 = .ok (.getfield 17, 3) := by decide +kernel
theorem dX10_served_9 : decode cX10_served 9 = .ok (.iconst 1, 1) := by decide +kernel
theorem dX10_served_10 : decode cX10_served 10 = .ok (.iaload, 1) := by decide +kernel
theorem dX10_served_11 : decode cX10_served 11 = .ok (.ishl, 1) := by decide +kernel
theorem dX10_served_12 : decode cX10_served 12 = .ok (.istore_n 1, 1) := by decide +kernel
theorem dX10_served_13 : decode cX10_served 13 = .ok (.iconst 0, 1) := by decide +kernel
theorem dX10_served_14 : decode cX10_served 14 = .ok (.istore_n 2, 1) := by decide +kernel
theorem dX10_served_15 : decode cX10_served 15 = .ok (.iload_n 2, 1) := by decide +kernel
theorem dX10_served_16 : decode cX10_served 16 = .ok (.iload_n 1, 1) := by decide +kernel
theorem dX10_served_17 : decode cX10_served 17 = .ok (.if_icmp .ge 24, 3) := by decide +kernel
theorem dX10_served_20 : decode cX10_served 20 = .ok (.aload_n 0, 1) := by decide +kernel
theorem dX10_served_21 : decode cX10_served 21 = .ok (.getfield 59, 3) := by decide +kernel
theorem dX10_served_24 : decode cX10_served 24 = .ok (.iload_n 2, 1) := by decide +kernel
theorem dX10_served_25 : decode cX10_served 25 = .ok (.iload_n 2, 1) := by decide +kernel
theorem dX10_served_26 : decode cX10_served 26 = .ok (.ifCond .ne 7, 3) := by decide +kernel
theorem dX10_served_33 : decode cX10_served 33 = .ok (.iconst (-1), 1) := by decide +kernel
theorem dX10_served_34 : decode cX10_served 34 = .ok (.iastore, 1) := by decide +kernel
theorem dX10_served_35 : decode cX10_served 35 = .ok (.iinc 2 1, 3) := by decide +kernel
theorem dX10_served_38 : decode cX10_served 38 = .ok (.goto (-23), 3) := by decide +kernel
theorem dX10_served_29 : decode cX10_served 29 = .ok (.iconst 0, 1) := by decide +kernel
theorem dX10_served_30 : decode cX10_served 30 = .ok (.goto 4, 3) := by decide +kernel
theorem dX10_served_41 : decode cX10_served 41 = .ok (.iconst 0, 1) := by decide +kernel
theorem dX10_served_42 : decode cX10_served 42 = .ok (.istore_n 2, 1) := by decide +kernel
theorem dX10_served_43 : decode cX10_served 43 = .ok (.iload_n 2, 1) := by decide +kernel
theorem dX10_served_44 : decode cX10_served 44 = .ok (.aload_n 0, 1) := by decide +kernel
theorem dX10_served_45 : decode cX10_served 45 = .ok (.getfield 148, 3) := by decide +kernel
theorem dX10_served_48 : decode cX10_served 48 = .ok (.if_icmp .ge 38, 3) := by decide +kernel
theorem dX10_served_51 : decode cX10_served 51 = .ok (.iload_n 1, 1) := by decide +kernel
theorem dX10_served_52 : decode cX10_served 52 = .ok (.iconst 1, 1) := by decide +kernel
theorem dX10_served_53 : decode cX10_served 53 = .ok (.isub, 1) := by decide +kernel
theorem dX10_served_54 : decode cX10_served 54 = .ok (.istore_n 3, 1) := by decide +kernel
theorem dX10_served_55 : decode cX10_served 55 = .ok (.iload_n 3, 1) := by decide +kernel
theorem dX10_served_56 : decode cX10_served 56 = .ok (.ifCond .lt 24, 3) := by decide +kernel
theorem dX10_served_59 : decode cX10_served 59 = .ok (.aload_n 0, 1) := by decide +kernel
theorem dX10_served_60 : decode cX10_served 60 = .ok (.getfield 59, 3) := by decide +kernel
theorem dX10_served_63 : decode cX10_served 63 = .ok (.iload_n 3, 1) := by decide +kernel
theorem dX10_served_64 : decode cX10_served 64 = .ok (.iaload, 1) := by decide +kernel
theorem dX10_served_65 : decode cX10_served 65 = .ok (.ifCond .lt 9, 3) := by decide +kernel
theorem dX10_served_74 : decode cX10_served 74 = .ok (.iinc 3 (-1), 3) := by decide +kernel
theorem dX10_served_77 : decode cX10_served 77 = .ok (.goto (-22), 3) := by decide +kernel
theorem dX10_served_68 : decode cX10_served 68 = .ok (.aload_n 0, 1) := by decide +kernel
theorem dX10_served_69 : decode cX10_served 69 = .ok (.iload_n 2, 1) := by decide +kernel
theorem dX10_served_70 : decode cX10_served 70 = .ok (.iload_n 3, 1) := by decide +kernel
theorem kw1076 : Cond.code yX10_serveMore cX10_serveMore 7 none ∈ Tg := mem_Tg (List.mem_append_right _ (List.mem_of_getElem? (i := 1076) (by decide +kernel))) (by decide +kernel)
theorem dX10_served_71 : decode cX10_served 71 = .ok (.invokevirtual 227, 3) := by decide +kernel
theorem dX10_served_80 : decode cX10_served 80 = .ok (.iinc 2 1, 3) := by decide +kernel
theorem dX10_served_83 : decode cX10_served 83 = .ok (.goto (-40), 3) := by decide +kernel
theorem dX10_served_86 : decode cX10_served 86 = .ok (.iconst 0, 1) := by decide +kernel
theorem dX10_served_87 : decode cX10_served 87 = .ok (.istore_n 2, 1) := by decide +kernel
theorem dX10_served_88 : decode cX10_served 88 = .ok (.iconst 0, 1) := by decide +kernel
theorem dX10_served_89 : decode cX10_served 89 = .ok (.istore_n 3, 1) := by decide +kernel
theorem dX10_served_90 : decode cX10_served 90 = .ok (.iload_n 3, 1) := by decide +kernel
theorem dX10_served_91 : decode cX10_served 91 = .ok (.iload_n 1, 1) := by decide +kernel
theorem dX10_served_92 : decode cX10_served 92 = .ok (.if_icmp .ge 30, 3) := by decide +kernel
theorem dX10_served_95 : decode cX10_served 95 = .ok (.aload_n 0, 1) := by decide +kernel
theorem dX10_served_96 : decode cX10_served 96 = .ok (.getfield 59, 3) := by decide +kernel
theorem dX10_served_99 : decode cX10_served 99 = .ok (.iload_n 3, 1) := by decide +kernel
theorem dX10_served_100 : decode cX10_served 100 = .ok (.iaload, 1) := by decide +kernel
theorem dX10_served_101 : decode cX10_served 101 = .ok (.iload_n 2, 1) := by decide +kernel
theorem dX10_served_102 : decode cX10_served 102 = .ok (.if_icmp .le 12, 3) := by decide +kernel
theorem dX10_served_114 : decode cX10_served 114 = .ok (.iload_n 2, 1) := by decide +kernel
theorem dX10_served_115 : decode cX10_served 115 = .ok (.istore_n 2, 1) := by decide +kernel
theorem dX10_served_116 : decode cX10_served 116 = .ok (.iinc 3 1, 3) := by decide +kernel
theorem dX10_served_119 : decode cX10_served 119 = .ok (.goto (-29), 3) := by decide +kernel
theorem dX10_served_105 : decode cX10_served 105 = .ok (.aload_n 0, 1) := by decide +kernel
theorem dX10_served_106 : decode cX10_served 106 = .ok (.getfield 59, 3) := by decide +kernel
theorem dX10_served_109 : decode cX10_served 109 = .ok (.iload_n 3, 1) := by decide +kernel
theorem dX10_served_110 : decode cX10_served 110 = .ok (.iaload, 1) := by decide +kernel
theorem dX10_served_111 : decode cX10_served 111 = .ok (.goto 4, 3) := by decide +kernel
theorem dX10_served_122 : decode cX10_served 122 = .ok (.iload_n 2, 1) := by decide +kernel
theorem dX10_served_123 : decode cX10_served 123 = .ok (.ireturn, 1) := by decide +kernel
theorem dX10_whose_0 : decode cX10_whose 0 = .ok (.aload_n 0, 1) := by decide +kernel
theorem dX10_whose_1 : decode cX10_whose 1 = .ok (.iload_n 1, 1) := by decide +kernel
theorem dX10_whose_2 : decode cX10_whose 2 = .ok (.invokevirtual 188, 3) := by decide +kernel
theorem dX10_whose_5 : decode cX10_whose 5 = .ok (.ifCond .ne 5, 3) := by decide +kernel
theorem dX10_whose_10 : decode cX10_whose 10 = .ok (.aload_n 0, 1) := by decide +kernel
theorem dX10_whose_11 : decode cX10_whose 11 = .ok (.invokevirtual 191, 3) := by decide +kernel
theorem dX10_whose_14 : decode cX10_whose 14 = .ok (.iconst 0, 1) := by decide +kernel
theorem dX10_whose_15 : decode cX10_whose 15 = .ok (.istore_n 2, 1) := by decide +kernel
theorem dX10_whose_16 : decode cX10_whose 16 = .ok (.iconst 0, 1) := by decide +kernel
theorem dX10_whose_17 : decode cX10_whose 17 = .ok (.istore_n 3, 1) := by decide +kernel
theorem dX10_whose_18 : decode cX10_whose 18 = .ok (.iload_n 3, 1) := by decide +kernel
theorem dX10_whose_19 : decode cX10_whose 19 = .ok (.aload_n 0, 1) := by decide +kernel
theorem dX10_whose_20 : decode cX10_whose 20 = .ok (.getfield 148, 3) := by decide +kernel
theorem dX10_whose_23 : decode cX10_whose 23 = .ok (.if_icmp .ge 33, 3) := by decide +kernel
theorem dX10_whose_26 : decode cX10_whose 26 = .ok (.iload_n 2, 1) := by decide +kernel
theorem dX10_whose_27 : decode cX10_whose 27 = .ok (.aload_n 0, 1) := by decide +kernel
theorem dX10_whose_28 : decode cX10_whose 28 = .ok (.iload_n 1, 1) := by decide +kernel
theorem dX10_whose_29 : decode cX10_whose 29 = .ok (.iload_n 3, 1) := by decide +kernel
theorem dX10_whose_30 : decode cX10_whose 30 = .ok (.aload_n 0, 1) := by decide +kernel
theorem dX10_whose_31 : decode cX10_whose 31 = .ok (.iload_n 1, 1) := by decide +kernel
theorem dX10_whose_32 : decode cX10_whose 32 = .ok (.invokevirtual 175, 3) := by decide +kernel
theorem dX10_whose_35 : decode cX10_whose 35 = .ok (.invokevirtual 230, 3) := by decide +kernel
theorem dX10_whose_38 : decode cX10_whose 38 = .ok (.ifCond .eq 9, 3) := by decide +kernel
theorem dX10_whose_47 : decode cX10_whose 47 = .ok (.iconst 0, 1) := by decide +kernel
theorem dX10_whose_48 : decode cX10_whose 48 = .ok (.ior, 1) := by decide +kernel
theorem dX10_whose_49 : decode cX10_whose 49 = .ok (.istore_n 2, 1) := by decide +kernel
theorem dX10_whose_50 : decode cX10_whose 50 = .ok (.iinc 3 1, 3) := by decide +kernel
theorem dX10_whose_53 : decode cX10_whose 53 = .ok (.goto (-35), 3) := by decide +kernel
theorem dX10_whose_41 : decode cX10_whose 41 = .ok (.iconst 1, 1) := by decide +kernel
theorem dX10_whose_42 : decode cX10_whose 42 = .ok (.iload_n 3, 1) := by decide +kernel
theorem dX10_whose_43 : decode cX10_whose 43 = .ok (.ishl, 1) := by decide +kernel
theorem dX10_whose_44 : decode cX10_whose 44 = .ok (.goto 4, 3) := by decide +kernel
theorem dX10_whose_56 : decode cX10_whose 56 = .ok (.iload_n 2, 1) := by decide +kernel
theorem dX10_whose_57 : decode cX10_whose 57 = .ok (.ireturn, 1) := by decide +kernel
theorem dX10_whose_8 : decode cX10_whose 8 = .ok (.iconst (-1), 1) := by decide +kernel
theorem dX10_whose_9 : decode cX10_whose 9 = .ok (.ireturn, 1) := by decide +kernel
theorem dX10_alikeBy_0 : decode cX10_alikeBy 0 = .ok (.aload_n 0, 1) := by decide +kernel
theorem dX10_alikeBy_1 : decode cX10_alikeBy 1 = .ok (.iload_n 1, 1) := by decide +kernel
theorem dX10_alikeBy_2 : decode cX10_alikeBy 2 = .ok (.invokevirtual 188, 3) := by decide +kernel
theorem dX10_alikeBy_5 : decode cX10_alikeBy 5 = .ok (.ifCond .eq 11, 3) := by decide +kernel
theorem dX10_alikeBy_16 : decode cX10_alikeBy 16 = .ok (.iconst (-1), 1) := by decide +kernel
theorem dX10_alikeBy_17 : decode cX10_alikeBy 17 = .ok (.ireturn, 1) := by decide +kernel
theorem dX10_alikeBy_8 : decode cX10_alikeBy 8 = .ok (.aload_n 0, 1) := by decide +kernel
theorem dX10_alikeBy_9 : decode cX10_alikeBy 9 = .ok (.iload_n 2, 1) := by decide +kernel
theorem dX10_alikeBy_10 : decode cX10_alikeBy 10 = .ok (.invokevirtual 188, 3) := by decide +kernel
theorem dX10_alikeBy_13 : decode cX10_alikeBy 13 = .ok (.ifCond .ne 5, 3) := by decide +kernel
theorem dX10_alikeBy_18 : decode cX10_alikeBy 18 = .ok (.aload_n 0, 1) := by decide +kernel
theorem dX10_alikeBy_19 : decode cX10_alikeBy 19 = .ok (.invokevirtual 191, 3) := by decide +kernel
theorem dX10_alikeBy_22 : decode cX10_alikeBy 22 = .ok (.aload_n 0, 1) := by decide +kernel
theorem dX10_alikeBy_23 : decode cX10_alikeBy 23 = .ok (.iload_n 1, 1) := by decide +kernel
theorem dX10_alikeBy_24 : decode cX10_alikeBy 24 = .ok (.invokevirtual 175, 3) := by decide +kernel
theorem dX10_alikeBy_27 : decode cX10_alikeBy 27 = .ok (.ifCond .ne 12, 3) := by decide +kernel
theorem dX10_alikeBy_39 : decode cX10_alikeBy 39 = .ok (.iconst (-1), 1) := by decide +kernel
theorem dX10_alikeBy_40 : decode cX10_alikeBy 40 = .ok (.ireturn, 1) := by decide +kernel
theorem dX10_alikeBy_30 : decode cX10_alikeBy 30 = .ok (.aload_n 0, 1) := by decide +kernel
theorem dX10_alikeBy_31 : decode cX10_alikeBy 31 = .ok (.iload_n 2, 1) := by decide +kernel
theorem dX10_alikeBy_32 : decode cX10_alikeBy 32 = .ok (.invokevirtual 175, 3) := by decide +kernel
theorem dX10_alikeBy_35 : decode cX10_alikeBy 35 = .ok (.iconst 1, 1) := by decide +kernel
theorem dX10_alikeBy_36 : decode cX10_alikeBy 36 = .ok (.if_icmp .eq 5, 3) := by decide +kernel
theorem dX10_alikeBy_41 : decode cX10_alikeBy 41 = .ok (.iconst 0, 1) := by decide +kernel
theorem dX10_alikeBy_42 : decode cX10_alikeBy 42 = .ok (.istore_n 3, 1) := by decide +kernel
theorem dX10_alikeBy_43 : decode cX10_alikeBy 43 = .ok (.iload_n 3, 1) := by decide +kernel
theorem dX10_alikeBy_44 : decode cX10_alikeBy 44 = .ok (.bipush 60, 2) := by decide +kernel
theorem dX10_alikeBy_46 : decode cX10_alikeBy 46 = .ok (.if_icmp .gt 30, 3) := by decide +kernel
theorem dX10_alikeBy_49 : decode cX10_alikeBy 49 = .ok (.aload_n 0, 1) := by decide +kernel
theorem dX10_alikeBy_50 : decode cX10_alikeBy 50 = .ok (.iload_n 1, 1) := by decide +kernel
theorem dX10_alikeBy_51 : decode cX10_alikeBy 51 = .ok (.iload_n 2, 1) := by decide +kernel
theorem dX10_alikeBy_52 : decode cX10_alikeBy 52 = .ok (.invokevirtual 197, 3) := by decide +kernel
theorem dX10_alikeBy_55 : decode cX10_alikeBy 55 = .ok (.ifCond .eq 5, 3) := by decide +kernel
theorem dX10_alikeBy_60 : decode cX10_alikeBy 60 = .ok (.aload_n 0, 1) := by decide +kernel
theorem dX10_alikeBy_61 : decode cX10_alikeBy 61 = .ok (.getfield 44, 3) := by decide +kernel
theorem dX10_alikeBy_64 : decode cX10_alikeBy 64 = .ok (.iconst 0, 1) := by decide +kernel
theorem dX10_alikeBy_65 : decode cX10_alikeBy 65 = .ok (.dup2, 1) := by decide +kernel
theorem dX10_alikeBy_66 : decode cX10_alikeBy 66 = .ok (.iaload, 1) := by decide +kernel
theorem dX10_alikeBy_67 : decode cX10_alikeBy 67 = .ok (.iconst 1, 1) := by decide +kernel
theorem dX10_alikeBy_68 : decode cX10_alikeBy 68 = .ok (.iadd, 1) := by decide +kernel
theorem dX10_alikeBy_69 : decode cX10_alikeBy 69 = .ok (.iastore, 1) := by decide +kernel
theorem dX10_alikeBy_70 : decode cX10_alikeBy 70 = .ok (.iinc 3 1, 3) := by decide +kernel
theorem dX10_alikeBy_73 : decode cX10_alikeBy 73 = .ok (.goto (-30), 3) := by decide +kernel
theorem dX10_alikeBy_58 : decode cX10_alikeBy 58 = .ok (.iload_n 3, 1) := by decide +kernel
theorem dX10_alikeBy_59 : decode cX10_alikeBy 59 = .ok (.ireturn, 1) := by decide +kernel
theorem dX10_alikeBy_76 : decode cX10_alikeBy 76 = .ok (.bipush (-4), 2) := by decide +kernel
theorem dX10_alikeBy_78 : decode cX10_alikeBy 78 = .ok (.ireturn, 1) := by decide +kernel
theorem dX10_dry_0 : decode cX10_dry 0 = .ok (.aload_n 0, 1) := by decide +kernel
theorem dX10_dry_1 : decode cX10_dry 1 = .ok (.iload_n 1, 1) := by decide +kernel
theorem dX10_dry_2 : decode cX10_dry 2 = .ok (.invokevirtual 188, 3) := by decide +kernel
theorem dX10_dry_5 : decode cX10_dry 5 = .ok (.ifCond .eq 12, 3) := by decide +kernel
theorem dX10_dry_17 : decode cX10_dry 17 = .ok (.iconst (-1), 1) := by decide +kernel
theorem dX10_dry_18 : decode cX10_dry 18 = .ok (.ireturn, 1) := by decide +kernel
theorem dX10_dry_8 : decode cX10_dry 8 = .ok (.iload_n 2, 1) := by decide +kernel
theorem dX10_dry_9 : decode cX10_dry 9 = .ok (.iconst 0, 1) := by decide +kernel
theorem dX10_dry_10 : decode cX10_dry 10 = .ok (.iconst 1, 1) := by decide +kernel
theorem dX10_dry_11 : decode cX10_dry 11 = .ok (.invokestatic 90, 3) := by decide +kernel
theorem dX10_dry_14 : decode cX10_dry 14 = .ok (.ifCond .ne 5, 3) := by decide +kernel
theorem dX10_dry_19 : decode cX10_dry 19 = .ok (.aload_n 0, 1) := by decide +kernel
theorem dX10_dry_20 : decode cX10_dry 20 = .ok (.invokevirtual 191, 3) := by decide +kernel
theorem dX10_dry_23 : decode cX10_dry 23 = .ok (.aload_n 0, 1) := by decide +kernel
theorem dX10_dry_24 : decode cX10_dry 24 = .ok (.getfield 44, 3) := by decide +kernel
theorem dX10_dry_27 : decode cX10_dry 27 = .ok (.iconst 0, 1) := by decide +kernel
theorem dX10_dry_28 : decode cX10_dry 28 = .ok (.dup2, 1) := by decide +kernel
theorem dX10_dry_29 : decode cX10_dry 29 = .ok (.iaload, 1) := by decide +kernel
theorem dX10_dry_30 : decode cX10_dry 30 = .ok (.bipush 30, 2) := by decide +kernel
theorem dX10_dry_32 : decode cX10_dry 32 = .ok (.iadd, 1) := by decide +kernel
theorem dX10_dry_33 : decode cX10_dry 33 = .ok (.iastore, 1) := by decide +kernel
theorem dX10_dry_34 : decode cX10_dry 34 = .ok (.aload_n 0, 1) := by decide +kernel
theorem dX10_dry_35 : decode cX10_dry 35 = .ok (.iload_n 1, 1) := by decide +kernel
theorem dX10_dry_36 : decode cX10_dry 36 = .ok (.invokevirtual 178, 3) := by decide +kernel
theorem dX10_dry_39 : decode cX10_dry 39 = .ok (.istore_n 3, 1) := by decide +kernel
theorem dX10_dry_40 : decode cX10_dry 40 = .ok (.iconst 0, 1) := by decide +kernel
theorem dX10_dry_41 : decode cX10_dry 41 = .ok (.istore 4, 2) := by decide +kernel
theorem dX10_dry_43 : decode cX10_dry 43 = .ok (.aload_n 0, 1) := by decide +kernel
theorem dX10_dry_44 : decode cX10_dry 44 = .ok (.getfield 44, 3) := by decide +kernel
theorem dX10_dry_47 : decode cX10_dry 47 = .ok (.iconst 0, 1) := by decide +kernel
theorem dX10_dry_48 : decode cX10_dry 48 = .ok (.aload_n 0, 1) := by decide +kernel
theorem dX10_dry_49 : decode cX10_dry 49 = .ok (.getfield 17, 3) := by decide +kernel
theorem dX10_dry_52 : decode cX10_dry 52 = .ok (.iconst 0, 1) := by decide +kernel
theorem dX10_dry_53 : decode cX10_dry 53 = .ok (.iaload, 1) := by decide +kernel
theorem dX10_dry_54 : decode cX10_dry 54 = .ok (.iastore, 1) := by decide +kernel
theorem dX10_dry_55 : decode cX10_dry 55 = .ok (.aload_n 0, 1) := by decide +kernel
theorem dX10_dry_56 : decode cX10_dry 56 = .ok (.iload_n 1, 1) := by decide +kernel
theorem dX10_dry_57 : decode cX10_dry 57 = .ok (.invokevirtual 178, 3) := by decide +kernel
theorem dX10_dry_60 : decode cX10_dry 60 = .ok (.iload_n 3, 1) := by decide +kernel
theorem dX10_dry_61 : decode cX10_dry 61 = .ok (.if_icmp .le 19, 3) := by decide +kernel
theorem dX10_dry_64 : decode cX10_dry 64 = .ok (.aload_n 0, 1) := by decide +kernel
theorem dX10_dry_65 : decode cX10_dry 65 = .ok (.getfield 44, 3) := by decide +kernel
theorem dX10_dry_68 : decode cX10_dry 68 = .ok (.iconst 0, 1) := by decide +kernel
theorem dX10_dry_69 : decode cX10_dry 69 = .ok (.dup2, 1) := by decide +kernel
theorem dX10_dry_70 : decode cX10_dry 70 = .ok (.iaload, 1) := by decide +kernel
theorem dX10_dry_71 : decode cX10_dry 71 = .ok (.iconst 1, 1) := by decide +kernel
theorem dX10_dry_72 : decode cX10_dry 72 = .ok (.iadd, 1) := by decide +kernel
theorem dX10_dry_73 : decode cX10_dry 73 = .ok (.iastore, 1) := by decide +kernel
theorem dX10_dry_74 : decode cX10_dry 74 = .ok (.iinc 4 1, 3) := by decide +kernel
theorem dX10_dry_77 : decode cX10_dry 77 = .ok (.goto (-22), 3) := by decide +kernel
theorem dX10_dry_80 : decode cX10_dry 80 = .ok (.iload_n 2, 1) := by decide +kernel
theorem dX10_dry_81 : decode cX10_dry 81 = .ok (.ifCond .ne 8, 3) := by decide +kernel
theorem dX10_dry_89 : decode cX10_dry 89 = .ok (.iload_n 3, 1) := by decide +kernel
theorem dX10_dry_90 : decode cX10_dry 90 = .ok (.ireturn, 1) := by decide +kernel
theorem dX10_dry_84 : decode cX10_dry 84 = .ok (.iload 4, 2) := by decide +kernel
theorem dX10_dry_86 : decode cX10_dry 86 = .ok (.goto 4, 3) := by decide +kernel
theorem dX10_isClear_0 : decode cX10_isClear 0 = .ok (.iload_n 1, 1) := by decide +kernel
theorem dX10_isClear_1 : decode cX10_isClear 1 = .ok (.aload_n 0, 1) := by decide +kernel
theorem dX10_isClear_2 : decode cX10_isClear 2 = .ok (.getfield 154, 3) := by decide +kernel
theorem dX10_isClear_5 : decode cX10_isClear 5 = .ok (.iadd, 1) := by decide +kernel
theorem dX10_isClear_6 : decode cX10_isClear 6 = .ok (.aload_n 0, 1) := by decide +kernel
theorem dX10_isClear_7 : decode cX10_isClear 7 = .ok (.getfield 151, 3) := by decide +kernel
theorem dX10_isClear_10 : decode cX10_isClear 10 = .ok (.if_icmp .gt 7, 3) := by decide +kernel
theorem dX10_isClear_17 : decode cX10_isClear 17 = .ok (.iconst 0, 1) := by decide +kernel
theorem dX10_isClear_18 : decode cX10_isClear 18 = .ok (.istore_n 2, 1) := by decide +kernel
theorem dX10_isClear_19 : decode cX10_isClear 19 = .ok (.iconst 0, 1) := by decide +kernel
theorem dX10_isClear_20 : decode cX10_isClear 20 = .ok (.istore_n 3, 1) := by decide +kernel
theorem dX10_isClear_21 : decode cX10_isClear 21 = .ok (.iload_n 3, 1) := by decide +kernel
theorem dX10_isClear_22 : decode cX10_isClear 22 = .ok (.aload_n 0, 1) := by decide +kernel
theorem dX10_isClear_23 : decode cX10_isClear 23 = .ok (.getfield 154, 3) := by decide +kernel
theorem dX10_isClear_26 : decode cX10_isClear 26 = .ok (.if_icmp .ge 42, 3) := by decide +kernel
theorem dX10_isClear_29 : decode cX10_isClear 29 = .ok (.iload_n 2, 1) := by decide +kernel
theorem dX10_isClear_30 : decode cX10_isClear 30 = .ok (.ifCond .eq 30, 3) := by decide +kernel
theorem dX10_isClear_60 : decode cX10_isClear 60 = .ok (.iconst 0, 1) := by decide +kernel
theorem dX10_isClear_61 : decode cX10_isClear 61 = .ok (.istore_n 2, 1) := by decide +kernel
theorem dX10_isClear_62 : decode cX10_isClear 62 = .ok (.iinc 3 1, 3) := by decide +kernel
theorem dX10_isClear_65 : decode cX10_isClear 65 = .ok (.goto (-44), 3) := by decide +kernel
theorem dX10_isClear_33 : decode cX10_isClear 33 = .ok (.aload_n 0, 1) := by decide +kernel
theorem dX10_isClear_34 : decode cX10_isClear 34 = .ok (.getfield 13, 3) := by decide +kernel
theorem dX10_isClear_37 : decode cX10_isClear 37 = .ok (.iload_n 1, 1) := by decide +kernel
theorem dX10_isClear_38 : decode cX10_isClear 38 = .ok (.iload_n 3, 1) := by decide +kernel
theorem dX10_isClear_39 : decode cX10_isClear 39 = .ok (.iadd, 1) := by decide +kernel
theorem dX10_isClear_40 : decode cX10_isClear 40 = .ok (.bipush 40, 2) := by decide +kernel
theorem dX10_isClear_42 : decode cX10_isClear 42 = .ok (.if_icmp .ge 9, 3) := by decide +kernel
theorem dX10_isClear_51 : decode cX10_isClear 51 = .ok (.iconst 0, 1) := by decide +kernel
theorem dX10_isClear_52 : decode cX10_isClear 52 = .ok (.baload, 1) := by decide +kernel
theorem dX10_isClear_53 : decode cX10_isClear 53 = .ok (.ifCond .ne 7, 3) := by decide +kernel
theorem dX10_isClear_56 : decode cX10_isClear 56 = .ok (.iconst 1, 1) := by decide +kernel
theorem dX10_isClear_57 : decode cX10_isClear 57 = .ok (.goto 4, 3) := by decide +kernel
theorem dX10_isClear_45 : decode cX10_isClear 45 = .ok (.iload_n 1, 1) := by decide +kernel
theorem dX10_isClear_46 : decode cX10_isClear 46 = .ok (.iload_n 3, 1) := by decide +kernel
theorem dX10_isClear_47 : decode cX10_isClear 47 = .ok (.iadd, 1) := by decide +kernel
theorem dX10_isClear_48 : decode cX10_isClear 48 = .ok (.goto 4, 3) := by decide +kernel
theorem dX10_isClear_68 : decode cX10_isClear 68 = .ok (.iload_n 2, 1) := by decide +kernel
theorem dX10_isClear_69 : decode cX10_isClear 69 = .ok (.ireturn, 1) := by decide +kernel
theorem dX10_isClear_13 : decode cX10_isClear 13 = .ok (.iconst 1, 1) := by decide +kernel
theorem dX10_isClear_14 : decode cX10_isClear 14 = .ok (.goto 4, 3) := by decide +kernel
theorem dX10_sawn_0 : decode cX10_sawn 0 = .ok (.iload_n 1, 1) := by decide +kernel
theorem dX10_sawn_1 : decode cX10_sawn 1 = .ok (.iconst (-1), 1) := by decide +kernel
theorem dX10_sawn_2 : decode cX10_sawn 2 = .ok (.if_icmp .ge 5, 3) := by decide +kernel
theorem dX10_sawn_7 : decode cX10_sawn 7 = .ok (.iconst 0, 1) := by decide +kernel
theorem dX10_sawn_8 : decode cX10_sawn 8 = .ok (.istore_n 2, 1) := by decide +kernel
theorem dX10_sawn_9 : decode cX10_sawn 9 = .ok (.iconst 0, 1) := by decide +kernel
theorem dX10_sawn_10 : decode cX10_sawn 10 = .ok (.istore_n 3, 1) := by decide +kernel
theorem dX10_sawn_11 : decode cX10_sawn 11 = .ok (.bipush (-4), 2) := by decide +kernel
theorem dX10_sawn_13 : decode cX10_sawn 13 = .ok (.istore 4, 2) := by decide +kernel
theorem dX10_sawn_15 : decode cX10_sawn 15 = .ok (.iload_n 3, 1) := by decide +kernel
theorem dX10_sawn_16 : decode cX10_sawn 16 = .ok (.aload_n 0, 1) := by decide +kernel
theorem dX10_sawn_17 : decode cX10_sawn 17 = .ok (.getfield 151, 3) := by decide +kernel
theorem dX10_sawn_20 : decode cX10_sawn 20 = .ok (.if_icmp .ge 60, 3) := by decide +kernel
theorem dX10_sawn_23 : decode cX10_sawn 23 = .ok (.aload_n 0, 1) := by decide +kernel
theorem dX10_sawn_24 : decode cX10_sawn 24 = .ok (.iload_n 3, 1) := by decide +kernel
theorem kw1100 : Cond.code yX10_isClear cX10_isClear 4 (some .boolean) ∈ Tg := mem_Tg (List.mem_append_right _ (List.mem_of_getElem? (i := 1100) (by decide +kernel))) (by decide +kernel)
theorem dX10_sawn_25 : decode cX10_sawn 25 = .ok (.invokevirtual 233, 3) := by decide +kernel
theorem dX10_sawn_28 : decode cX10_sawn 28 = .ok (.istore 5, 2) := by decide +kernel
theorem dX10_sawn_30 : decode cX10_sawn 30 = .ok (.iload 5, 2) := by decide +kernel
theorem dX10_sawn_32 : decode cX10_sawn 32 = .ok (.ifCond .eq 12, 3) := by decide +kernel
theorem dX10_sawn_44 : decode cX10_sawn 44 = .ok (.iload 4, 2) := by decide +kernel
theorem dX10_sawn_46 : decode cX10_sawn 46 = .ok (.istore 4, 2) := by decide +kernel
theorem dX10_sawn_48 : decode cX10_sawn 48 = .ok (.iload_n 2, 1) := by decide +kernel
theorem dX10_sawn_49 : decode cX10_sawn 49 = .ok (.iload 5, 2) := by decide +kernel
theorem dX10_sawn_51 : decode cX10_sawn 51 = .ok (.ifCond .eq 7, 3) := by decide +kernel
theorem dX10_sawn_58 : decode cX10_sawn 58 = .ok (.iconst 0, 1) := by decide +kernel
theorem dX10_sawn_59 : decode cX10_sawn 59 = .ok (.iadd, 1) := by decide +kernel
theorem dX10_sawn_60 : decode cX10_sawn 60 = .ok (.istore_n 2, 1) := by decide +kernel
theorem dX10_sawn_61 : decode cX10_sawn 61 = .ok (.iload_n 3, 1) := by decide +kernel
theorem dX10_sawn_62 : decode cX10_sawn 62 = .ok (.iload 5, 2) := by decide +kernel
theorem dX10_sawn_64 : decode cX10_sawn 64 = .ok (.ifCond .eq 10, 3) := by decide +kernel
theorem dX10_sawn_74 : decode cX10_sawn 74 = .ok (.iconst 1, 1) := by decide +kernel
theorem dX10_sawn_75 : decode cX10_sawn 75 = .ok (.iadd, 1) := by decide +kernel
theorem dX10_sawn_76 : decode cX10_sawn 76 = .ok (.istore_n 3, 1) := by decide +kernel
theorem dX10_sawn_77 : decode cX10_sawn 77 = .ok (.goto (-62), 3) := by decide +kernel
theorem dX10_sawn_67 : decode cX10_sawn 67 = .ok (.aload_n 0, 1) := by decide +kernel
theorem dX10_sawn_68 : decode cX10_sawn 68 = .ok (.getfield 154, 3) := by decide +kernel
theorem dX10_sawn_71 : decode cX10_sawn 71 = .ok (.goto 4, 3) := by decide +kernel
theorem dX10_sawn_54 : decode cX10_sawn 54 = .ok (.iconst 1, 1) := by decide +kernel
theorem dX10_sawn_55 : decode cX10_sawn 55 = .ok (.goto 4, 3) := by decide +kernel
theorem dX10_sawn_35 : decode cX10_sawn 35 = .ok (.iload_n 2, 1) := by decide +kernel
theorem dX10_sawn_36 : decode cX10_sawn 36 = .ok (.iload_n 1, 1) := by decide +kernel
theorem dX10_sawn_37 : decode cX10_sawn 37 = .ok (.if_icmp .ne 7, 3) := by decide +kernel
theorem dX10_sawn_40 : decode cX10_sawn 40 = .ok (.iload_n 3, 1) := by decide +kernel
theorem dX10_sawn_41 : decode cX10_sawn 41 = .ok (.goto 5, 3) := by decide +kernel
theorem dX10_sawn_80 : decode cX10_sawn 80 = .ok (.iload_n 1, 1) := by decide +kernel
theorem dX10_sawn_81 : decode cX10_sawn 81 = .ok (.ifCond .ge 7, 3) := by decide +kernel
theorem dX10_sawn_88 : decode cX10_sawn 88 = .ok (.iload 4, 2) := by decide +kernel
theorem dX10_sawn_90 : decode cX10_sawn 90 = .ok (.ireturn, 1) := by decide +kernel
theorem dX10_sawn_84 : decode cX10_sawn 84 = .ok (.iload_n 2, 1) := by decide +kernel
theorem dX10_sawn_85 : decode cX10_sawn 85 = .ok (.goto 5, 3) := by decide +kernel
theorem dX10_sawn_5 : decode cX10_sawn 5 = .ok (.iconst (-1), 1) := by decide +kernel
theorem dX10_sawn_6 : decode cX10_sawn 6 = .ok (.ireturn, 1) := by decide +kernel
theorem dX10_sizes_0 : decode cX10_sizes 0 = .ok (.iload_n 1, 1) := by decide +kernel
theorem dX10_sizes_1 : decode cX10_sizes 1 = .ok (.iconst 1, 1) := by decide +kernel
theorem dX10_sizes_2 : decode cX10_sizes 2 = .ok (.iconst 5, 1) := by decide +kernel
theorem dX10_sizes_3 : decode cX10_sizes 3 = .ok (.invokestatic 90, 3) := by decide +kernel
theorem dX10_sizes_6 : decode cX10_sizes 6 = .ok (.ifCond .eq 12, 3) := by decide +kernel
theorem dX10_sizes_18 : decode cX10_sizes 18 = .ok (.iconst (-1), 1) := by decide +kernel
theorem dX10_sizes_19 : decode cX10_sizes 19 = .ok (.ireturn, 1) := by decide +kernel
theorem dX10_sizes_9 : decode cX10_sizes 9 = .ok (.iload_n 2, 1) := by decide +kernel
theorem dX10_sizes_10 : decode cX10_sizes 10 = .ok (.iconst 0, 1) := by decide +kernel
theorem dX10_sizes_11 : decode cX10_sizes 11 = .ok (.iconst 1, 1) := by decide +kernel
theorem dX10_sizes_12 : decode cX10_sizes 12 = .ok (.invokestatic 90, 3) := by decide +kernel
theorem dX10_sizes_15 : decode cX10_sizes 15 = .ok (.ifCond .ne 5, 3) := by decide +kernel
theorem dX10_sizes_20 : decode cX10_sizes 20 = .ok (.aload_n 0, 1) := by decide +kernel
theorem dX10_sizes_21 : decode cX10_sizes 21 = .ok (.invokevirtual 191, 3) := by decide +kernel
theorem dX10_sizes_24 : decode cX10_sizes 24 = .ok (.iconst 0, 1) := by decide +kernel
theorem dX10_sizes_25 : decode cX10_sizes 25 = .ok (.istore_n 3, 1) := by decide +kernel
theorem dX10_sizes_26 : decode cX10_sizes 26 = .ok (.iconst (-1), 1) := by decide +kernel
theorem dX10_sizes_27 : decode cX10_sizes 27 = .ok (.istore 4, 2) := by decide +kernel
theorem dX10_sizes_29 : decode cX10_sizes 29 = .ok (.iconst 1, 1) := by decide +kernel
theorem dX10_sizes_30 : decode cX10_sizes 30 = .ok (.istore 5, 2) := by decide +kernel
theorem dX10_sizes_32 : decode cX10_sizes 32 = .ok (.iload 5, 2) := by decide +kernel
theorem dX10_sizes_34 : decode cX10_sizes 34 = .ok (.bipush 72, 2) := by decide +kernel
theorem dX10_sizes_36 : decode cX10_sizes 36 = .ok (.if_icmp .gt 102, 3) := by decide +kernel
theorem dX10_sizes_39 : decode cX10_sizes 39 = .ok (.iconst 0, 1) := by decide +kernel
theorem dX10_sizes_40 : decode cX10_sizes 40 = .ok (.istore 6, 2) := by decide +kernel
theorem dX10_sizes_42 : decode cX10_sizes 42 = .ok (.iconst 0, 1) := by decide +kernel
theorem dX10_sizes_43 : decode cX10_sizes 43 = .ok (.istore 7, 2) := by decide +kernel
theorem dX10_sizes_45 : decode cX10_sizes 45 = .ok (.iload 7, 2) := by decide +kernel
theorem dX10_sizes_47 : decode cX10_sizes 47 = .ok (.aload_n 0, 1) := by decide +kernel
theorem dX10_sizes_48 : decode cX10_sizes 48 = .ok (.getfield 17, 3) := by decide +kernel
theorem dX10_sizes_51 : decode cX10_sizes 51 = .ok (.iconst 1, 1) := by decide +kernel
theorem dX10_sizes_52 : decode cX10_sizes 52 = .ok (.iaload, 1) := by decide +kernel
theorem dX10_sizes_53 : decode cX10_sizes 53 = .ok (.if_icmp .ge 49, 3) := by decide +kernel
theorem dX10_sizes_56 : decode cX10_sizes 56 = .ok (.iload 6, 2) := by decide +kernel
theorem dX10_sizes_58 : decode cX10_sizes 58 = .ok (.aload_n 0, 1) := by decide +kernel
theorem dX10_sizes_59 : decode cX10_sizes 59 = .ok (.iload 7, 2) := by decide +kernel
theorem dX10_sizes_61 : decode cX10_sizes 61 = .ok (.invokevirtual 169, 3) := by decide +kernel
theorem dX10_sizes_64 : decode cX10_sizes 64 = .ok (.iconst 2, 1) := by decide +kernel
theorem dX10_sizes_65 : decode cX10_sizes 65 = .ok (.if_icmp .eq 27, 3) := by decide +kernel
theorem dX10_sizes_92 : decode cX10_sizes 92 = .ok (.iconst 0, 1) := by decide +kernel
theorem dX10_sizes_93 : decode cX10_sizes 93 = .ok (.iadd, 1) := by decide +kernel
theorem dX10_sizes_94 : decode cX10_sizes 94 = .ok (.istore 6, 2) := by decide +kernel
theorem dX10_sizes_96 : decode cX10_sizes 96 = .ok (.iinc 7 1, 3) := by decide +kernel
theorem dX10_sizes_99 : decode cX10_sizes 99 = .ok (.goto (-54), 3) := by decide +kernel
theorem dX10_sizes_68 : decode cX10_sizes 68 = .ok (.aload_n 0, 1) := by decide +kernel
theorem dX10_sizes_69 : decode cX10_sizes 69 = .ok (.iload 7, 2) := by decide +kernel
theorem dX10_sizes_71 : decode cX10_sizes 71 = .ok (.invokevirtual 178, 3) := by decide +kernel
theorem dX10_sizes_74 : decode cX10_sizes 74 = .ok (.iload 5, 2) := by decide +kernel
theorem dX10_sizes_76 : decode cX10_sizes 76 = .ok (.iload 5, 2) := by decide +kernel
theorem dX10_sizes_78 : decode cX10_sizes 78 = .ok (.iload_n 1, 1) := by decide +kernel
theorem dX10_sizes_79 : decode cX10_sizes 79 = .ok (.iadd, 1) := by decide +kernel
theorem dX10_sizes_80 : decode cX10_sizes 80 = .ok (.iconst 1, 1) := by decide +kernel
theorem dX10_sizes_81 : decode cX10_sizes 81 = .ok (.isub, 1) := by decide +kernel
theorem dX10_sizes_82 : decode cX10_sizes 82 = .ok (.invokestatic 90, 3) := by decide +kernel
theorem dX10_sizes_85 : decode cX10_sizes 85 = .ok (.ifCond .eq 7, 3) := by decide +kernel
theorem dX10_sizes_88 : decode cX10_sizes 88 = .ok (.iconst 1, 1) := by decide +kernel
theorem dX10_sizes_89 : decode cX10_sizes 89 = .ok (.goto 4, 3) := by decide +kernel
theorem dX10_sizes_102 : decode cX10_sizes 102 = .ok (.iload 6, 2) := by decide +kernel
theorem dX10_sizes_104 : decode cX10_sizes 104 = .ok (.iload 4, 2) := by decide +kernel
theorem dX10_sizes_106 : decode cX10_sizes 106 = .ok (.if_icmp .le 8, 3) := by decide +kernel
theorem dX10_sizes_114 : decode cX10_sizes 114 = .ok (.iload_n 3, 1) := by decide +kernel
theorem dX10_sizes_115 : decode cX10_sizes 115 = .ok (.istore_n 3, 1) := by decide +kernel
theorem dX10_sizes_116 : decode cX10_sizes 116 = .ok (.iload 6, 2) := by decide +kernel
theorem dX10_sizes_118 : decode cX10_sizes 118 = .ok (.iload 4, 2) := by decide +kernel
theorem dX10_sizes_120 : decode cX10_sizes 120 = .ok (.if_icmp .le 8, 3) := by decide +kernel
theorem dX10_sizes_128 : decode cX10_sizes 128 = .ok (.iload 4, 2) := by decide +kernel
theorem dX10_sizes_130 : decode cX10_sizes 130 = .ok (.istore 4, 2) := by decide +kernel
theorem dX10_sizes_132 : decode cX10_sizes 132 = .ok (.iinc 5 1, 3) := by decide +kernel
theorem dX10_sizes_135 : decode cX10_sizes 135 = .ok (.goto (-103), 3) := by decide +kernel
theorem dX10_sizes_123 : decode cX10_sizes 123 = .ok (.iload 6, 2) := by decide +kernel
theorem dX10_sizes_125 : decode cX10_sizes 125 = .ok (.goto 5, 3) := by decide +kernel
theorem dX10_sizes_109 : decode cX10_sizes 109 = .ok (.iload 5, 2) := by decide +kernel
theorem dX10_sizes_111 : decode cX10_sizes 111 = .ok (.goto 4, 3) := by decide +kernel
theorem dX10_sizes_138 : decode cX10_sizes 138 = .ok (.iload_n 2, 1) := by decide +kernel
theorem dX10_sizes_139 : decode cX10_sizes 139 = .ok (.ifCond .ne 7, 3) := by decide +kernel
theorem dX10_sizes_146 : decode cX10_sizes 146 = .ok (.iload 4, 2) := by decide +kernel
theorem dX10_sizes_148 : decode cX10_sizes 148 = .ok (.ireturn, 1) := by decide +kernel
theorem dX10_sizes_142 : decode cX10_sizes 142 = .ok (.iload_n 3, 1) := by decide +kernel
theorem dX10_sizes_143 : decode cX10_sizes 143 = .ok (.goto 5, 3) := by decide +kernel
theorem dX10_heard_0 : decode cX10_heard 0 = .ok (.iload_n 1, 1) := by decide +kernel
theorem dX10_heard_1 : decode cX10_heard 1 = .ok (.iconst 0, 1) := by decide +kernel
theorem dX10_heard_2 : decode cX10_heard 2 = .ok (.bipush 9, 2) := by decide +kernel
theorem dX10_heard_4 : decode cX10_heard 4 = .ok (.invokestatic 90, 3) := by decide +kernel
theorem dX10_heard_7 : decode cX10_heard 7 = .ok (.ifCond .eq 22, 3) := by decide +kernel
theorem dX10_heard_29 : decode cX10_heard 29 = .ok (.iconst (-1), 1) := by decide +kernel
theorem dX10_heard_30 : decode cX10_heard 30 = .ok (.ireturn, 1) := by decide +kernel
theorem dX10_heard_10 : decode cX10_heard 10 = .ok (.iload_n 2, 1) := by decide +kernel
theorem dX10_heard_11 : decode cX10_heard 11 = .ok (.iconst 1, 1) := by decide +kernel
theorem dX10_heard_12 : decode cX10_heard 12 = .ok (.bipush 9, 2) := by decide +kernel
theorem dX10_heard_14 : decode cX10_heard 14 = .ok (.invokestatic 90, 3) := by decide +kernel
theorem dX10_heard_17 : decode cX10_heard 17 = .ok (.ifCond .eq 12, 3) := by decide +kernel
theorem dX10_heard_20 : decode cX10_heard 20 = .ok (.iload_n 3, 1) := by decide +kernel
theorem dX10_heard_21 : decode cX10_heard 21 = .ok (.iconst 0, 1) := by decide +kernel
theorem dX10_heard_22 : decode cX10_heard 22 = .ok (.iconst 1, 1) := by decide +kernel
theorem dX10_heard_23 : decode cX10_heard 23 = .ok (.invokestatic 90, 3) := by decide +kernel
theorem dX10_heard_26 : decode cX10_heard 26 = .ok (.ifCond .ne 5, 3) := by decide +kernel
theorem dX10_heard_31 : decode cX10_heard 31 = .ok (.aload_n 0, 1) := by decide +kernel
theorem dX10_heard_32 : decode cX10_heard 32 = .ok (.getfield 166, 3) := by decide +kernel
theorem dX10_heard_35 : decode cX10_heard 35 = .ok (.bipush 8, 2) := by decide +kernel
theorem dX10_heard_37 : decode cX10_heard 37 = .ok (.if_icmp .ne 6, 3) := by decide +kernel
theorem dX10_heard_43 : decode cX10_heard 43 = .ok (.aload_n 0, 1) := by decide +kernel
theorem dX10_heard_44 : decode cX10_heard 44 = .ok (.getfield 26, 3) := by decide +kernel
theorem dX10_heard_47 : decode cX10_heard 47 = .ok (.iconst 3, 1) := by decide +kernel
theorem dX10_heard_48 : decode cX10_heard 48 = .ok (.aload_n 0, 1) := by decide +kernel
theorem dX10_heard_49 : decode cX10_heard 49 = .ok (.getfield 166, 3) := by decide +kernel
theorem dX10_heard_52 : decode cX10_heard 52 = .ok (.imul, 1) := by decide +kernel
theorem dX10_heard_53 : decode cX10_heard 53 = .ok (.iload_n 1, 1) := by decide +kernel
theorem dX10_heard_54 : decode cX10_heard 54 = .ok (.iastore, 1) := by decide +kernel
theorem dX10_heard_55 : decode cX10_heard 55 = .ok (.aload_n 0, 1) := by decide +kernel
theorem dX10_heard_56 : decode cX10_heard 56 = .ok (.getfield 26, 3) := by decide +kernel
theorem dX10_heard_59 : decode cX10_heard 59 = .ok (.iconst 3, 1) := by decide +kernel
theorem dX10_heard_60 : decode cX10_heard 60 = .ok (.aload_n 0, 1) := by decide +kernel
theorem dX10_heard_61 : decode cX10_heard 61 = .ok (.getfield 166, 3) := by decide +kernel
theorem dX10_heard_64 : decode cX10_heard 64 = .ok (.imul, 1) := by decide +kernel
theorem dX10_heard_65 : decode cX10_heard 65 = .ok (.iconst 1, 1) := by decide +kernel
theorem dX10_heard_66 : decode cX10_heard 66 = .ok (.iadd, 1) := by decide +kernel
theorem dX10_heard_67 : decode cX10_heard 67 = .ok (.iload_n 2, 1) := by decide +kernel
theorem dX10_heard_68 : decode cX10_heard 68 = .ok (.iastore, 1) := by decide +kernel
theorem dX10_heard_69 : decode cX10_heard 69 = .ok (.aload_n 0, 1) := by decide +kernel
theorem dX10_heard_70 : decode cX10_heard 70 = .ok (.getfield 26, 3) := by decide +kernel
theorem dX10_heard_73 : decode cX10_heard 73 = .ok (.iconst 3, 1) := by decide +kernel
theorem dX10_heard_74 : decode cX10_heard 74 = .ok (.aload_n 0, 1) := by decide +kernel
theorem dX10_heard_75 : decode cX10_heard 75 = .ok (.getfield 166, 3) := by decide +kernel
theorem dX10_heard_78 : decode cX10_heard 78 = .ok (.imul, 1) := by decide +kernel
theorem dX10_heard_79 : decode cX10_heard 79 = .ok (.iconst 2, 1) := by decide +kernel
theorem dX10_heard_80 : decode cX10_heard 80 = .ok (.iadd, 1) := by decide +kernel
theorem dX10_heard_81 : decode cX10_heard 81 = .ok (.iload_n 3, 1) := by decide +kernel
theorem dX10_heard_82 : decode cX10_heard 82 = .ok (.iastore, 1) := by decide +kernel
theorem dX10_heard_83 : decode cX10_heard 83 = .ok (.aload_n 0, 1) := by decide +kernel
theorem dX10_heard_84 : decode cX10_heard 84 = .ok (.dup, 1) := by decide +kernel
theorem dX10_heard_85 : decode cX10_heard 85 = .ok (.getfield 166, 3) := by decide +kernel
theorem dX10_heard_88 : decode cX10_heard 88 = .ok (.iconst 1, 1) := by decide +kernel
theorem dX10_heard_89 : decode cX10_heard 89 = .ok (.iadd, 1) := by decide +kernel
theorem dX10_heard_90 : decode cX10_heard 90 = .ok (.putfield 166, 3) := by decide +kernel
theorem dX10_heard_93 : decode cX10_heard 93 = .ok (.aload_n 0, 1) := by decide +kernel
theorem dX10_heard_94 : decode cX10_heard 94 = .ok (.getfield 166, 3) := by decide +kernel
theorem dX10_heard_97 : decode cX10_heard 97 = .ok (.ireturn, 1) := by decide +kernel
theorem dX10_heard_40 : decode cX10_heard 40 = .ok (.bipush (-3), 2) := by decide +kernel
theorem dX10_heard_42 : decode cX10_heard 42 = .ok (.ireturn, 1) := by decide +kernel
theorem dX10_forget_0 : decode cX10_forget 0 = .ok (.aload_n 0, 1) := by decide +kernel
theorem dX10_forget_1 : decode cX10_forget 1 = .ok (.getfield 166, 3) := by decide +kernel
theorem dX10_forget_4 : decode cX10_forget 4 = .ok (.istore_n 1, 1) := by decide +kernel
theorem dX10_forget_5 : decode cX10_forget 5 = .ok (.aload_n 0, 1) := by decide +kernel
theorem dX10_forget_6 : decode cX10_forget 6 = .ok (.iconst 0, 1) := by decide +kernel
theorem dX10_forget_7 : decode cX10_forget 7 = .ok (.putfield 166, 3) := by decide +kernel
theorem dX10_forget_10 : decode cX10_forget 10 = .ok (.iload_n 1, 1) := by decide +kernel
theorem dX10_forget_11 : decode cX10_forget 11 = .ok (.ireturn, 1) := by decide +kernel
theorem dX10_thick_0 : decode cX10_thick 0 = .ok (.iload_n 1, 1) := by decide +kernel
theorem dX10_thick_1 : decode cX10_thick 1 = .ok (.iconst 0, 1) := by decide +kernel
theorem dX10_thick_2 : decode cX10_thick 2 = .ok (.bipush 9, 2) := by decide +kernel
theorem dX10_thick_4 : decode cX10_thick 4 = .ok (.invokestatic 90, 3) := by decide +kernel
theorem dX10_thick_7 : decode cX10_thick 7 = .ok (.ifCond .ne 5, 3) := by decide +kernel
theorem dX10_thick_12 : decode cX10_thick 12 = .ok (.iconst 0, 1) := by decide +kernel
theorem dX10_thick_13 : decode cX10_thick 13 = .ok (.istore_n 2, 1) := by decide +kernel
theorem dX10_thick_14 : decode cX10_thick 14 = .ok (.iconst 1, 1) := by decide +kernel
theorem dX10_thick_15 : decode cX10_thick 15 = .ok (.istore_n 3, 1) := by decide +kernel
theorem dX10_thick_16 : decode cX10_thick 16 = .ok (.iload_n 3, 1) := by decide +kernel
theorem dX10_thick_17 : decode cX10_thick 17 = .ok (.bipush 10, 2) := by decide +kernel
theorem dX10_thick_19 : decode cX10_thick 19 = .ok (.if_icmp .ge 117, 3) := by decide +kernel
theorem dX10_thick_22 : decode cX10_thick 22 = .ok (.iconst 1, 1) := by decide +kernel
theorem dX10_thick_23 : decode cX10_thick 23 = .ok (.istore 4, 2) := by decide +kernel
theorem dX10_thick_25 : decode cX10_thick 25 = .ok (.iconst 0, 1) := by decide +kernel
theorem dX10_thick_26 : decode cX10_thick 26 = .ok (.istore 5, 2) := by decide +kernel
theorem dX10_thick_28 : decode cX10_thick 28 = .ok (.iload 5, 2) := by decide +kernel
theorem dX10_thick_30 : decode cX10_thick 30 = .ok (.aload_n 0, 1) := by decide +kernel
theorem dX10_thick_31 : decode cX10_thick 31 = .ok (.getfield 166, 3) := by decide +kernel
theorem dX10_thick_34 : decode cX10_thick 34 = .ok (.if_icmp .ge 81, 3) := by decide +kernel
theorem dX10_thick_37 : decode cX10_thick 37 = .ok (.iload_n 3, 1) := by decide +kernel
theorem dX10_thick_38 : decode cX10_thick 38 = .ok (.aload_n 0, 1) := by decide +kernel
theorem dX10_thick_39 : decode cX10_thick 39 = .ok (.getfield 26, 3) := by decide +kernel
theorem dX10_thick_42 : decode cX10_thick 42 = .ok (.iconst 3, 1) := by decide +kernel
theorem dX10_thick_43 : decode cX10_thick 43 = .ok (.iload 5, 2) := by decide +kernel
theorem dX10_thick_45 : decode cX10_thick 45 = .ok (.imul, 1) := by decide +kernel
theorem dX10_thick_46 : decode cX10_thick 46 = .ok (.iconst 1, 1) := by decide +kernel
theorem dX10_thick_47 : decode cX10_thick 47 = .ok (.iadd, 1) := by decide +kernel
theorem dX10_thick_48 : decode cX10_thick 48 = .ok (.iaload, 1) := by decide +kernel
theorem dX10_thick_49 : decode cX10_thick 49 = .ok (.if_icmp .gt 7, 3) := by decide +kernel
theorem dX10_thick_56 : decode cX10_thick 56 = .ok (.iconst 0, 1) := by decide +kernel
theorem dX10_thick_57 : decode cX10_thick 57 = .ok (.istore 6, 2) := by decide +kernel
theorem dX10_thick_59 : decode cX10_thick 59 = .ok (.iload 4, 2) := by decide +kernel
theorem dX10_thick_61 : decode cX10_thick 61 = .ok (.ifCond .eq 45, 3) := by decide +kernel
theorem dX10_thick_106 : decode cX10_thick 106 = .ok (.iconst 0, 1) := by decide +kernel
theorem dX10_thick_107 : decode cX10_thick 107 = .ok (.istore 4, 2) := by decide +kernel
theorem dX10_thick_109 : decode cX10_thick 109 = .ok (.iinc 5 1, 3) := by decide +kernel
theorem dX10_thick_112 : decode cX10_thick 112 = .ok (.goto (-84), 3) := by decide +kernel
theorem dX10_thick_64 : decode cX10_thick 64 = .ok (.aload_n 0, 1) := by decide +kernel
theorem dX10_thick_65 : decode cX10_thick 65 = .ok (.getfield 26, 3) := by decide +kernel
theorem dX10_thick_68 : decode cX10_thick 68 = .ok (.iconst 3, 1) := by decide +kernel
theorem dX10_thick_69 : decode cX10_thick 69 = .ok (.iload 5, 2) := by decide +kernel
theorem dX10_thick_71 : decode cX10_thick 71 = .ok (.imul, 1) := by decide +kernel
theorem dX10_thick_72 : decode cX10_thick 72 = .ok (.iaload, 1) := by decide +kernel
theorem dX10_thick_73 : decode cX10_thick 73 = .ok (.iload_n 1, 1) := by decide +kernel
theorem dX10_thick_74 : decode cX10_thick 74 = .ok (.if_icmp .ne 28, 3) := by decide +kernel
theorem dX10_thick_102 : decode cX10_thick 102 = .ok (.iconst 1, 1) := by decide +kernel
theorem dX10_thick_103 : decode cX10_thick 103 = .ok (.goto 4, 3) := by decide +kernel
theorem dX10_thick_77 : decode cX10_thick 77 = .ok (.iload 6, 2) := by decide +kernel
theorem dX10_thick_79 : decode cX10_thick 79 = .ok (.aload_n 0, 1) := by decide +kernel
theorem dX10_thick_80 : decode cX10_thick 80 = .ok (.getfield 26, 3) := by decide +kernel
theorem dX10_thick_83 : decode cX10_thick 83 = .ok (.iconst 3, 1) := by decide +kernel
theorem dX10_thick_84 : decode cX10_thick 84 = .ok (.iload 5, 2) := by decide +kernel
theorem dX10_thick_86 : decode cX10_thick 86 = .ok (.imul, 1) := by decide +kernel
theorem dX10_thick_87 : decode cX10_thick 87 = .ok (.iconst 2, 1) := by decide +kernel
theorem dX10_thick_88 : decode cX10_thick 88 = .ok (.iadd, 1) := by decide +kernel
theorem dX10_thick_89 : decode cX10_thick 89 = .ok (.iaload, 1) := by decide +kernel
theorem dX10_thick_90 : decode cX10_thick 90 = .ok (.iconst 1, 1) := by decide +kernel
theorem dX10_thick_91 : decode cX10_thick 91 = .ok (.if_icmp .ne 7, 3) := by decide +kernel
theorem dX10_thick_98 : decode cX10_thick 98 = .ok (.iconst 0, 1) := by decide +kernel
theorem dX10_thick_99 : decode cX10_thick 99 = .ok (.if_icmp .ne 7, 3) := by decide +kernel
theorem dX10_thick_94 : decode cX10_thick 94 = .ok (.iconst 1, 1) := by decide +kernel
theorem dX10_thick_95 : decode cX10_thick 95 = .ok (.goto 4, 3) := by decide +kernel
theorem dX10_thick_52 : decode cX10_thick 52 = .ok (.iconst 1, 1) := by decide +kernel
theorem dX10_thick_53 : decode cX10_thick 53 = .ok (.goto 4, 3) := by decide +kernel
theorem dX10_thick_115 : decode cX10_thick 115 = .ok (.iload_n 2, 1) := by decide +kernel
theorem dX10_thick_116 : decode cX10_thick 116 = .ok (.iload 4, 2) := by decide +kernel
theorem dX10_thick_118 : decode cX10_thick 118 = .ok (.ifCond .eq 9, 3) := by decide +kernel
theorem dX10_thick_127 : decode cX10_thick 127 = .ok (.iconst 0, 1) := by decide +kernel
theorem dX10_thick_128 : decode cX10_thick 128 = .ok (.ior, 1) := by decide +kernel
theorem dX10_thick_129 : decode cX10_thick 129 = .ok (.istore_n 2, 1) := by decide +kernel
theorem dX10_thick_130 : decode cX10_thick 130 = .ok (.iinc 3 1, 3) := by decide +kernel
theorem dX10_thick_133 : decode cX10_thick 133 = .ok (.goto (-117), 3) := by decide +kernel
theorem dX10_thick_121 : decode cX10_thick 121 = .ok (.iconst 1, 1) := by decide +kernel
theorem dX10_thick_122 : decode cX10_thick 122 = .ok (.iload_n 3, 1) := by decide +kernel
theorem dX10_thick_123 : decode cX10_thick 123 = .ok (.ishl, 1) := by decide +kernel
theorem dX10_thick_124 : decode cX10_thick 124 = .ok (.goto 4, 3) := by decide +kernel
theorem dX10_thick_136 : decode cX10_thick 136 = .ok (.iload_n 2, 1) := by decide +kernel
theorem dX10_thick_137 : decode cX10_thick 137 = .ok (.ireturn, 1) := by decide +kernel
theorem dX10_thick_10 : decode cX10_thick 10 = .ok (.iconst (-1), 1) := by decide +kernel
theorem dX10_thick_11 : decode cX10_thick 11 = .ok (.ireturn, 1) := by decide +kernel
theorem dX10_whole_0 : decode cX10_whole 0 = .ok (.iload_n 1, 1) := by decide +kernel
theorem dX10_whole_1 : decode cX10_whole 1 = .ok (.iconst 0, 1) := by decide +kernel
theorem dX10_whole_2 : decode cX10_whole 2 = .ok (.iconst 4, 1) := by decide +kernel
theorem dX10_whole_3 : decode cX10_whole 3 = .ok (.invokestatic 90, 3) := by decide +kernel
theorem dX10_whole_6 : decode cX10_whole 6 = .ok (.ifCond .eq 22, 3) := by decide +kernel
theorem dX10_whole_28 : decode cX10_whole 28 = .ok (.iconst (-1), 1) := by decide +kernel
theorem dX10_whole_29 : decode cX10_whole 29 = .ok (.ireturn, 1) := by decide +kernel
theorem dX10_whole_9 : decode cX10_whole 9 = .ok (.iload_n 2, 1) := by decide +kernel
theorem dX10_whole_10 : decode cX10_whole 10 = .ok (.iconst 0, 1) := by decide +kernel
theorem dX10_whole_11 : decode cX10_whole 11 = .ok (.bipush 10, 2) := by decide +kernel
theorem dX10_whole_13 : decode cX10_whole 13 = .ok (.invokestatic 90, 3) := by decide +kernel
theorem dX10_whole_16 : decode cX10_whole 16 = .ok (.ifCond .eq 12, 3) := by decide +kernel
theorem dX10_whole_19 : decode cX10_whole 19 = .ok (.iload_n 3, 1) := by decide +kernel
theorem dX10_whole_20 : decode cX10_whole 20 = .ok (.iconst 0, 1) := by decide +kernel
theorem dX10_whole_21 : decode cX10_whole 21 = .ok (.iconst 1, 1) := by decide +kernel
theorem dX10_whole_22 : decode cX10_whole 22 = .ok (.invokestatic 90, 3) := by decide +kernel
theorem dX10_whole_25 : decode cX10_whole 25 = .ok (.ifCond .ne 5, 3) := by decide +kernel
theorem dX10_whole_30 : decode cX10_whole 30 = .ok (.iconst 1, 1) := by decide +kernel
theorem dX10_whole_31 : decode cX10_whole 31 = .ok (.istore 4, 2) := by decide +kernel
theorem dX10_whole_33 : decode cX10_whole 33 = .ok (.iconst 1, 1) := by decide +kernel
theorem dX10_whole_34 : decode cX10_whole 34 = .ok (.istore 5, 2) := by decide +kernel
theorem dX10_whole_36 : decode cX10_whole 36 = .ok (.iconst 0, 1) := by decide +kernel
theorem dX10_whole_37 : decode cX10_whole 37 = .ok (.istore 6, 2) := by decide +kernel
theorem dX10_whole_39 : decode cX10_whole 39 = .ok (.iload 6, 2) := by decide +kernel
theorem dX10_whole_41 : decode cX10_whole 41 = .ok (.iconst 2, 1) := by decide +kernel
theorem dX10_whole_42 : decode cX10_whole 42 = .ok (.iload_n 1, 1) := by decide +kernel
theorem dX10_whole_43 : decode cX10_whole 43 = .ok (.imul, 1) := by decide +kernel
theorem dX10_whole_44 : decode cX10_whole 44 = .ok (.if_icmp .ge 25, 3) := by decide +kernel
theorem dX10_whole_47 : decode cX10_whole 47 = .ok (.iload 4, 2) := by decide +kernel
theorem dX10_whole_49 : decode cX10_whole 49 = .ok (.bipush 10, 2) := by decide +kernel
theorem dX10_whole_51 : decode cX10_whole 51 = .ok (.iload_n 2, 1) := by decide +kernel
theorem dX10_whole_52 : decode cX10_whole 52 = .ok (.isub, 1) := by decide +kernel
theorem dX10_whole_53 : decode cX10_whole 53 = .ok (.imul, 1) := by decide +kernel
theorem dX10_whole_54 : decode cX10_whole 54 = .ok (.istore 4, 2) := by decide +kernel
theorem dX10_whole_56 : decode cX10_whole 56 = .ok (.iload 5, 2) := by decide +kernel
theorem dX10_whole_58 : decode cX10_whole 58 = .ok (.bipush 10, 2) := by decide +kernel
theorem dX10_whole_60 : decode cX10_whole 60 = .ok (.imul, 1) := by decide +kernel
theorem dX10_whole_61 : decode cX10_whole 61 = .ok (.istore 5, 2) := by decide +kernel
theorem dX10_whole_63 : decode cX10_whole 63 = .ok (.iinc 6 1, 3) := by decide +kernel
theorem dX10_whole_66 : decode cX10_whole 66 = .ok (.goto (-27), 3) := by decide +kernel
theorem dX10_whole_69 : decode cX10_whole 69 = .ok (.iload 4, 2) := by decide +kernel
theorem dX10_whole_71 : decode cX10_whole 71 = .ok (.istore 6, 2) := by decide +kernel
theorem dX10_whole_73 : decode cX10_whole 73 = .ok (.iload 5, 2) := by decide +kernel
theorem dX10_whole_75 : decode cX10_whole 75 = .ok (.istore 7, 2) := by decide +kernel
theorem dX10_whole_77 : decode cX10_whole 77 = .ok (.iload 7, 2) := by decide +kernel
theorem dX10_whole_79 : decode cX10_whole 79 = .ok (.ifCond .le 21, 3) := by decide +kernel
theorem dX10_whole_82 : decode cX10_whole 82 = .ok (.iload 6, 2) := by decide +kernel
theorem dX10_whole_84 : decode cX10_whole 84 = .ok (.iload 7, 2) := by decide +kernel
theorem dX10_whole_86 : decode cX10_whole 86 = .ok (.irem, 1) := by decide +kernel
theorem dX10_whole_87 : decode cX10_whole 87 = .ok (.istore 8, 2) := by decide +kernel
theorem dX10_whole_89 : decode cX10_whole 89 = .ok (.iload 7, 2) := by decide +kernel
theorem dX10_whole_91 : decode cX10_whole 91 = .ok (.istore 6, 2) := by decide +kernel
theorem dX10_whole_93 : decode cX10_whole 93 = .ok (.iload 8, 2) := by decide +kernel
theorem dX10_whole_95 : decode cX10_whole 95 = .ok (.istore 7, 2) := by decide +kernel
theorem dX10_whole_97 : decode cX10_whole 97 = .ok (.goto (-20), 3) := by decide +kernel
theorem dX10_whole_100 : decode cX10_whole 100 = .ok (.iload_n 3, 1) := by decide +kernel
theorem dX10_whole_101 : decode cX10_whole 101 = .ok (.ifCond .ne 8, 3) := by decide +kernel
theorem dX10_whole_109 : decode cX10_whole 109 = .ok (.iload 5, 2) := by decide +kernel
theorem dX10_whole_111 : decode cX10_whole 111 = .ok (.iload 6, 2) := by decide +kernel
theorem dX10_whole_113 : decode cX10_whole 113 = .ok (.idiv, 1) := by decide +kernel
theorem dX10_whole_114 : decode cX10_whole 114 = .ok (.ireturn, 1) := by decide +kernel
theorem dX10_whole_104 : decode cX10_whole 104 = .ok (.iload 4, 2) := by decide +kernel
theorem dX10_whole_106 : decode cX10_whole 106 = .ok (.goto 5, 3) := by decide +kernel
theorem dX10_together_0 : decode cX10_together 0 = .ok (.iload_n 1, 1) := by decide +kernel
theorem dX10_together_1 : decode cX10_together 1 = .ok (.iconst 0, 1) := by decide +kernel
theorem dX10_together_2 : decode cX10_together 2 = .ok (.iconst 3, 1) := by decide +kernel
theorem dX10_together_3 : decode cX10_together 3 = .ok (.invokestatic 90, 3) := by decide +kernel
theorem dX10_together_6 : decode cX10_together 6 = .ok (.ifCond .eq 13, 3) := by decide +kernel
theorem dX10_together_19 : decode cX10_together 19 = .ok (.iconst (-1), 1) := by decide +kernel
theorem dX10_together_20 : decode cX10_together 20 = .ok (.ireturn, 1) := by decide +kernel
theorem dX10_together_9 : decode cX10_together 9 = .ok (.iload_n 2, 1) := by decide +kernel
theorem dX10_together_10 : decode cX10_together 10 = .ok (.iconst 0, 1) := by decide +kernel
theorem dX10_together_11 : decode cX10_together 11 = .ok (.bipush 33, 2) := by decide +kernel
theorem dX10_together_13 : decode cX10_together 13 = .ok (.invokestatic 90, 3) := by decide +kernel
theorem dX10_together_16 : decode cX10_together 16 = .ok (.ifCond .ne 5, 3) := by decide +kernel
theorem dX10_together_21 : decode cX10_together 21 = .ok (.lconst 1, 1) := by decide +kernel
theorem dX10_together_22 : decode cX10_together 22 = .ok (.lstore_n 3, 1) := by decide +kernel
theorem dX10_together_23 : decode cX10_together 23 = .ok (.lconst 1, 1) := by decide +kernel
theorem dX10_together_24 : decode cX10_together 24 = .ok (.lstore 5, 2) := by decide +kernel
theorem dX10_together_26 : decode cX10_together 26 = .ok (.lconst 1, 1) := by decide +kernel
theorem dX10_together_27 : decode cX10_together 27 = .ok (.lstore 7, 2) := by decide +kernel
theorem dX10_together_29 : decode cX10_together 29 = .ok (.lconst 0, 1) := by decide +kernel
theorem dX10_together_30 : decode cX10_together 30 = .ok (.lstore 9, 2) := by decide +kernel
theorem dX10_together_32 : decode cX10_together 32 = .ok (.lconst 0, 1) := by decide +kernel
theorem dX10_together_33 : decode cX10_together 33 = .ok (.lstore 11, 2) := by decide +kernel
theorem dX10_together_35 : decode cX10_together 35 = .ok (.iconst 0, 1) := by decide +kernel
theorem dX10_together_36 : decode cX10_together 36 = .ok (.istore 13, 2) := by decide +kernel
theorem dX10_together_38 : decode cX10_together 38 = .ok (.iload 13, 2) := by decide +kernel
theorem dX10_together_40 : decode cX10_together 40 = .ok (.iconst 2, 1) := by decide +kernel
theorem dX10_together_41 : decode cX10_together 41 = .ok (.iload_n 1, 1) := by decide +kernel
theorem dX10_together_42 : decode cX10_together 42 = .ok (.imul, 1) := by decide +kernel
theorem dX10_together_43 : decode cX10_together 43 = .ok (.if_icmp .ge 79, 3) := by decide +kernel
theorem kw1125 : Cond.constantLong RX10 236 (100) ∈ Tg := mem_Tg (List.mem_append_right _ (List.mem_of_getElem? (i := 1125) (by decide +kernel))) (by decide +kernel)
theorem dX10_together_46 : decode cX10_together 46 = .ok (.ldc2_w 236, 3) := by decide +kernel
theorem dX10_together_49 : decode cX10_together 49 = .ok (.lload 9, 2) := by decide +kernel
theorem dX10_together_51 : decode cX10_together 51 = .ok (.lmul, 1) := by decide +kernel
theorem dX10_together_52 : decode cX10_together 52 = .ok (.ldc2_w 236, 3) := by decide +kernel
theorem dX10_together_55 : decode cX10_together 55 = .ok (.lload 5, 2) := by decide +kernel
theorem dX10_together_57 : decode cX10_together 57 = .ok (.lmul, 1) := by decide +kernel
theorem dX10_together_58 : decode cX10_together 58 = .ok (.ladd, 1) := by decide +kernel
theorem dX10_together_59 : decode cX10_together 59 = .ok (.lstore 9, 2) := by decide +kernel
theorem dX10_together_61 : decode cX10_together 61 = .ok (.ldc2_w 236, 3) := by decide +kernel
theorem dX10_together_64 : decode cX10_together 64 = .ok (.lload 11, 2) := by decide +kernel
theorem dX10_together_66 : decode cX10_together 66 = .ok (.lmul, 1) := by decide +kernel
theorem dX10_together_67 : decode cX10_together 67 = .ok (.ldc2_w 236, 3) := by decide +kernel
theorem dX10_together_70 : decode cX10_together 70 = .ok (.lload 7, 2) := by decide +kernel
theorem dX10_together_72 : decode cX10_together 72 = .ok (.lmul, 1) := by decide +kernel
theorem dX10_together_73 : decode cX10_together 73 = .ok (.ladd, 1) := by decide +kernel
theorem dX10_together_74 : decode cX10_together 74 = .ok (.lstore 11, 2) := by decide +kernel
theorem dX10_together_76 : decode cX10_together 76 = .ok (.lload 5, 2) := by decide +kernel
theorem dX10_together_78 : decode cX10_together 78 = .ok (.bipush 100, 2) := by decide +kernel
theorem dX10_together_80 : decode cX10_together 80 = .ok (.iload 13, 2) := by decide +kernel
theorem dX10_together_82 : decode cX10_together 82 = .ok (.iconst 2, 1) := by decide +kernel
theorem dX10_together_83 : decode cX10_together 83 = .ok (.idiv, 1) := by decide +kernel
theorem dX10_together_84 : decode cX10_together 84 = .ok (.iconst 1, 1) := by decide +kernel
theorem dX10_together_85 : decode cX10_together 85 = .ok (.iadd, 1) := by decide +kernel
theorem dX10_together_86 : decode cX10_together 86 = .ok (.iload_n 2, 1) := by decide +kernel
theorem dX10_together_87 : decode cX10_together 87 = .ok (.imul, 1) := by decide +kernel
theorem dX10_together_88 : decode cX10_together 88 = .ok (.isub, 1) := by decide +kernel
theorem dX10_together_89 : decode cX10_together 89 = .ok (.i2l, 1) := by decide +kernel
theorem dX10_together_90 : decode cX10_together 90 = .ok (.lmul, 1) := by decide +kernel
theorem dX10_together_91 : decode cX10_together 91 = .ok (.lstore 5, 2) := by decide +kernel
theorem dX10_together_93 : decode cX10_together 93 = .ok (.lload 7, 2) := by decide +kernel
theorem dX10_together_95 : decode cX10_together 95 = .ok (.bipush 100, 2) := by decide +kernel
theorem dX10_together_97 : decode cX10_together 97 = .ok (.iload 13, 2) := by decide +kernel
theorem dX10_together_99 : decode cX10_together 99 = .ok (.iload_n 1, 1) := by decide +kernel
theorem dX10_together_100 : decode cX10_together 100 = .ok (.irem, 1) := by decide +kernel
theorem dX10_together_101 : decode cX10_together 101 = .ok (.iconst 1, 1) := by decide +kernel
theorem dX10_together_102 : decode cX10_together 102 = .ok (.iadd, 1) := by decide +kernel
theorem dX10_together_103 : decode cX10_together 103 = .ok (.iload_n 2, 1) := by decide +kernel
theorem dX10_together_104 : decode cX10_together 104 = .ok (.imul, 1) := by decide +kernel
theorem dX10_together_105 : decode cX10_together 105 = .ok (.isub, 1) := by decide +kernel
theorem dX10_together_106 : decode cX10_together 106 = .ok (.i2l, 1) := by decide +kernel
theorem dX10_together_107 : decode cX10_together 107 = .ok (.lmul, 1) := by decide +kernel
theorem dX10_together_108 : decode cX10_together 108 = .ok (.lstore 7, 2) := by decide +kernel
theorem dX10_together_110 : decode cX10_together 110 = .ok (.lload_n 3, 1) := by decide +kernel
theorem dX10_together_111 : decode cX10_together 111 = .ok (.ldc2_w 236, 3) := by decide +kernel
theorem dX10_together_114 : decode cX10_together 114 = .ok (.lmul, 1) := by decide +kernel
theorem dX10_together_115 : decode cX10_together 115 = .ok (.lstore_n 3, 1) := by decide +kernel
theorem dX10_together_116 : decode cX10_together 116 = .ok (.iinc 13 1, 3) := by decide +kernel
theorem dX10_together_119 : decode cX10_together 119 = .ok (.goto (-81), 3) := by decide +kernel
theorem kw1126 : Cond.constantLong RX10 238 (10000) ∈ Tg := mem_Tg (List.mem_append_right _ (List.mem_of_getElem? (i := 1126) (by decide +kernel))) (by decide +kernel)
theorem dX10_together_122 : decode cX10_together 122 = .ok (.ldc2_w 238, 3) := by decide +kernel
theorem dX10_together_125 : decode cX10_together 125 = .ok (.lload 9, 2) := by decide +kernel
theorem dX10_together_127 : decode cX10_together 127 = .ok (.lload 11, 2) := by decide +kernel
theorem dX10_together_129 : decode cX10_together 129 = .ok (.lsub, 1) := by decide +kernel
theorem dX10_together_130 : decode cX10_together 130 = .ok (.lmul, 1) := by decide +kernel
theorem dX10_together_131 : decode cX10_together 131 = .ok (.lload_n 3, 1) := by decide +kernel
theorem dX10_together_132 : decode cX10_together 132 = .ok (.ldiv, 1) := by decide +kernel
theorem dX10_together_133 : decode cX10_together 133 = .ok (.l2i, 1) := by decide +kernel
theorem kw1127 : Cond.constant RX10 240 (100000) ∈ Tg := mem_Tg (List.mem_append_right _ (List.mem_of_getElem? (i := 1127) (by decide +kernel))) (by decide +kernel)
theorem dX10_together_134 : decode cX10_together 134 = .ok (.ldc 240, 2) := by decide +kernel
theorem dX10_together_136 : decode cX10_together 136 = .ok (.iadd, 1) := by decide +kernel
theorem dX10_together_137 : decode cX10_together 137 = .ok (.ireturn, 1) := by decide +kernel
theorem dX10_firstGo_0 : decode cX10_firstGo 0 = .ok (.iconst 0, 1) := by decide +kernel
theorem dX10_firstGo_1 : decode cX10_firstGo 1 = .ok (.istore_n 1, 1) := by decide +kernel
theorem dX10_firstGo_2 : decode cX10_firstGo 2 = .ok (.iload_n 1, 1) := by decide +kernel
theorem dX10_firstGo_3 : decode cX10_firstGo 3 = .ok (.aload_n 0, 1) := by decide +kernel
theorem dX10_firstGo_4 : decode cX10_firstGo 4 = .ok (.getfield 44, 3) := by decide +kernel
theorem dX10_firstGo_7 : decode cX10_firstGo 7 = .ok (.iconst 1, 1) := by decide +kernel
theorem dX10_firstGo_8 : decode cX10_firstGo 8 = .ok (.iaload, 1) := by decide +kernel
theorem dX10_firstGo_9 : decode cX10_firstGo 9 = .ok (.if_icmp .ge 80, 3) := by decide +kernel
theorem dX10_firstGo_12 : decode cX10_firstGo 12 = .ok (.iconst 0, 1) := by decide +kernel
theorem dX10_firstGo_13 : decode cX10_firstGo 13 = .ok (.istore_n 2, 1) := by decide +kernel
theorem dX10_firstGo_14 : decode cX10_firstGo 14 = .ok (.iload_n 2, 1) := by decide +kernel
theorem dX10_firstGo_15 : decode cX10_firstGo 15 = .ok (.aload_n 0, 1) := by decide +kernel
theorem dX10_firstGo_16 : decode cX10_firstGo 16 = .ok (.getfield 44, 3) := by decide +kernel
theorem dX10_firstGo_19 : decode cX10_firstGo 19 = .ok (.iconst 1, 1) := by decide +kernel
theorem dX10_firstGo_20 : decode cX10_firstGo 20 = .ok (.iaload, 1) := by decide +kernel
theorem dX10_firstGo_21 : decode cX10_firstGo 21 = .ok (.if_icmp .ge 62, 3) := by decide +kernel
theorem dX10_firstGo_24 : decode cX10_firstGo 24 = .ok (.aload_n 0, 1) := by decide +kernel
theorem dX10_firstGo_25 : decode cX10_firstGo 25 = .ok (.iload_n 1, 1) := by decide +kernel
theorem dX10_firstGo_26 : decode cX10_firstGo 26 = .ok (.invokevirtual 175, 3) := by decide +kernel
theorem dX10_firstGo_29 : decode cX10_firstGo 29 = .ok (.ifCond .ne 54, 3) := by decide +kernel
theorem dX10_firstGo_32 : decode cX10_firstGo 32 = .ok (.aload_n 0, 1) := by decide +kernel
theorem dX10_firstGo_33 : decode cX10_firstGo 33 = .ok (.iload_n 1, 1) := by decide +kernel
theorem dX10_firstGo_34 : decode cX10_firstGo 34 = .ok (.iload_n 2, 1) := by decide +kernel
theorem dX10_firstGo_35 : decode cX10_firstGo 35 = .ok (.invokevirtual 197, 3) := by decide +kernel
theorem dX10_firstGo_38 : decode cX10_firstGo 38 = .ok (.ifCond .eq 39, 3) := by decide +kernel
theorem dX10_firstGo_77 : decode cX10_firstGo 77 = .ok (.iinc 2 1, 3) := by decide +kernel
theorem dX10_firstGo_80 : decode cX10_firstGo 80 = .ok (.goto (-66), 3) := by decide +kernel
theorem dX10_firstGo_41 : decode cX10_firstGo 41 = .ok (.aload_n 0, 1) := by decide +kernel
theorem dX10_firstGo_42 : decode cX10_firstGo 42 = .ok (.getfield 44, 3) := by decide +kernel
theorem dX10_firstGo_45 : decode cX10_firstGo 45 = .ok (.iload_n 1, 1) := by decide +kernel
theorem dX10_firstGo_46 : decode cX10_firstGo 46 = .ok (.iload_n 2, 1) := by decide +kernel
theorem dX10_firstGo_47 : decode cX10_firstGo 47 = .ok (.if_icmp .le 7, 3) := by decide +kernel
theorem dX10_firstGo_54 : decode cX10_firstGo 54 = .ok (.iload_n 2, 1) := by decide +kernel
theorem dX10_firstGo_55 : decode cX10_firstGo 55 = .ok (.invokestatic 201, 3) := by decide +kernel
theorem dX10_firstGo_58 : decode cX10_firstGo 58 = .ok (.aload_n 0, 1) := by decide +kernel
theorem dX10_firstGo_59 : decode cX10_firstGo 59 = .ok (.getfield 44, 3) := by decide +kernel
theorem dX10_firstGo_62 : decode cX10_firstGo 62 = .ok (.iload_n 1, 1) := by decide +kernel
theorem dX10_firstGo_63 : decode cX10_firstGo 63 = .ok (.iload_n 2, 1) := by decide +kernel
theorem dX10_firstGo_64 : decode cX10_firstGo 64 = .ok (.if_icmp .le 7, 3) := by decide +kernel
theorem dX10_firstGo_71 : decode cX10_firstGo 71 = .ok (.iload_n 1, 1) := by decide +kernel
theorem dX10_firstGo_72 : decode cX10_firstGo 72 = .ok (.invokestatic 201, 3) := by decide +kernel
theorem dX10_firstGo_75 : decode cX10_firstGo 75 = .ok (.iconst 1, 1) := by decide +kernel
theorem dX10_firstGo_76 : decode cX10_firstGo 76 = .ok (.ireturn, 1) := by decide +kernel
theorem dX10_firstGo_67 : decode cX10_firstGo 67 = .ok (.iload_n 2, 1) := by decide +kernel
theorem dX10_firstGo_68 : decode cX10_firstGo 68 = .ok (.goto 4, 3) := by decide +kernel
theorem dX10_firstGo_50 : decode cX10_firstGo 50 = .ok (.iload_n 1, 1) := by decide +kernel
theorem dX10_firstGo_51 : decode cX10_firstGo 51 = .ok (.goto 4, 3) := by decide +kernel
theorem dX10_firstGo_83 : decode cX10_firstGo 83 = .ok (.iinc 1 1, 3) := by decide +kernel
theorem dX10_firstGo_86 : decode cX10_firstGo 86 = .ok (.goto (-84), 3) := by decide +kernel
theorem dX10_firstGo_89 : decode cX10_firstGo 89 = .ok (.iconst 0, 1) := by decide +kernel
theorem dX10_firstGo_90 : decode cX10_firstGo 90 = .ok (.ireturn, 1) := by decide +kernel
theorem dX10_year_0 : decode cX10_year 0 = .ok (.iload_n 1, 1) := by decide +kernel
theorem dX10_year_1 : decode cX10_year 1 = .ok (.iconst 0, 1) := by decide +kernel
theorem dX10_year_2 : decode cX10_year 2 = .ok (.sipush 9999, 3) := by decide +kernel
theorem dX10_year_5 : decode cX10_year 5 = .ok (.invokestatic 90, 3) := by decide +kernel
theorem dX10_year_8 : decode cX10_year 8 = .ok (.ifCond .eq 22, 3) := by decide +kernel
theorem dX10_year_30 : decode cX10_year 30 = .ok (.iconst (-1), 1) := by decide +kernel
theorem dX10_year_31 : decode cX10_year 31 = .ok (.ireturn, 1) := by decide +kernel
theorem dX10_year_11 : decode cX10_year 11 = .ok (.iload_n 2, 1) := by decide +kernel
theorem dX10_year_12 : decode cX10_year 12 = .ok (.iconst 1, 1) := by decide +kernel
theorem dX10_year_13 : decode cX10_year 13 = .ok (.bipush 60, 2) := by decide +kernel
theorem dX10_year_15 : decode cX10_year 15 = .ok (.invokestatic 90, 3) := by decide +kernel
theorem dX10_year_18 : decode cX10_year 18 = .ok (.ifCond .eq 12, 3) := by decide +kernel
theorem dX10_year_21 : decode cX10_year 21 = .ok (.iload_n 3, 1) := by decide +kernel
theorem dX10_year_22 : decode cX10_year 22 = .ok (.iconst 0, 1) := by decide +kernel
theorem dX10_year_23 : decode cX10_year 23 = .ok (.iconst 1, 1) := by decide +kernel
theorem dX10_year_24 : decode cX10_year 24 = .ok (.invokestatic 90, 3) := by decide +kernel
theorem dX10_year_27 : decode cX10_year 27 = .ok (.ifCond .ne 5, 3) := by decide +kernel
theorem dX10_year_32 : decode cX10_year 32 = .ok (.aload_n 0, 1) := by decide +kernel
theorem dX10_year_33 : decode cX10_year 33 = .ok (.invokevirtual 191, 3) := by decide +kernel
theorem dX10_year_36 : decode cX10_year 36 = .ok (.iconst 0, 1) := by decide +kernel
theorem dX10_year_37 : decode cX10_year 37 = .ok (.istore 4, 2) := by decide +kernel
theorem dX10_year_39 : decode cX10_year 39 = .ok (.iconst 0, 1) := by decide +kernel
theorem dX10_year_40 : decode cX10_year 40 = .ok (.istore 5, 2) := by decide +kernel
theorem dX10_year_42 : decode cX10_year 42 = .ok (.iload 5, 2) := by decide +kernel
theorem dX10_year_44 : decode cX10_year 44 = .ok (.iload_n 2, 1) := by decide +kernel
theorem dX10_year_45 : decode cX10_year 45 = .ok (.if_icmp .ge 113, 3) := by decide +kernel
theorem kw1132 : Cond.constantLong RX10 241 (7919) ∈ Tg := mem_Tg (List.mem_append_right _ (List.mem_of_getElem? (i := 1132) (by decide +kernel))) (by decide +kernel)
theorem dX10_year_48 : decode cX10_year 48 = .ok (.ldc2_w 241, 3) := by decide +kernel
theorem dX10_year_51 : decode cX10_year 51 = .ok (.iload_n 1, 1) := by decide +kernel
theorem dX10_year_52 : decode cX10_year 52 = .ok (.i2l, 1) := by decide +kernel
theorem dX10_year_53 : decode cX10_year 53 = .ok (.lmul, 1) := by decide +kernel
theorem kw1133 : Cond.constantLong RX10 243 (6151) ∈ Tg := mem_Tg (List.mem_append_right _ (List.mem_of_getElem? (i := 1133) (by decide +kernel))) (by decide +kernel)
theorem dX10_year_54 : decode cX10_year 54 = .ok (.ldc2_w 243, 3) := by decide +kernel
theorem dX10_year_57 : decode cX10_year 57 = .ok (.iload 5, 2) := by decide +kernel
theorem dX10_year_59 : decode cX10_year 59 = .ok (.i2l, 1) := by decide +kernel
theorem dX10_year_60 : decode cX10_year 60 = .ok (.lmul, 1) := by decide +kernel
theorem dX10_year_61 : decode cX10_year 61 = .ok (.ladd, 1) := by decide +kernel
theorem dX10_year_62 : decode cX10_year 62 = .ok (.lconst 1, 1) := by decide +kernel
theorem dX10_year_63 : decode cX10_year 63 = .ok (.ladd, 1) := by decide +kernel
theorem dX10_year_64 : decode cX10_year 64 = .ok (.lstore 6, 2) := by decide +kernel
theorem dX10_year_66 : decode cX10_year 66 = .ok (.lload 6, 2) := by decide +kernel
theorem dX10_year_68 : decode cX10_year 68 = .ok (.lload 6, 2) := by decide +kernel
theorem dX10_year_70 : decode cX10_year 70 = .ok (.lmul, 1) := by decide +kernel
theorem kw1134 : Cond.constantLong RX10 245 (65521) ∈ Tg := mem_Tg (List.mem_append_right _ (List.mem_of_getElem? (i := 1134) (by decide +kernel))) (by decide +kernel)
theorem dX10_year_71 : decode cX10_year 71 = .ok (.ldc2_w 245, 3) := by decide +kernel
theorem dX10_year_74 : decode cX10_year 74 = .ok (.lrem, 1) := by decide +kernel
theorem kw1135 : Cond.constantLong RX10 247 (4) ∈ Tg := mem_Tg (List.mem_append_right _ (List.mem_of_getElem? (i := 1135) (by decide +kernel))) (by decide +kernel)
theorem dX10_year_75 : decode cX10_year 75 = .ok (.ldc2_w 247, 3) := by decide +kernel
theorem dX10_year_78 : decode cX10_year 78 = .ok (.ldiv, 1) := by decide +kernel
theorem dX10_year_79 : decode cX10_year 79 = .ok (.l2i, 1) := by decide +kernel
theorem dX10_year_80 : decode cX10_year 80 = .ok (.istore 8, 2) := by decide +kernel
theorem dX10_year_82 : decode cX10_year 82 = .ok (.aload_n 0, 1) := by decide +kernel
theorem dX10_year_83 : decode cX10_year 83 = .ok (.getfield 44, 3) := by decide +kernel
theorem dX10_year_86 : decode cX10_year 86 = .ok (.iconst 1, 1) := by decide +kernel
theorem dX10_year_87 : decode cX10_year 87 = .ok (.iaload, 1) := by decide +kernel
theorem dX10_year_88 : decode cX10_year 88 = .ok (.bipush 10, 2) := by decide +kernel
theorem dX10_year_90 : decode cX10_year 90 = .ok (.if_icmp .ge 35, 3) := by decide +kernel
theorem dX10_year_125 : decode cX10_year 125 = .ok (.iload 4, 2) := by decide +kernel
theorem dX10_year_127 : decode cX10_year 127 = .ok (.aload_n 0, 1) := by decide +kernel
theorem kw1139 : Cond.code yX10_firstGo cX10_firstGo 3 (some .boolean) ∈ Tg := mem_Tg (List.mem_append_right _ (List.mem_of_getElem? (i := 1139) (by decide +kernel))) (by decide +kernel)
theorem dX10_year_128 : decode cX10_year 128 = .ok (.invokevirtual 249, 3) := by decide +kernel
theorem dX10_year_131 : decode cX10_year 131 = .ok (.ifCond .eq 7, 3) := by decide +kernel
theorem dX10_year_138 : decode cX10_year 138 = .ok (.iconst 0, 1) := by decide +kernel
theorem dX10_year_139 : decode cX10_year 139 = .ok (.iadd, 1) := by decide +kernel
theorem dX10_year_140 : decode cX10_year 140 = .ok (.istore 4, 2) := by decide +kernel
theorem dX10_year_142 : decode cX10_year 142 = .ok (.aload_n 0, 1) := by decide +kernel
theorem dX10_year_143 : decode cX10_year 143 = .ok (.getfield 44, 3) := by decide +kernel
theorem dX10_year_146 : decode cX10_year 146 = .ok (.iconst 0, 1) := by decide +kernel
theorem dX10_year_147 : decode cX10_year 147 = .ok (.dup2, 1) := by decide +kernel
theorem dX10_year_148 : decode cX10_year 148 = .ok (.iaload, 1) := by decide +kernel
theorem dX10_year_149 : decode cX10_year 149 = .ok (.iconst 1, 1) := by decide +kernel
theorem dX10_year_150 : decode cX10_year 150 = .ok (.iadd, 1) := by decide +kernel
theorem dX10_year_151 : decode cX10_year 151 = .ok (.iastore, 1) := by decide +kernel
theorem dX10_year_152 : decode cX10_year 152 = .ok (.iinc 5 1, 3) := by decide +kernel
theorem dX10_year_155 : decode cX10_year 155 = .ok (.goto (-113), 3) := by decide +kernel
theorem dX10_year_134 : decode cX10_year 134 = .ok (.iconst 1, 1) := by decide +kernel
theorem dX10_year_135 : decode cX10_year 135 = .ok (.goto 4, 3) := by decide +kernel
theorem dX10_year_93 : decode cX10_year 93 = .ok (.aload_n 0, 1) := by decide +kernel
theorem dX10_year_94 : decode cX10_year 94 = .ok (.getfield 44, 3) := by decide +kernel
theorem dX10_year_97 : decode cX10_year 97 = .ok (.iconst 0, 1) := by decide +kernel
theorem dX10_year_98 : decode cX10_year 98 = .ok (.iload 8, 2) := by decide +kernel
theorem dX10_year_100 : decode cX10_year 100 = .ok (.iconst 2, 1) := by decide +kernel
theorem dX10_year_101 : decode cX10_year 101 = .ok (.irem, 1) := by decide +kernel
theorem dX10_year_102 : decode cX10_year 102 = .ok (.bipush 30, 2) := by decide +kernel
theorem dX10_year_104 : decode cX10_year 104 = .ok (.iload 8, 2) := by decide +kernel
theorem dX10_year_106 : decode cX10_year 106 = .ok (.iconst 2, 1) := by decide +kernel
theorem dX10_year_107 : decode cX10_year 107 = .ok (.idiv, 1) := by decide +kernel
theorem dX10_year_108 : decode cX10_year 108 = .ok (.bipush 12, 2) := by decide +kernel
theorem dX10_year_110 : decode cX10_year 110 = .ok (.irem, 1) := by decide +kernel
theorem dX10_year_111 : decode cX10_year 111 = .ok (.iadd, 1) := by decide +kernel
theorem dX10_year_112 : decode cX10_year 112 = .ok (.bipush 10, 2) := by decide +kernel
theorem dX10_year_114 : decode cX10_year 114 = .ok (.iload 8, 2) := by decide +kernel
theorem dX10_year_116 : decode cX10_year 116 = .ok (.bipush 32, 2) := by decide +kernel
theorem dX10_year_118 : decode cX10_year 118 = .ok (.idiv, 1) := by decide +kernel
theorem dX10_year_119 : decode cX10_year 119 = .ok (.iconst 5, 1) := by decide +kernel
theorem dX10_year_120 : decode cX10_year 120 = .ok (.irem, 1) := by decide +kernel
theorem dX10_year_121 : decode cX10_year 121 = .ok (.iadd, 1) := by decide +kernel
theorem dX10_year_122 : decode cX10_year 122 = .ok (.invokestatic 83, 3) := by decide +kernel
theorem dX10_year_158 : decode cX10_year 158 = .ok (.iload_n 3, 1) := by decide +kernel
theorem dX10_year_159 : decode cX10_year 159 = .ok (.ifCond .ne 8, 3) := by decide +kernel
theorem dX10_year_167 : decode cX10_year 167 = .ok (.aload_n 0, 1) := by decide +kernel
theorem dX10_year_168 : decode cX10_year 168 = .ok (.getfield 44, 3) := by decide +kernel
theorem dX10_year_171 : decode cX10_year 171 = .ok (.iconst 1, 1) := by decide +kernel
theorem dX10_year_172 : decode cX10_year 172 = .ok (.iaload, 1) := by decide +kernel
theorem dX10_year_173 : decode cX10_year 173 = .ok (.ireturn, 1) := by decide +kernel
theorem dX10_year_162 : decode cX10_year 162 = .ok (.iload 4, 2) := by decide +kernel
theorem dX10_year_164 : decode cX10_year 164 = .ok (.goto 9, 3) := by decide +kernel
theorem dX10_keep_0 : decode cX10_keep 0 = .ok (.aload_n 0, 1) := by decide +kernel
theorem dX10_keep_1 : decode cX10_keep 1 = .ok (.getfield 163, 3) := by decide +kernel
theorem dX10_keep_4 : decode cX10_keep 4 = .ok (.iconst 2, 1) := by decide +kernel
theorem dX10_keep_5 : decode cX10_keep 5 = .ok (.if_icmp .ne 6, 3) := by decide +kernel
theorem dX10_keep_11 : decode cX10_keep 11 = .ok (.aload_n 0, 1) := by decide +kernel
theorem dX10_keep_12 : decode cX10_keep 12 = .ok (.getfield 23, 3) := by decide +kernel
theorem dX10_keep_15 : decode cX10_keep 15 = .ok (.bipush 52, 2) := by decide +kernel
theorem dX10_keep_17 : decode cX10_keep 17 = .ok (.aload_n 0, 1) := by decide +kernel
theorem dX10_keep_18 : decode cX10_keep 18 = .ok (.getfield 163, 3) := by decide +kernel
theorem dX10_keep_21 : decode cX10_keep 21 = .ok (.imul, 1) := by decide +kernel
theorem dX10_keep_22 : decode cX10_keep 22 = .ok (.aload_n 0, 1) := by decide +kernel
theorem dX10_keep_23 : decode cX10_keep 23 = .ok (.getfield 17, 3) := by decide +kernel
theorem dX10_keep_26 : decode cX10_keep 26 = .ok (.iconst 0, 1) := by decide +kernel
theorem dX10_keep_27 : decode cX10_keep 27 = .ok (.bipush 52, 2) := by decide +kernel
theorem dX10_keep_29 : decode cX10_keep 29 = .ok (.invokestatic 144, 3) := by decide +kernel
theorem dX10_keep_32 : decode cX10_keep 32 = .ok (.aload_n 0, 1) := by decide +kernel
theorem dX10_keep_33 : decode cX10_keep 33 = .ok (.dup, 1) := by decide +kernel
theorem dX10_keep_34 : decode cX10_keep 34 = .ok (.getfield 163, 3) := by decide +kernel
theorem dX10_keep_37 : decode cX10_keep 37 = .ok (.iconst 1, 1) := by decide +kernel
theorem dX10_keep_38 : decode cX10_keep 38 = .ok (.iadd, 1) := by decide +kernel
theorem dX10_keep_39 : decode cX10_keep 39 = .ok (.putfield 163, 3) := by decide +kernel
theorem dX10_keep_42 : decode cX10_keep 42 = .ok (.aload_n 0, 1) := by decide +kernel
theorem dX10_keep_43 : decode cX10_keep 43 = .ok (.getfield 163, 3) := by decide +kernel
theorem dX10_keep_46 : decode cX10_keep 46 = .ok (.ireturn, 1) := by decide +kernel
theorem dX10_keep_8 : decode cX10_keep 8 = .ok (.bipush (-3), 2) := by decide +kernel
theorem dX10_keep_10 : decode cX10_keep 10 = .ok (.ireturn, 1) := by decide +kernel
theorem dX10_back_0 : decode cX10_back 0 = .ok (.aload_n 0, 1) := by decide +kernel
theorem dX10_back_1 : decode cX10_back 1 = .ok (.getfield 163, 3) := by decide +kernel
theorem dX10_back_4 : decode cX10_back 4 = .ok (.ifCond .ne 6, 3) := by decide +kernel
theorem dX10_back_10 : decode cX10_back 10 = .ok (.aload_n 0, 1) := by decide +kernel
theorem dX10_back_11 : decode cX10_back 11 = .ok (.dup, 1) := by decide +kernel
theorem dX10_back_12 : decode cX10_back 12 = .ok (.getfield 163, 3) := by decide +kernel
theorem dX10_back_15 : decode cX10_back 15 = .ok (.iconst 1, 1) := by decide +kernel
theorem dX10_back_16 : decode cX10_back 16 = .ok (.isub, 1) := by decide +kernel
theorem dX10_back_17 : decode cX10_back 17 = .ok (.putfield 163, 3) := by decide +kernel
theorem dX10_back_20 : decode cX10_back 20 = .ok (.aload_n 0, 1) := by decide +kernel
theorem dX10_back_21 : decode cX10_back 21 = .ok (.getfield 17, 3) := by decide +kernel
theorem dX10_back_24 : decode cX10_back 24 = .ok (.iconst 0, 1) := by decide +kernel
theorem dX10_back_25 : decode cX10_back 25 = .ok (.aload_n 0, 1) := by decide +kernel
theorem dX10_back_26 : decode cX10_back 26 = .ok (.getfield 23, 3) := by decide +kernel
theorem dX10_back_29 : decode cX10_back 29 = .ok (.bipush 52, 2) := by decide +kernel
theorem dX10_back_31 : decode cX10_back 31 = .ok (.aload_n 0, 1) := by decide +kernel
theorem dX10_back_32 : decode cX10_back 32 = .ok (.getfield 163, 3) := by decide +kernel
theorem dX10_back_35 : decode cX10_back 35 = .ok (.imul, 1) := by decide +kernel
theorem dX10_back_36 : decode cX10_back 36 = .ok (.bipush 52, 2) := by decide +kernel
theorem dX10_back_38 : decode cX10_back 38 = .ok (.invokestatic 144, 3) := by decide +kernel
theorem dX10_back_41 : decode cX10_back 41 = .ok (.aload_n 0, 1) := by decide +kernel
theorem dX10_back_42 : decode cX10_back 42 = .ok (.iconst 0, 1) := by decide +kernel
theorem dX10_back_43 : decode cX10_back 43 = .ok (.putfield 160, 3) := by decide +kernel
theorem dX10_back_46 : decode cX10_back 46 = .ok (.aload_n 0, 1) := by decide +kernel
theorem dX10_back_47 : decode cX10_back 47 = .ok (.getfield 163, 3) := by decide +kernel
theorem dX10_back_50 : decode cX10_back 50 = .ok (.ireturn, 1) := by decide +kernel
theorem dX10_back_7 : decode cX10_back 7 = .ok (.bipush (-2), 2) := by decide +kernel
theorem dX10_back_9 : decode cX10_back 9 = .ok (.ireturn, 1) := by decide +kernel
theorem dX10_knots_0 : decode cX10_knots 0 = .ok (.iconst 0, 1) := by decide +kernel
theorem dX10_knots_1 : decode cX10_knots 1 = .ok (.istore_n 1, 1) := by decide +kernel
theorem dX10_knots_2 : decode cX10_knots 2 = .ok (.iconst 0, 1) := by decide +kernel
theorem dX10_knots_3 : decode cX10_knots 3 = .ok (.istore_n 2, 1) := by decide +kernel
theorem dX10_knots_4 : decode cX10_knots 4 = .ok (.iload_n 2, 1) := by decide +kernel
theorem dX10_knots_5 : decode cX10_knots 5 = .ok (.aload_n 0, 1) := by decide +kernel
theorem dX10_knots_6 : decode cX10_knots 6 = .ok (.getfield 151, 3) := by decide +kernel
theorem dX10_knots_9 : decode cX10_knots 9 = .ok (.if_icmp .ge 26, 3) := by decide +kernel
theorem dX10_knots_12 : decode cX10_knots 12 = .ok (.iload_n 1, 1) := by decide +kernel
theorem dX10_knots_13 : decode cX10_knots 13 = .ok (.aload_n 0, 1) := by decide +kernel
theorem dX10_knots_14 : decode cX10_knots 14 = .ok (.getfield 13, 3) := by decide +kernel
theorem dX10_knots_17 : decode cX10_knots 17 = .ok (.iload_n 2, 1) := by decide +kernel
theorem dX10_knots_18 : decode cX10_knots 18 = .ok (.baload, 1) := by decide +kernel
theorem dX10_knots_19 : decode cX10_knots 19 = .ok (.ifCond .eq 7, 3) := by decide +kernel
theorem dX10_knots_26 : decode cX10_knots 26 = .ok (.iconst 0, 1) := by decide +kernel
theorem dX10_knots_27 : decode cX10_knots 27 = .ok (.iadd, 1) := by decide +kernel
theorem dX10_knots_28 : decode cX10_knots 28 = .ok (.istore_n 1, 1) := by decide +kernel
theorem dX10_knots_29 : decode cX10_knots 29 = .ok (.iinc 2 1, 3) := by decide +kernel
theorem dX10_knots_32 : decode cX10_knots 32 = .ok (.goto (-28), 3) := by decide +kernel
theorem dX10_knots_22 : decode cX10_knots 22 = .ok (.iconst 1, 1) := by decide +kernel
theorem dX10_knots_23 : decode cX10_knots 23 = .ok (.goto 4, 3) := by decide +kernel
theorem dX10_knots_35 : decode cX10_knots 35 = .ok (.iload_n 1, 1) := by decide +kernel
theorem dX10_knots_36 : decode cX10_knots 36 = .ok (.ireturn, 1) := by decide +kernel
theorem dX10_holed_0 : decode cX10_holed 0 = .ok (.iconst 0, 1) := by decide +kernel
theorem dX10_holed_1 : decode cX10_holed 1 = .ok (.istore_n 1, 1) := by decide +kernel
theorem dX10_holed_2 : decode cX10_holed 2 = .ok (.iconst 0, 1) := by decide +kernel
theorem dX10_holed_3 : decode cX10_holed 3 = .ok (.istore_n 2, 1) := by decide +kernel
theorem dX10_holed_4 : decode cX10_holed 4 = .ok (.iload_n 2, 1) := by decide +kernel
theorem dX10_holed_5 : decode cX10_holed 5 = .ok (.aload_n 0, 1) := by decide +kernel
theorem dX10_holed_6 : decode cX10_holed 6 = .ok (.getfield 17, 3) := by decide +kernel
theorem dX10_holed_9 : decode cX10_holed 9 = .ok (.iconst 1, 1) := by decide +kernel
theorem dX10_holed_10 : decode cX10_holed 10 = .ok (.iaload, 1) := by decide +kernel
theorem dX10_holed_11 : decode cX10_holed 11 = .ok (.if_icmp .ge 31, 3) := by decide +kernel
theorem dX10_holed_14 : decode cX10_holed 14 = .ok (.iload_n 1, 1) := by decide +kernel
theorem dX10_holed_15 : decode cX10_holed 15 = .ok (.aload_n 0, 1) := by decide +kernel
theorem dX10_holed_16 : decode cX10_holed 16 = .ok (.getfield 17, 3) := by decide +kernel
theorem dX10_holed_19 : decode cX10_holed 19 = .ok (.iconst 2, 1) := by decide +kernel
theorem dX10_holed_20 : decode cX10_holed 20 = .ok (.iconst 5, 1) := by decide +kernel
theorem dX10_holed_21 : decode cX10_holed 21 = .ok (.iload_n 2, 1) := by decide +kernel
theorem dX10_holed_22 : decode cX10_holed 22 = .ok (.imul, 1) := by decide +kernel
theorem dX10_holed_23 : decode cX10_holed 23 = .ok (.iadd, 1) := by decide +kernel
theorem dX10_holed_24 : decode cX10_holed 24 = .ok (.iaload, 1) := by decide +kernel
theorem dX10_holed_25 : decode cX10_holed 25 = .ok (.iconst 2, 1) := by decide +kernel
theorem dX10_holed_26 : decode cX10_holed 26 = .ok (.if_icmp .ne 7, 3) := by decide +kernel
theorem dX10_holed_33 : decode cX10_holed 33 = .ok (.iconst 0, 1) := by decide +kernel
theorem dX10_holed_34 : decode cX10_holed 34 = .ok (.iadd, 1) := by decide +kernel
theorem dX10_holed_35 : decode cX10_holed 35 = .ok (.istore_n 1, 1) := by decide +kernel
theorem dX10_holed_36 : decode cX10_holed 36 = .ok (.iinc 2 1, 3) := by decide +kernel
theorem dX10_holed_39 : decode cX10_holed 39 = .ok (.goto (-35), 3) := by decide +kernel
theorem dX10_holed_29 : decode cX10_holed 29 = .ok (.iconst 1, 1) := by decide +kernel
theorem dX10_holed_30 : decode cX10_holed 30 = .ok (.goto 4, 3) := by decide +kernel
theorem dX10_holed_42 : decode cX10_holed 42 = .ok (.iload_n 1, 1) := by decide +kernel
theorem dX10_holed_43 : decode cX10_holed 43 = .ok (.ireturn, 1) := by decide +kernel
theorem dX10_count_0 : decode cX10_count 0 = .ok (.iload_n 1, 1) := by decide +kernel
theorem dX10_count_1 : decode cX10_count 1 = .ok (.tableswitch 109 0 9 #[55, 62, 67, 74, 79, 84, 89, 94, 99, 104], 55) := by decide +kernel
theorem dX10_count_56 : decode cX10_count 56 = .ok (.aload_n 0, 1) := by decide +kernel
theorem dX10_count_57 : decode cX10_count 57 = .ok (.getfield 17, 3) := by decide +kernel
theorem dX10_count_60 : decode cX10_count 60 = .ok (.iconst 1, 1) := by decide +kernel
theorem dX10_count_61 : decode cX10_count 61 = .ok (.iaload, 1) := by decide +kernel
theorem dX10_count_62 : decode cX10_count 62 = .ok (.ireturn, 1) := by decide +kernel
theorem dX10_count_63 : decode cX10_count 63 = .ok (.aload_n 0, 1) := by decide +kernel
theorem dX10_count_64 : decode cX10_count 64 = .ok (.getfield 148, 3) := by decide +kernel
theorem dX10_count_67 : decode cX10_count 67 = .ok (.ireturn, 1) := by decide +kernel
theorem dX10_count_68 : decode cX10_count 68 = .ok (.aload_n 0, 1) := by decide +kernel
theorem dX10_count_69 : decode cX10_count 69 = .ok (.getfield 17, 3) := by decide +kernel
theorem dX10_count_72 : decode cX10_count 72 = .ok (.iconst 0, 1) := by decide +kernel
theorem dX10_count_73 : decode cX10_count 73 = .ok (.iaload, 1) := by decide +kernel
theorem dX10_count_74 : decode cX10_count 74 = .ok (.ireturn, 1) := by decide +kernel
theorem dX10_count_75 : decode cX10_count 75 = .ok (.aload_n 0, 1) := by decide +kernel
theorem kw1155 : Cond.code yX10_knots cX10_knots 3 (some .int) ∈ Tg := mem_Tg (List.mem_append_right _ (List.mem_of_getElem? (i := 1155) (by decide +kernel))) (by decide +kernel)
theorem dX10_count_76 : decode cX10_count 76 = .ok (.invokevirtual 252, 3) := by decide +kernel
theorem dX10_count_79 : decode cX10_count 79 = .ok (.ireturn, 1) := by decide +kernel
theorem dX10_count_80 : decode cX10_count 80 = .ok (.aload_n 0, 1) := by decide +kernel
theorem kw1159 : Cond.code yX10_holed cX10_holed 3 (some .int) ∈ Tg := mem_Tg (List.mem_append_right _ (List.mem_of_getElem? (i := 1159) (by decide +kernel))) (by decide +kernel)
theorem dX10_count_81 : decode cX10_count 81 = .ok (.invokevirtual 255, 3) := by decide +kernel
theorem dX10_count_84 : decode cX10_count 84 = .ok (.ireturn, 1) := by decide +kernel
theorem dX10_count_85 : decode cX10_count 85 = .ok (.aload_n 0, 1) := by decide +kernel
theorem dX10_count_86 : decode cX10_count 86 = .ok (.getfield 166, 3) := by decide +kernel
theorem dX10_count_89 : decode cX10_count 89 = .ok (.ireturn, 1) := by decide +kernel
theorem dX10_count_90 : decode cX10_count 90 = .ok (.aload_n 0, 1) := by decide +kernel
theorem dX10_count_91 : decode cX10_count 91 = .ok (.getfield 160, 3) := by decide +kernel
theorem dX10_count_94 : decode cX10_count 94 = .ok (.ireturn, 1) := by decide +kernel
theorem dX10_count_95 : decode cX10_count 95 = .ok (.aload_n 0, 1) := by decide +kernel
theorem dX10_count_96 : decode cX10_count 96 = .ok (.getfield 163, 3) := by decide +kernel
theorem dX10_count_99 : decode cX10_count 99 = .ok (.ireturn, 1) := by decide +kernel
theorem dX10_count_100 : decode cX10_count 100 = .ok (.aload_n 0, 1) := by decide +kernel
theorem dX10_count_101 : decode cX10_count 101 = .ok (.getfield 94, 3) := by decide +kernel
theorem dX10_count_104 : decode cX10_count 104 = .ok (.ireturn, 1) := by decide +kernel
theorem dX10_count_105 : decode cX10_count 105 = .ok (.aload_n 0, 1) := by decide +kernel
theorem dX10_count_106 : decode cX10_count 106 = .ok (.getfield 157, 3) := by decide +kernel
theorem dX10_count_109 : decode cX10_count 109 = .ok (.ireturn, 1) := by decide +kernel
theorem dX10_count_110 : decode cX10_count 110 = .ok (.iconst (-1), 1) := by decide +kernel
theorem dX10_count_111 : decode cX10_count 111 = .ok (.ireturn, 1) := by decide +kernel
theorem dX9_write_0 : decode cX9_write 0 = .ok (.iload_n 1, 1) := by decide +kernel
theorem dX9_write_1 : decode cX9_write 1 = .ok (.bipush 32, 2) := by decide +kernel
theorem dX9_write_3 : decode cX9_write 3 = .ok (.bipush 126, 2) := by decide +kernel
theorem dX9_write_5 : decode cX9_write 5 = .ok (.invokestatic 99, 3) := by decide +kernel
theorem dX9_write_8 : decode cX9_write 8 = .ok (.ifCond .ne 5, 3) := by decide +kernel
theorem dX9_write_13 : decode cX9_write 13 = .ok (.aload_n 0, 1) := by decide +kernel
theorem dX9_write_14 : decode cX9_write 14 = .ok (.getfield 10, 3) := by decide +kernel
theorem dX9_write_17 : decode cX9_write 17 = .ok (.getfield 103, 3) := by decide +kernel
theorem dX9_write_20 : decode cX9_write 20 = .ok (.sipush 200, 3) := by decide +kernel
theorem dX9_write_23 : decode cX9_write 23 = .ok (.if_icmp .lt 6, 3) := by decide +kernel
theorem dX9_write_29 : decode cX9_write 29 = .ok (.aload_n 0, 1) := by decide +kernel
theorem dX9_write_30 : decode cX9_write 30 = .ok (.getfield 10, 3) := by decide +kernel
theorem dX9_write_33 : decode cX9_write 33 = .ok (.iload_n 1, 1) := by decide +kernel
theorem kw285 : Cond.code yX5_append cX5_append 2 none ∈ Tg := mem_Tg (List.mem_append_right _ (List.mem_of_getElem? (i := 285) (by decide +kernel))) (by decide +kernel)
theorem dX9_write_34 : decode cX9_write 34 = .ok (.invokevirtual 89, 3) := by decide +kernel
theorem dX9_write_37 : decode cX9_write 37 = .ok (.aload_n 0, 1) := by decide +kernel
theorem dX9_write_38 : decode cX9_write 38 = .ok (.getfield 10, 3) := by decide +kernel
theorem dX9_write_41 : decode cX9_write 41 = .ok (.getfield 103, 3) := by decide +kernel
theorem dX9_write_44 : decode cX9_write 44 = .ok (.ireturn, 1) := by decide +kernel
theorem dX9_write_26 : decode cX9_write 26 = .ok (.bipush (-3), 2) := by decide +kernel
theorem dX9_write_28 : decode cX9_write 28 = .ok (.ireturn, 1) := by decide +kernel
theorem dX9_write_11 : decode cX9_write 11 = .ok (.iconst (-1), 1) := by decide +kernel
theorem dX9_write_12 : decode cX9_write 12 = .ok (.ireturn, 1) := by decide +kernel
theorem dX9_wipe_0 : decode cX9_wipe 0 = .ok (.aload_n 0, 1) := by decide +kernel
theorem dX9_wipe_1 : decode cX9_wipe 1 = .ok (.getfield 10, 3) := by decide +kernel
theorem dX9_wipe_4 : decode cX9_wipe 4 = .ok (.getfield 103, 3) := by decide +kernel
theorem dX9_wipe_7 : decode cX9_wipe 7 = .ok (.istore_n 1, 1) := by decide +kernel
theorem dX9_wipe_8 : decode cX9_wipe 8 = .ok (.aload_n 0, 1) := by decide +kernel
theorem dX9_wipe_9 : decode cX9_wipe 9 = .ok (.getfield 10, 3) := by decide +kernel
theorem kw398 : Cond.code yX5_clear cX5_clear 1 none ∈ Tg := mem_Tg (List.mem_append_right _ (List.mem_of_getElem? (i := 398) (by decide +kernel))) (by decide +kernel)
theorem dX9_wipe_12 : decode cX9_wipe 12 = .ok (.invokevirtual 96, 3) := by decide +kernel
theorem dX9_wipe_15 : decode cX9_wipe 15 = .ok (.iload_n 1, 1) := by decide +kernel
theorem dX9_wipe_16 : decode cX9_wipe 16 = .ok (.ireturn, 1) := by decide +kernel
theorem dX9_fault_0 : decode cX9_fault 0 = .ok (.aload_n 0, 1) := by decide +kernel
theorem dX9_fault_1 : decode cX9_fault 1 = .ok (.getfield 19, 3) := by decide +kernel
theorem dX9_fault_4 : decode cX9_fault 4 = .ok (.aload_n 0, 1) := by decide +kernel
theorem dX9_fault_5 : decode cX9_fault 5 = .ok (.getfield 10, 3) := by decide +kernel
theorem kw293 : Cond.code yX3_read cX3_read 5 (some .int) ∈ Tg := mem_Tg (List.mem_append_right _ (List.mem_of_getElem? (i := 293) (by decide +kernel))) (by decide +kernel)
theorem dX9_fault_8 : decode cX9_fault 8 = .ok (.invokevirtual 106, 3) := by decide +kernel
theorem dX9_fault_11 : decode cX9_fault 11 = .ok (.ireturn, 1) := by decide +kernel
theorem dX9_clog_0 : decode cX9_clog 0 = .ok (.aload_n 0, 1) := by decide +kernel
theorem dX9_clog_1 : decode cX9_clog 1 = .ok (.getfield 26, 3) := by decide +kernel
theorem dX9_clog_4 : decode cX9_clog 4 = .ok (.iload_n 1, 1) := by decide +kernel
theorem dX9_clog_5 : decode cX9_clog 5 = .ok (.invokevirtual 113, 3) := by decide +kernel
theorem dX9_clog_8 : decode cX9_clog 8 = .ok (.ifCond .eq 12, 3) := by decide +kernel
theorem dX9_clog_20 : decode cX9_clog 20 = .ok (.iconst (-1), 1) := by decide +kernel
theorem dX9_clog_21 : decode cX9_clog 21 = .ok (.ireturn, 1) := by decide +kernel
theorem dX9_clog_11 : decode cX9_clog 11 = .ok (.iload_n 2, 1) := by decide +kernel
theorem dX9_clog_12 : decode cX9_clog 12 = .ok (.iconst 0, 1) := by decide +kernel
theorem dX9_clog_13 : decode cX9_clog 13 = .ok (.iconst 4, 1) := by decide +kernel
theorem dX9_clog_14 : decode cX9_clog 14 = .ok (.invokestatic 99, 3) := by decide +kernel
theorem dX9_clog_17 : decode cX9_clog 17 = .ok (.ifCond .ne 5, 3) := by decide +kernel
theorem dX9_clog_22 : decode cX9_clog 22 = .ok (.iload_n 2, 1) := by decide +kernel
theorem dX9_clog_23 : decode cX9_clog 23 = .ok (.iconst 2, 1) := by decide +kernel
theorem dX9_clog_24 : decode cX9_clog 24 = .ok (.if_icmp .ne 19, 3) := by decide +kernel
theorem dX9_clog_43 : decode cX9_clog 43 = .ok (.iload_n 2, 1) := by decide +kernel
theorem dX9_clog_44 : decode cX9_clog 44 = .ok (.iconst 3, 1) := by decide +kernel
theorem dX9_clog_45 : decode cX9_clog 45 = .ok (.if_icmp .ne 19, 3) := by decide +kernel
theorem dX9_clog_64 : decode cX9_clog 64 = .ok (.aload_n 0, 1) := by decide +kernel
theorem dX9_clog_65 : decode cX9_clog 65 = .ok (.getfield 26, 3) := by decide +kernel
theorem dX9_clog_68 : decode cX9_clog 68 = .ok (.iload_n 1, 1) := by decide +kernel
theorem dX9_clog_69 : decode cX9_clog 69 = .ok (.iload_n 2, 1) := by decide +kernel
theorem dX9_clog_70 : decode cX9_clog 70 = .ok (.invokevirtual 127, 3) := by decide +kernel
theorem dX9_clog_73 : decode cX9_clog 73 = .ok (.ireturn, 1) := by decide +kernel
theorem dX9_clog_48 : decode cX9_clog 48 = .ok (.aload_n 0, 1) := by decide +kernel
theorem dX9_clog_49 : decode cX9_clog 49 = .ok (.getfield 26, 3) := by decide +kernel
theorem dX9_clog_52 : decode cX9_clog 52 = .ok (.iload_n 1, 1) := by decide +kernel
theorem dX9_clog_53 : decode cX9_clog 53 = .ok (.aload_n 0, 1) := by decide +kernel
theorem dX9_clog_54 : decode cX9_clog 54 = .ok (.getfield 26, 3) := by decide +kernel
theorem dX9_clog_57 : decode cX9_clog 57 = .ok (.getfield 117, 3) := by decide +kernel
theorem dX9_clog_60 : decode cX9_clog 60 = .ok (.invokevirtual 124, 3) := by decide +kernel
theorem dX9_clog_63 : decode cX9_clog 63 = .ok (.ireturn, 1) := by decide +kernel
theorem dX9_clog_27 : decode cX9_clog 27 = .ok (.aload_n 0, 1) := by decide +kernel
theorem dX9_clog_28 : decode cX9_clog 28 = .ok (.getfield 26, 3) := by decide +kernel
theorem dX9_clog_31 : decode cX9_clog 31 = .ok (.iload_n 1, 1) := by decide +kernel
theorem dX9_clog_32 : decode cX9_clog 32 = .ok (.aload_n 0, 1) := by decide +kernel
theorem dX9_clog_33 : decode cX9_clog 33 = .ok (.getfield 26, 3) := by decide +kernel
theorem dX9_clog_36 : decode cX9_clog 36 = .ok (.getfield 117, 3) := by decide +kernel
theorem dX9_clog_39 : decode cX9_clog 39 = .ok (.invokevirtual 120, 3) := by decide +kernel
theorem dX9_clog_42 : decode cX9_clog 42 = .ok (.ireturn, 1) := by decide +kernel
theorem dX9_feet_0 : decode cX9_feet 0 = .ok (.iload_n 1, 1) := by decide +kernel
theorem dX9_feet_1 : decode cX9_feet 1 = .ok (.iconst 0, 1) := by decide +kernel
theorem dX9_feet_2 : decode cX9_feet 2 = .ok (.aload_n 0, 1) := by decide +kernel
theorem dX9_feet_3 : decode cX9_feet 3 = .ok (.getfield 33, 3) := by decide +kernel
theorem dX9_feet_6 : decode cX9_feet 6 = .ok (.getfield 130, 3) := by decide +kernel
theorem dX9_feet_9 : decode cX9_feet 9 = .ok (.iconst 1, 1) := by decide +kernel
theorem dX9_feet_10 : decode cX9_feet 10 = .ok (.isub, 1) := by decide +kernel
theorem dX9_feet_11 : decode cX9_feet 11 = .ok (.invokestatic 99, 3) := by decide +kernel
theorem dX9_feet_14 : decode cX9_feet 14 = .ok (.ifCond .eq 10, 3) := by decide +kernel
theorem dX9_feet_24 : decode cX9_feet 24 = .ok (.iconst (-1), 1) := by decide +kernel
theorem dX9_feet_25 : decode cX9_feet 25 = .ok (.ireturn, 1) := by decide +kernel
theorem dX9_feet_17 : decode cX9_feet 17 = .ok (.iload_n 2, 1) := by decide +kernel
theorem dX9_feet_18 : decode cX9_feet 18 = .ok (.invokestatic 133, 3) := by decide +kernel
theorem dX9_feet_21 : decode cX9_feet 21 = .ok (.ifCond .ne 5, 3) := by decide +kernel
theorem dX9_feet_26 : decode cX9_feet 26 = .ok (.aload_n 0, 1) := by decide +kernel
theorem dX9_feet_27 : decode cX9_feet 27 = .ok (.getfield 33, 3) := by decide +kernel
theorem dX9_feet_30 : decode cX9_feet 30 = .ok (.iload_n 1, 1) := by decide +kernel
theorem dX9_feet_31 : decode cX9_feet 31 = .ok (.iload_n 2, 1) := by decide +kernel
theorem dX9_feet_32 : decode cX9_feet 32 = .ok (.invokevirtual 136, 3) := by decide +kernel
theorem dX9_feet_35 : decode cX9_feet 35 = .ok (.ireturn, 1) := by decide +kernel
theorem dX9_mates_0 : decode cX9_mates 0 = .ok (.aload_n 0, 1) := by decide +kernel
theorem dX9_mates_1 : decode cX9_mates 1 = .ok (.getfield 26, 3) := by decide +kernel
theorem dX9_mates_4 : decode cX9_mates 4 = .ok (.iload_n 1, 1) := by decide +kernel
theorem dX9_mates_5 : decode cX9_mates 5 = .ok (.invokevirtual 113, 3) := by decide +kernel
theorem dX9_mates_8 : decode cX9_mates 8 = .ok (.ifCond .ne 5, 3) := by decide +kernel
theorem dX9_mates_13 : decode cX9_mates 13 = .ok (.aload_n 0, 1) := by decide +kernel
theorem dX9_mates_14 : decode cX9_mates 14 = .ok (.getfield 26, 3) := by decide +kernel
theorem dX9_mates_17 : decode cX9_mates 17 = .ok (.iload_n 1, 1) := by decide +kernel
theorem dX9_mates_18 : decode cX9_mates 18 = .ok (.invokevirtual 168, 3) := by decide +kernel
theorem dX9_mates_21 : decode cX9_mates 21 = .ok (.ireturn, 1) := by decide +kernel
theorem dX9_mates_11 : decode cX9_mates 11 = .ok (.iconst (-1), 1) := by decide +kernel
theorem dX9_mates_12 : decode cX9_mates 12 = .ok (.ireturn, 1) := by decide +kernel
theorem dX9_pairs_0 : decode cX9_pairs 0 = .ok (.iload_n 1, 1) := by decide +kernel
theorem dX9_pairs_1 : decode cX9_pairs 1 = .ok (.bipush (-2), 2) := by decide +kernel
theorem dX9_pairs_3 : decode cX9_pairs 3 = .ok (.aload_n 0, 1) := by decide +kernel
theorem dX9_pairs_4 : decode cX9_pairs 4 = .ok (.getfield 26, 3) := by decide +kernel
theorem dX9_pairs_7 : decode cX9_pairs 7 = .ok (.getfield 110, 3) := by decide +kernel
theorem dX9_pairs_10 : decode cX9_pairs 10 = .ok (.iconst 1, 1) := by decide +kernel
theorem dX9_pairs_11 : decode cX9_pairs 11 = .ok (.isub, 1) := by decide +kernel
theorem dX9_pairs_12 : decode cX9_pairs 12 = .ok (.invokestatic 99, 3) := by decide +kernel
theorem dX9_pairs_15 : decode cX9_pairs 15 = .ok (.ifCond .ne 5, 3) := by decide +kernel
theorem dX9_pairs_20 : decode cX9_pairs 20 = .ok (.aload_n 0, 1) := by decide +kernel
theorem dX9_pairs_21 : decode cX9_pairs 21 = .ok (.getfield 66, 3) := by decide +kernel
theorem dX9_pairs_24 : decode cX9_pairs 24 = .ok (.aload_n 0, 1) := by decide +kernel
theorem dX9_pairs_25 : decode cX9_pairs 25 = .ok (.getfield 26, 3) := by decide +kernel
theorem kw566 : Cond.code yX1_look cX1_look 3 none ∈ Tg := mem_Tg (List.mem_append_right _ (List.mem_of_getElem? (i := 566) (by decide +kernel))) (by decide +kernel)
theorem dX9_pairs_28 : decode cX9_pairs 28 = .ok (.invokevirtual 172, 3) := by decide +kernel
theorem dX9_pairs_31 : decode cX9_pairs 31 = .ok (.aload_n 0, 1) := by decide +kernel
theorem dX9_pairs_32 : decode cX9_pairs 32 = .ok (.getfield 66, 3) := by decide +kernel
theorem kw579 : Cond.code yX1_match cX1_match 4 none ∈ Tg := mem_Tg (List.mem_append_right _ (List.mem_of_getElem? (i := 579) (by decide +kernel))) (by decide +kernel)
theorem dX9_pairs_35 : decode cX9_pairs 35 = .ok (.invokevirtual 175, 3) := by decide +kernel
theorem dX9_pairs_38 : decode cX9_pairs 38 = .ok (.iload_n 1, 1) := by decide +kernel
theorem dX9_pairs_39 : decode cX9_pairs 39 = .ok (.iconst (-1), 1) := by decide +kernel
theorem dX9_pairs_40 : decode cX9_pairs 40 = .ok (.if_icmp .ne 11, 3) := by decide +kernel
theorem dX9_pairs_51 : decode cX9_pairs 51 = .ok (.iload_n 1, 1) := by decide +kernel
theorem dX9_pairs_52 : decode cX9_pairs 52 = .ok (.bipush (-2), 2) := by decide +kernel
theorem dX9_pairs_54 : decode cX9_pairs 54 = .ok (.if_icmp .ne 11, 3) := by decide +kernel
theorem dX9_pairs_65 : decode cX9_pairs 65 = .ok (.aload_n 0, 1) := by decide +kernel
theorem dX9_pairs_66 : decode cX9_pairs 66 = .ok (.getfield 66, 3) := by decide +kernel
theorem dX9_pairs_69 : decode cX9_pairs 69 = .ok (.iload_n 1, 1) := by decide +kernel
theorem kw611 : Cond.code yX1_partnerOf cX1_partnerOf 2 (some .int) ∈ Tg := mem_Tg (List.mem_append_right _ (List.mem_of_getElem? (i := 611) (by decide +kernel))) (by decide +kernel)
theorem dX9_pairs_70 : decode cX9_pairs 70 = .ok (.invokevirtual 182, 3) := by decide +kernel
theorem dX9_pairs_73 : decode cX9_pairs 73 = .ok (.ireturn, 1) := by decide +kernel
theorem dX9_pairs_57 : decode cX9_pairs 57 = .ok (.aload_n 0, 1) := by decide +kernel
theorem dX9_pairs_58 : decode cX9_pairs 58 = .ok (.getfield 66, 3) := by decide +kernel
theorem dX9_pairs_61 : decode cX9_pairs 61 = .ok (.getfield 179, 3) := by decide +kernel
theorem dX9_pairs_64 : decode cX9_pairs 64 = .ok (.ireturn, 1) := by decide +kernel
theorem dX9_pairs_43 : decode cX9_pairs 43 = .ok (.aload_n 0, 1) := by decide +kernel
theorem dX9_pairs_44 : decode cX9_pairs 44 = .ok (.getfield 66, 3) := by decide +kernel
theorem dX9_pairs_47 : decode cX9_pairs 47 = .ok (.getfield 178, 3) := by decide +kernel
theorem dX9_pairs_50 : decode cX9_pairs 50 = .ok (.ireturn, 1) := by decide +kernel
theorem dX9_pairs_18 : decode cX9_pairs 18 = .ok (.iconst (-1), 1) := by decide +kernel
theorem dX9_pairs_19 : decode cX9_pairs 19 = .ok (.ireturn, 1) := by decide +kernel
theorem dX9_leftOver_0 : decode cX9_leftOver 0 = .ok (.iload_n 1, 1) := by decide +kernel
theorem dX9_leftOver_1 : decode cX9_leftOver 1 = .ok (.invokestatic 133, 3) := by decide +kernel
theorem dX9_leftOver_4 : decode cX9_leftOver 4 = .ok (.ifCond .ne 5, 3) := by decide +kernel
theorem dX9_leftOver_9 : decode cX9_leftOver 9 = .ok (.aload_n 0, 1) := by decide +kernel
theorem dX9_leftOver_10 : decode cX9_leftOver 10 = .ok (.getfield 66, 3) := by decide +kernel
theorem dX9_leftOver_13 : decode cX9_leftOver 13 = .ok (.aload_n 0, 1) := by decide +kernel
theorem dX9_leftOver_14 : decode cX9_leftOver 14 = .ok (.getfield 26, 3) := by decide +kernel
theorem dX9_leftOver_17 : decode cX9_leftOver 17 = .ok (.invokevirtual 172, 3) := by decide +kernel
theorem dX9_leftOver_20 : decode cX9_leftOver 20 = .ok (.aload_n 0, 1) := by decide +kernel
theorem dX9_leftOver_21 : decode cX9_leftOver 21 = .ok (.getfield 66, 3) := by decide +kernel
theorem dX9_leftOver_24 : decode cX9_leftOver 24 = .ok (.invokevirtual 175, 3) := by decide +kernel
theorem dX9_leftOver_27 : decode cX9_leftOver 27 = .ok (.aload_n 0, 1) := by decide +kernel
theorem dX9_leftOver_28 : decode cX9_leftOver 28 = .ok (.getfield 26, 3) := by decide +kernel
theorem dX9_leftOver_31 : decode cX9_leftOver 31 = .ok (.iload_n 1, 1) := by decide +kernel
theorem dX9_leftOver_32 : decode cX9_leftOver 32 = .ok (.invokevirtual 185, 3) := by decide +kernel
theorem dX9_leftOver_35 : decode cX9_leftOver 35 = .ok (.invokestatic 188, 3) := by decide +kernel
theorem dX9_leftOver_38 : decode cX9_leftOver 38 = .ok (.aload_n 0, 1) := by decide +kernel
theorem dX9_leftOver_39 : decode cX9_leftOver 39 = .ok (.getfield 66, 3) := by decide +kernel
theorem dX9_leftOver_42 : decode cX9_leftOver 42 = .ok (.getfield 178, 3) := by decide +kernel
theorem dX9_leftOver_45 : decode cX9_leftOver 45 = .ok (.isub, 1) := by decide +kernel
theorem dX9_leftOver_46 : decode cX9_leftOver 46 = .ok (.ireturn, 1) := by decide +kernel
theorem dX9_leftOver_7 : decode cX9_leftOver 7 = .ok (.iconst (-1), 1) := by decide +kernel
theorem dX9_leftOver_8 : decode cX9_leftOver 8 = .ok (.ireturn, 1) := by decide +kernel
theorem dX9_served_0 : decode cX9_served 0 = .ok (.aload_n 0, 1) := by decide +kernel
theorem dX9_served_1 : decode cX9_served 1 = .ok (.getfield 66, 3) := by decide +kernel
theorem dX9_served_4 : decode cX9_served 4 = .ok (.aload_n 0, 1) := by decide +kernel
theorem dX9_served_5 : decode cX9_served 5 = .ok (.getfield 26, 3) := by decide +kernel
theorem dX9_served_8 : decode cX9_served 8 = .ok (.invokevirtual 172, 3) := by decide +kernel
theorem dX9_served_11 : decode cX9_served 11 = .ok (.aload_n 0, 1) := by decide +kernel
theorem dX9_served_12 : decode cX9_served 12 = .ok (.getfield 66, 3) := by decide +kernel
theorem dX9_served_15 : decode cX9_served 15 = .ok (.aload_n 0, 1) := by decide +kernel
theorem dX9_served_16 : decode cX9_served 16 = .ok (.getfield 33, 3) := by decide +kernel
theorem kw630 : Cond.code yX1_serve cX1_serve 5 (some .int) ∈ Tg := mem_Tg (List.mem_append_right _ (List.mem_of_getElem? (i := 630) (by decide +kernel))) (by decide +kernel)
theorem dX9_served_19 : decode cX9_served 19 = .ok (.invokevirtual 193, 3) := by decide +kernel
theorem dX9_served_22 : decode cX9_served 22 = .ok (.ireturn, 1) := by decide +kernel
theorem dX9_whose_0 : decode cX9_whose 0 = .ok (.aload_n 0, 1) := by decide +kernel
theorem dX9_whose_1 : decode cX9_whose 1 = .ok (.getfield 26, 3) := by decide +kernel
theorem dX9_whose_4 : decode cX9_whose 4 = .ok (.iload_n 1, 1) := by decide +kernel
theorem dX9_whose_5 : decode cX9_whose 5 = .ok (.invokevirtual 113, 3) := by decide +kernel
theorem dX9_whose_8 : decode cX9_whose 8 = .ok (.ifCond .ne 5, 3) := by decide +kernel
theorem dX9_whose_13 : decode cX9_whose 13 = .ok (.iconst 0, 1) := by decide +kernel
theorem dX9_whose_14 : decode cX9_whose 14 = .ok (.istore_n 2, 1) := by decide +kernel
theorem dX9_whose_15 : decode cX9_whose 15 = .ok (.iconst 0, 1) := by decide +kernel
theorem dX9_whose_16 : decode cX9_whose 16 = .ok (.istore_n 3, 1) := by decide +kernel
theorem dX9_whose_17 : decode cX9_whose 17 = .ok (.iload_n 3, 1) := by decide +kernel
theorem dX9_whose_18 : decode cX9_whose 18 = .ok (.aload_n 0, 1) := by decide +kernel
theorem dX9_whose_19 : decode cX9_whose 19 = .ok (.getfield 33, 3) := by decide +kernel
theorem dX9_whose_22 : decode cX9_whose 22 = .ok (.getfield 130, 3) := by decide +kernel
theorem dX9_whose_25 : decode cX9_whose 25 = .ok (.if_icmp .ge 50, 3) := by decide +kernel
theorem dX9_whose_28 : decode cX9_whose 28 = .ok (.aload_n 0, 1) := by decide +kernel
theorem dX9_whose_29 : decode cX9_whose 29 = .ok (.getfield 33, 3) := by decide +kernel
theorem dX9_whose_32 : decode cX9_whose 32 = .ok (.iload_n 3, 1) := by decide +kernel
theorem dX9_whose_33 : decode cX9_whose 33 = .ok (.aload_n 0, 1) := by decide +kernel
theorem dX9_whose_34 : decode cX9_whose 34 = .ok (.getfield 26, 3) := by decide +kernel
theorem dX9_whose_37 : decode cX9_whose 37 = .ok (.iload_n 1, 1) := by decide +kernel
theorem dX9_whose_38 : decode cX9_whose 38 = .ok (.iconst 1, 1) := by decide +kernel
theorem dX9_whose_39 : decode cX9_whose 39 = .ok (.invokevirtual 127, 3) := by decide +kernel
theorem dX9_whose_42 : decode cX9_whose 42 = .ok (.aload_n 0, 1) := by decide +kernel
theorem dX9_whose_43 : decode cX9_whose 43 = .ok (.getfield 26, 3) := by decide +kernel
theorem dX9_whose_46 : decode cX9_whose 46 = .ok (.iload_n 1, 1) := by decide +kernel
theorem dX9_whose_47 : decode cX9_whose 47 = .ok (.aload_n 0, 1) := by decide +kernel
theorem dX9_whose_48 : decode cX9_whose 48 = .ok (.getfield 26, 3) := by decide +kernel
theorem dX9_whose_51 : decode cX9_whose 51 = .ok (.getfield 117, 3) := by decide +kernel
theorem dX9_whose_54 : decode cX9_whose 54 = .ok (.invokevirtual 120, 3) := by decide +kernel
theorem dX9_whose_57 : decode cX9_whose 57 = .ok (.invokevirtual 197, 3) := by decide +kernel
theorem dX9_whose_60 : decode cX9_whose 60 = .ok (.ifCond .eq 9, 3) := by decide +kernel
theorem dX9_whose_69 : decode cX9_whose 69 = .ok (.iinc 3 1, 3) := by decide +kernel
theorem dX9_whose_72 : decode cX9_whose 72 = .ok (.goto (-55), 3) := by decide +kernel
theorem dX9_whose_63 : decode cX9_whose 63 = .ok (.iload_n 2, 1) := by decide +kernel
theorem dX9_whose_64 : decode cX9_whose 64 = .ok (.iconst 1, 1) := by decide +kernel
theorem dX9_whose_65 : decode cX9_whose 65 = .ok (.iload_n 3, 1) := by decide +kernel
theorem dX9_whose_66 : decode cX9_whose 66 = .ok (.ishl, 1) := by decide +kernel
theorem dX9_whose_67 : decode cX9_whose 67 = .ok (.ior, 1) := by decide +kernel
theorem dX9_whose_68 : decode cX9_whose 68 = .ok (.istore_n 2, 1) := by decide +kernel
theorem dX9_whose_75 : decode cX9_whose 75 = .ok (.iload_n 2, 1) := by decide +kernel
theorem dX9_whose_76 : decode cX9_whose 76 = .ok (.ireturn, 1) := by decide +kernel
theorem dX9_whose_11 : decode cX9_whose 11 = .ok (.iconst (-1), 1) := by decide +kernel
theorem dX9_whose_12 : decode cX9_whose 12 = .ok (.ireturn, 1) := by decide +kernel
theorem dX9_alikeBy_0 : decode cX9_alikeBy 0 = .ok (.aload_n 0, 1) := by decide +kernel
theorem dX9_alikeBy_1 : decode cX9_alikeBy 1 = .ok (.getfield 26, 3) := by decide +kernel
theorem dX9_alikeBy_4 : decode cX9_alikeBy 4 = .ok (.iload_n 1, 1) := by decide +kernel
theorem dX9_alikeBy_5 : decode cX9_alikeBy 5 = .ok (.iconst 0, 1) := by decide +kernel
theorem dX9_alikeBy_6 : decode cX9_alikeBy 6 = .ok (.invokevirtual 200, 3) := by decide +kernel
theorem dX9_alikeBy_9 : decode cX9_alikeBy 9 = .ok (.ifCond .eq 15, 3) := by decide +kernel
theorem dX9_alikeBy_24 : decode cX9_alikeBy 24 = .ok (.iconst (-1), 1) := by decide +kernel
theorem dX9_alikeBy_25 : decode cX9_alikeBy 25 = .ok (.ireturn, 1) := by decide +kernel
theorem dX9_alikeBy_12 : decode cX9_alikeBy 12 = .ok (.aload_n 0, 1) := by decide +kernel
theorem dX9_alikeBy_13 : decode cX9_alikeBy 13 = .ok (.getfield 26, 3) := by decide +kernel
theorem dX9_alikeBy_16 : decode cX9_alikeBy 16 = .ok (.iload_n 2, 1) := by decide +kernel
theorem dX9_alikeBy_17 : decode cX9_alikeBy 17 = .ok (.iconst 1, 1) := by decide +kernel
theorem dX9_alikeBy_18 : decode cX9_alikeBy 18 = .ok (.invokevirtual 200, 3) := by decide +kernel
theorem dX9_alikeBy_21 : decode cX9_alikeBy 21 = .ok (.ifCond .ne 5, 3) := by decide +kernel
theorem dX9_alikeBy_26 : decode cX9_alikeBy 26 = .ok (.iconst 0, 1) := by decide +kernel
theorem dX9_alikeBy_27 : decode cX9_alikeBy 27 = .ok (.istore_n 3, 1) := by decide +kernel
theorem dX9_alikeBy_28 : decode cX9_alikeBy 28 = .ok (.iload_n 3, 1) := by decide +kernel
theorem dX9_alikeBy_29 : decode cX9_alikeBy 29 = .ok (.bipush 60, 2) := by decide +kernel
theorem dX9_alikeBy_31 : decode cX9_alikeBy 31 = .ok (.if_icmp .gt 32, 3) := by decide +kernel
theorem dX9_alikeBy_34 : decode cX9_alikeBy 34 = .ok (.aload_n 0, 1) := by decide +kernel
theorem dX9_alikeBy_35 : decode cX9_alikeBy 35 = .ok (.getfield 26, 3) := by decide +kernel
theorem dX9_alikeBy_38 : decode cX9_alikeBy 38 = .ok (.iload_n 1, 1) := by decide +kernel
theorem dX9_alikeBy_39 : decode cX9_alikeBy 39 = .ok (.iload_n 2, 1) := by decide +kernel
theorem dX9_alikeBy_40 : decode cX9_alikeBy 40 = .ok (.aload_n 0, 1) := by decide +kernel
theorem dX9_alikeBy_41 : decode cX9_alikeBy 41 = .ok (.getfield 26, 3) := by decide +kernel
theorem dX9_alikeBy_44 : decode cX9_alikeBy 44 = .ok (.getfield 117, 3) := by decide +kernel
theorem dX9_alikeBy_47 : decode cX9_alikeBy 47 = .ok (.iload_n 3, 1) := by decide +kernel
theorem dX9_alikeBy_48 : decode cX9_alikeBy 48 = .ok (.iadd, 1) := by decide +kernel
theorem dX9_alikeBy_49 : decode cX9_alikeBy 49 = .ok (.invokevirtual 151, 3) := by decide +kernel
theorem dX9_alikeBy_52 : decode cX9_alikeBy 52 = .ok (.ifCond .eq 5, 3) := by decide +kernel
theorem dX9_alikeBy_57 : decode cX9_alikeBy 57 = .ok (.iinc 3 1, 3) := by decide +kernel
theorem dX9_alikeBy_60 : decode cX9_alikeBy 60 = .ok (.goto (-32), 3) := by decide +kernel
theorem dX9_alikeBy_55 : decode cX9_alikeBy 55 = .ok (.iload_n 3, 1) := by decide +kernel
theorem dX9_alikeBy_56 : decode cX9_alikeBy 56 = .ok (.ireturn, 1) := by decide +kernel
theorem dX9_alikeBy_63 : decode cX9_alikeBy 63 = .ok (.bipush (-4), 2) := by decide +kernel
theorem dX9_alikeBy_65 : decode cX9_alikeBy 65 = .ok (.ireturn, 1) := by decide +kernel
theorem dX9_dry_0 : decode cX9_dry 0 = .ok (.aload_n 0, 1) := by decide +kernel
theorem dX9_dry_1 : decode cX9_dry 1 = .ok (.getfield 26, 3) := by decide +kernel
theorem dX9_dry_4 : decode cX9_dry 4 = .ok (.iload_n 1, 1) := by decide +kernel
theorem dX9_dry_5 : decode cX9_dry 5 = .ok (.invokevirtual 113, 3) := by decide +kernel
theorem dX9_dry_8 : decode cX9_dry 8 = .ok (.ifCond .eq 12, 3) := by decide +kernel
theorem dX9_dry_20 : decode cX9_dry 20 = .ok (.iconst (-1), 1) := by decide +kernel
theorem dX9_dry_21 : decode cX9_dry 21 = .ok (.ireturn, 1) := by decide +kernel
theorem dX9_dry_11 : decode cX9_dry 11 = .ok (.iload_n 2, 1) := by decide +kernel
theorem dX9_dry_12 : decode cX9_dry 12 = .ok (.iconst 0, 1) := by decide +kernel
theorem dX9_dry_13 : decode cX9_dry 13 = .ok (.iconst 1, 1) := by decide +kernel
theorem dX9_dry_14 : decode cX9_dry 14 = .ok (.invokestatic 99, 3) := by decide +kernel
theorem dX9_dry_17 : decode cX9_dry 17 = .ok (.ifCond .ne 5, 3) := by decide +kernel
theorem dX9_dry_22 : decode cX9_dry 22 = .ok (.aload_n 0, 1) := by decide +kernel
theorem dX9_dry_23 : decode cX9_dry 23 = .ok (.getfield 26, 3) := by decide +kernel
theorem dX9_dry_26 : decode cX9_dry 26 = .ok (.iload_n 1, 1) := by decide +kernel
theorem dX9_dry_27 : decode cX9_dry 27 = .ok (.aload_n 0, 1) := by decide +kernel
theorem dX9_dry_28 : decode cX9_dry 28 = .ok (.getfield 26, 3) := by decide +kernel
theorem dX9_dry_31 : decode cX9_dry 31 = .ok (.getfield 117, 3) := by decide +kernel
theorem dX9_dry_34 : decode cX9_dry 34 = .ok (.bipush 30, 2) := by decide +kernel
theorem dX9_dry_36 : decode cX9_dry 36 = .ok (.iadd, 1) := by decide +kernel
theorem dX9_dry_37 : decode cX9_dry 37 = .ok (.invokevirtual 120, 3) := by decide +kernel
theorem dX9_dry_40 : decode cX9_dry 40 = .ok (.istore_n 3, 1) := by decide +kernel
theorem dX9_dry_41 : decode cX9_dry 41 = .ok (.iload_n 2, 1) := by decide +kernel
theorem dX9_dry_42 : decode cX9_dry 42 = .ok (.iconst 1, 1) := by decide +kernel
theorem dX9_dry_43 : decode cX9_dry 43 = .ok (.if_icmp .ne 5, 3) := by decide +kernel
theorem dX9_dry_48 : decode cX9_dry 48 = .ok (.iconst 0, 1) := by decide +kernel
theorem dX9_dry_49 : decode cX9_dry 49 = .ok (.istore 4, 2) := by decide +kernel
theorem dX9_dry_51 : decode cX9_dry 51 = .ok (.iload 4, 2) := by decide +kernel
theorem dX9_dry_53 : decode cX9_dry 53 = .ok (.bipush 30, 2) := by decide +kernel
theorem dX9_dry_55 : decode cX9_dry 55 = .ok (.if_icmp .ge 31, 3) := by decide +kernel
theorem dX9_dry_58 : decode cX9_dry 58 = .ok (.aload_n 0, 1) := by decide +kernel
theorem dX9_dry_59 : decode cX9_dry 59 = .ok (.getfield 26, 3) := by decide +kernel
theorem dX9_dry_62 : decode cX9_dry 62 = .ok (.iload_n 1, 1) := by decide +kernel
theorem dX9_dry_63 : decode cX9_dry 63 = .ok (.aload_n 0, 1) := by decide +kernel
theorem dX9_dry_64 : decode cX9_dry 64 = .ok (.getfield 26, 3) := by decide +kernel
theorem dX9_dry_67 : decode cX9_dry 67 = .ok (.getfield 117, 3) := by decide +kernel
theorem dX9_dry_70 : decode cX9_dry 70 = .ok (.iload 4, 2) := by decide +kernel
theorem dX9_dry_72 : decode cX9_dry 72 = .ok (.iadd, 1) := by decide +kernel
theorem dX9_dry_73 : decode cX9_dry 73 = .ok (.invokevirtual 120, 3) := by decide +kernel
theorem dX9_dry_76 : decode cX9_dry 76 = .ok (.iload_n 3, 1) := by decide +kernel
theorem dX9_dry_77 : decode cX9_dry 77 = .ok (.if_icmp .eq 9, 3) := by decide +kernel
theorem dX9_dry_80 : decode cX9_dry 80 = .ok (.iinc 4 1, 3) := by decide +kernel
theorem dX9_dry_83 : decode cX9_dry 83 = .ok (.goto (-32), 3) := by decide +kernel
theorem dX9_dry_86 : decode cX9_dry 86 = .ok (.iload 4, 2) := by decide +kernel
theorem dX9_dry_88 : decode cX9_dry 88 = .ok (.ireturn, 1) := by decide +kernel
theorem dX9_dry_46 : decode cX9_dry 46 = .ok (.iload_n 3, 1) := by decide +kernel
theorem dX9_dry_47 : decode cX9_dry 47 = .ok (.ireturn, 1) := by decide +kernel
theorem dX9_sawn_0 : decode cX9_sawn 0 = .ok (.iload_n 1, 1) := by decide +kernel
theorem dX9_sawn_1 : decode cX9_sawn 1 = .ok (.iconst (-1), 1) := by decide +kernel
theorem dX9_sawn_2 : decode cX9_sawn 2 = .ok (.if_icmp .ge 5, 3) := by decide +kernel
theorem dX9_sawn_7 : decode cX9_sawn 7 = .ok (.aload_n 0, 1) := by decide +kernel
theorem dX9_sawn_8 : decode cX9_sawn 8 = .ok (.getfield 40, 3) := by decide +kernel
theorem dX9_sawn_11 : decode cX9_sawn 11 = .ok (.iload_n 1, 1) := by decide +kernel
theorem kw667 : Cond.code yX0_saw cX0_saw 5 (some .int) ∈ Tg := mem_Tg (List.mem_append_right _ (List.mem_of_getElem? (i := 667) (by decide +kernel))) (by decide +kernel)
theorem dX9_sawn_12 : decode cX9_sawn 12 = .ok (.invokevirtual 204, 3) := by decide +kernel
theorem dX9_sawn_15 : decode cX9_sawn 15 = .ok (.ireturn, 1) := by decide +kernel
theorem dX9_sawn_5 : decode cX9_sawn 5 = .ok (.iconst (-1), 1) := by decide +kernel
theorem dX9_sawn_6 : decode cX9_sawn 6 = .ok (.ireturn, 1) := by decide +kernel
theorem dX9_sizes_0 : decode cX9_sizes 0 = .ok (.iload_n 1, 1) := by decide +kernel
theorem dX9_sizes_1 : decode cX9_sizes 1 = .ok (.iconst 1, 1) := by decide +kernel
theorem dX9_sizes_2 : decode cX9_sizes 2 = .ok (.iconst 5, 1) := by decide +kernel
theorem dX9_sizes_3 : decode cX9_sizes 3 = .ok (.invokestatic 99, 3) := by decide +kernel
theorem dX9_sizes_6 : decode cX9_sizes 6 = .ok (.ifCond .eq 12, 3) := by decide +kernel
theorem dX9_sizes_18 : decode cX9_sizes 18 = .ok (.iconst (-1), 1) := by decide +kernel
theorem dX9_sizes_19 : decode cX9_sizes 19 = .ok (.ireturn, 1) := by decide +kernel
theorem dX9_sizes_9 : decode cX9_sizes 9 = .ok (.iload_n 2, 1) := by decide +kernel
theorem dX9_sizes_10 : decode cX9_sizes 10 = .ok (.iconst 0, 1) := by decide +kernel
theorem dX9_sizes_11 : decode cX9_sizes 11 = .ok (.iconst 1, 1) := by decide +kernel
theorem dX9_sizes_12 : decode cX9_sizes 12 = .ok (.invokestatic 99, 3) := by decide +kernel
theorem dX9_sizes_15 : decode cX9_sizes 15 = .ok (.ifCond .ne 5, 3) := by decide +kernel
theorem dX9_sizes_20 : decode cX9_sizes 20 = .ok (.iconst (-1), 1) := by decide +kernel
theorem dX9_sizes_21 : decode cX9_sizes 21 = .ok (.istore_n 3, 1) := by decide +kernel
theorem dX9_sizes_22 : decode cX9_sizes 22 = .ok (.iconst 0, 1) := by decide +kernel
theorem dX9_sizes_23 : decode cX9_sizes 23 = .ok (.istore 4, 2) := by decide +kernel
theorem dX9_sizes_25 : decode cX9_sizes 25 = .ok (.iconst 1, 1) := by decide +kernel
theorem dX9_sizes_26 : decode cX9_sizes 26 = .ok (.istore 5, 2) := by decide +kernel
theorem dX9_sizes_28 : decode cX9_sizes 28 = .ok (.iload 5, 2) := by decide +kernel
theorem dX9_sizes_30 : decode cX9_sizes 30 = .ok (.bipush 72, 2) := by decide +kernel
theorem dX9_sizes_32 : decode cX9_sizes 32 = .ok (.if_icmp .gt 34, 3) := by decide +kernel
theorem dX9_sizes_35 : decode cX9_sizes 35 = .ok (.aload_n 0, 1) := by decide +kernel
theorem dX9_sizes_36 : decode cX9_sizes 36 = .ok (.getfield 26, 3) := by decide +kernel
theorem dX9_sizes_39 : decode cX9_sizes 39 = .ok (.iload 5, 2) := by decide +kernel
theorem dX9_sizes_41 : decode cX9_sizes 41 = .ok (.iload_n 1, 1) := by decide +kernel
theorem kw679 : Cond.code yX4_unholedFrom cX4_unholedFrom 5 (some .int) ∈ Tg := mem_Tg (List.mem_append_right _ (List.mem_of_getElem? (i := 679) (by decide +kernel))) (by decide +kernel)
theorem dX9_sizes_42 : decode cX9_sizes 42 = .ok (.invokevirtual 207, 3) := by decide +kernel
theorem dX9_sizes_45 : decode cX9_sizes 45 = .ok (.istore 6, 2) := by decide +kernel
theorem dX9_sizes_47 : decode cX9_sizes 47 = .ok (.iload 6, 2) := by decide +kernel
theorem dX9_sizes_49 : decode cX9_sizes 49 = .ok (.iload_n 3, 1) := by decide +kernel
theorem dX9_sizes_50 : decode cX9_sizes 50 = .ok (.if_icmp .le 10, 3) := by decide +kernel
theorem dX9_sizes_60 : decode cX9_sizes 60 = .ok (.iinc 5 1, 3) := by decide +kernel
theorem dX9_sizes_63 : decode cX9_sizes 63 = .ok (.goto (-35), 3) := by decide +kernel
theorem dX9_sizes_53 : decode cX9_sizes 53 = .ok (.iload 6, 2) := by decide +kernel
theorem dX9_sizes_55 : decode cX9_sizes 55 = .ok (.istore_n 3, 1) := by decide +kernel
theorem dX9_sizes_56 : decode cX9_sizes 56 = .ok (.iload 5, 2) := by decide +kernel
theorem dX9_sizes_58 : decode cX9_sizes 58 = .ok (.istore 4, 2) := by decide +kernel
theorem dX9_sizes_66 : decode cX9_sizes 66 = .ok (.iload_n 2, 1) := by decide +kernel
theorem dX9_sizes_67 : decode cX9_sizes 67 = .ok (.ifCond .ne 8, 3) := by decide +kernel
theorem dX9_sizes_75 : decode cX9_sizes 75 = .ok (.iload_n 3, 1) := by decide +kernel
theorem dX9_sizes_76 : decode cX9_sizes 76 = .ok (.ireturn, 1) := by decide +kernel
theorem dX9_sizes_70 : decode cX9_sizes 70 = .ok (.iload 4, 2) := by decide +kernel
theorem dX9_sizes_72 : decode cX9_sizes 72 = .ok (.goto 4, 3) := by decide +kernel
theorem dX9_heard_0 : decode cX9_heard 0 = .ok (.iload_n 1, 1) := by decide +kernel
theorem dX9_heard_1 : decode cX9_heard 1 = .ok (.iconst 0, 1) := by decide +kernel
theorem dX9_heard_2 : decode cX9_heard 2 = .ok (.bipush 9, 2) := by decide +kernel
theorem dX9_heard_4 : decode cX9_heard 4 = .ok (.invokestatic 99, 3) := by decide +kernel
theorem dX9_heard_7 : decode cX9_heard 7 = .ok (.ifCond .eq 22, 3) := by decide +kernel
theorem dX9_heard_29 : decode cX9_heard 29 = .ok (.iconst (-1), 1) := by decide +kernel
theorem dX9_heard_30 : decode cX9_heard 30 = .ok (.ireturn, 1) := by decide +kernel
theorem dX9_heard_10 : decode cX9_heard 10 = .ok (.iload_n 2, 1) := by decide +kernel
theorem dX9_heard_11 : decode cX9_heard 11 = .ok (.iconst 1, 1) := by decide +kernel
theorem dX9_heard_12 : decode cX9_heard 12 = .ok (.bipush 9, 2) := by decide +kernel
theorem dX9_heard_14 : decode cX9_heard 14 = .ok (.invokestatic 99, 3) := by decide +kernel
theorem dX9_heard_17 : decode cX9_heard 17 = .ok (.ifCond .eq 12, 3) := by decide +kernel
theorem dX9_heard_20 : decode cX9_heard 20 = .ok (.iload_n 3, 1) := by decide +kernel
theorem dX9_heard_21 : decode cX9_heard 21 = .ok (.iconst 0, 1) := by decide +kernel
theorem dX9_heard_22 : decode cX9_heard 22 = .ok (.iconst 1, 1) := by decide +kernel
theorem dX9_heard_23 : decode cX9_heard 23 = .ok (.invokestatic 99, 3) := by decide +kernel
theorem dX9_heard_26 : decode cX9_heard 26 = .ok (.ifCond .ne 5, 3) := by decide +kernel
theorem dX9_heard_31 : decode cX9_heard 31 = .ok (.aload_n 0, 1) := by decide +kernel
theorem dX9_heard_32 : decode cX9_heard 32 = .ok (.getfield 47, 3) := by decide +kernel
theorem dX9_heard_35 : decode cX9_heard 35 = .ok (.getfield 210, 3) := by decide +kernel
theorem dX9_heard_38 : decode cX9_heard 38 = .ok (.bipush 8, 2) := by decide +kernel
theorem dX9_heard_40 : decode cX9_heard 40 = .ok (.if_icmp .lt 6, 3) := by decide +kernel
theorem dX9_heard_46 : decode cX9_heard 46 = .ok (.aload_n 0, 1) := by decide +kernel
theorem dX9_heard_47 : decode cX9_heard 47 = .ok (.getfield 47, 3) := by decide +kernel
theorem dX9_heard_50 : decode cX9_heard 50 = .ok (.iload_n 1, 1) := by decide +kernel
theorem dX9_heard_51 : decode cX9_heard 51 = .ok (.iload_n 2, 1) := by decide +kernel
theorem dX9_heard_52 : decode cX9_heard 52 = .ok (.iload_n 3, 1) := by decide +kernel
theorem kw687 : Cond.code yX7_add cX7_add 4 none ∈ Tg := mem_Tg (List.mem_append_right _ (List.mem_of_getElem? (i := 687) (by decide +kernel))) (by decide +kernel)
theorem dX9_heard_53 : decode cX9_heard 53 = .ok (.invokevirtual 213, 3) := by decide +kernel
theorem dX9_heard_56 : decode cX9_heard 56 = .ok (.aload_n 0, 1) := by decide +kernel
theorem dX9_heard_57 : decode cX9_heard 57 = .ok (.getfield 47, 3) := by decide +kernel
theorem dX9_heard_60 : decode cX9_heard 60 = .ok (.getfield 210, 3) := by decide +kernel
theorem dX9_heard_63 : decode cX9_heard 63 = .ok (.ireturn, 1) := by decide +kernel
theorem dX9_heard_43 : decode cX9_heard 43 = .ok (.bipush (-3), 2) := by decide +kernel
theorem dX9_heard_45 : decode cX9_heard 45 = .ok (.ireturn, 1) := by decide +kernel
theorem dX9_forget_0 : decode cX9_forget 0 = .ok (.aload_n 0, 1) := by decide +kernel
theorem dX9_forget_1 : decode cX9_forget 1 = .ok (.getfield 47, 3) := by decide +kernel
theorem dX9_forget_4 : decode cX9_forget 4 = .ok (.getfield 210, 3) := by decide +kernel
theorem dX9_forget_7 : decode cX9_forget 7 = .ok (.istore_n 1, 1) := by decide +kernel
theorem dX9_forget_8 : decode cX9_forget 8 = .ok (.aload_n 0, 1) := by decide +kernel
theorem dX9_forget_9 : decode cX9_forget 9 = .ok (.getfield 47, 3) := by decide +kernel
theorem dX9_forget_12 : decode cX9_forget 12 = .ok (.iconst 0, 1) := by decide +kernel
theorem dX9_forget_13 : decode cX9_forget 13 = .ok (.putfield 210, 3) := by decide +kernel
theorem dX9_forget_16 : decode cX9_forget 16 = .ok (.iload_n 1, 1) := by decide +kernel
theorem dX9_forget_17 : decode cX9_forget 17 = .ok (.ireturn, 1) := by decide +kernel
theorem dX9_thick_0 : decode cX9_thick 0 = .ok (.iload_n 1, 1) := by decide +kernel
theorem dX9_thick_1 : decode cX9_thick 1 = .ok (.iconst 0, 1) := by decide +kernel
theorem dX9_thick_2 : decode cX9_thick 2 = .ok (.bipush 9, 2) := by decide +kernel
theorem dX9_thick_4 : decode cX9_thick 4 = .ok (.invokestatic 99, 3) := by decide +kernel
theorem dX9_thick_7 : decode cX9_thick 7 = .ok (.ifCond .ne 5, 3) := by decide +kernel
theorem dX9_thick_12 : decode cX9_thick 12 = .ok (.aload_n 0, 1) := by decide +kernel
theorem dX9_thick_13 : decode cX9_thick 13 = .ok (.getfield 47, 3) := by decide +kernel
theorem dX9_thick_16 : decode cX9_thick 16 = .ok (.iload_n 1, 1) := by decide +kernel
theorem kw700 : Cond.code yX7_thicknesses cX7_thicknesses 4 (some .int) ∈ Tg := mem_Tg (List.mem_append_right _ (List.mem_of_getElem? (i := 700) (by decide +kernel))) (by decide +kernel)
theorem dX9_thick_17 : decode cX9_thick 17 = .ok (.invokevirtual 216, 3) := by decide +kernel
theorem dX9_thick_20 : decode cX9_thick 20 = .ok (.ireturn, 1) := by decide +kernel
theorem dX9_thick_10 : decode cX9_thick 10 = .ok (.iconst (-1), 1) := by decide +kernel
theorem dX9_thick_11 : decode cX9_thick 11 = .ok (.ireturn, 1) := by decide +kernel
theorem dX9_whole_0 : decode cX9_whole 0 = .ok (.iload_n 1, 1) := by decide +kernel
theorem dX9_whole_1 : decode cX9_whole 1 = .ok (.iconst 0, 1) := by decide +kernel
theorem dX9_whole_2 : decode cX9_whole 2 = .ok (.iconst 4, 1) := by decide +kernel
theorem dX9_whole_3 : decode cX9_whole 3 = .ok (.invokestatic 99, 3) := by decide +kernel
theorem dX9_whole_6 : decode cX9_whole 6 = .ok (.ifCond .eq 22, 3) := by decide +kernel
theorem dX9_whole_28 : decode cX9_whole 28 = .ok (.iconst (-1), 1) := by decide +kernel
theorem dX9_whole_29 : decode cX9_whole 29 = .ok (.ireturn, 1) := by decide +kernel
theorem dX9_whole_9 : decode cX9_whole 9 = .ok (.iload_n 2, 1) := by decide +kernel
theorem dX9_whole_10 : decode cX9_whole 10 = .ok (.iconst 0, 1) := by decide +kernel
theorem dX9_whole_11 : decode cX9_whole 11 = .ok (.bipush 10, 2) := by decide +kernel
theorem dX9_whole_13 : decode cX9_whole 13 = .ok (.invokestatic 99, 3) := by decide +kernel
theorem dX9_whole_16 : decode cX9_whole 16 = .ok (.ifCond .eq 12, 3) := by decide +kernel
theorem dX9_whole_19 : decode cX9_whole 19 = .ok (.iload_n 3, 1) := by decide +kernel
theorem dX9_whole_20 : decode cX9_whole 20 = .ok (.iconst 0, 1) := by decide +kernel
theorem dX9_whole_21 : decode cX9_whole 21 = .ok (.iconst 1, 1) := by decide +kernel
theorem dX9_whole_22 : decode cX9_whole 22 = .ok (.invokestatic 99, 3) := by decide +kernel
theorem dX9_whole_25 : decode cX9_whole 25 = .ok (.ifCond .ne 5, 3) := by decide +kernel
theorem dX9_whole_30 : decode cX9_whole 30 = .ok (.iconst 1, 1) := by decide +kernel
theorem dX9_whole_31 : decode cX9_whole 31 = .ok (.bipush 10, 2) := by decide +kernel
theorem dX9_whole_33 : decode cX9_whole 33 = .ok (.iload_n 2, 1) := by decide +kernel
theorem dX9_whole_34 : decode cX9_whole 34 = .ok (.isub, 1) := by decide +kernel
theorem kw712 : Cond.code yX9_commonDivisorWithTen cX9_commonDivisorWithTen 2 (some .int) ∈ Tg := mem_Tg (List.mem_append_right _ (List.mem_of_getElem? (i := 712) (by decide +kernel))) (by decide +kernel)
theorem dX9_whole_35 : decode cX9_whole 35 = .ok (.invokestatic 219, 3) := by decide +kernel
theorem dX9_whole_38 : decode cX9_whole 38 = .ok (.invokestatic 222, 3) := by decide +kernel
theorem dX9_whole_41 : decode cX9_whole 41 = .ok (.istore 4, 2) := by decide +kernel
theorem dX9_whole_43 : decode cX9_whole 43 = .ok (.iload_n 3, 1) := by decide +kernel
theorem dX9_whole_44 : decode cX9_whole 44 = .ok (.ifCond .ne 13, 3) := by decide +kernel
theorem dX9_whole_57 : decode cX9_whole 57 = .ok (.bipush 10, 2) := by decide +kernel
theorem dX9_whole_59 : decode cX9_whole 59 = .ok (.iload 4, 2) := by decide +kernel
theorem dX9_whole_61 : decode cX9_whole 61 = .ok (.idiv, 1) := by decide +kernel
theorem dX9_whole_62 : decode cX9_whole 62 = .ok (.istore 5, 2) := by decide +kernel
theorem dX9_whole_64 : decode cX9_whole 64 = .ok (.iload 5, 2) := by decide +kernel
theorem dX9_whole_66 : decode cX9_whole 66 = .ok (.iconst 2, 1) := by decide +kernel
theorem dX9_whole_67 : decode cX9_whole 67 = .ok (.iload_n 1, 1) := by decide +kernel
theorem dX9_whole_68 : decode cX9_whole 68 = .ok (.imul, 1) := by decide +kernel
theorem kw716 : Cond.code yX9_power cX9_power 5 (some .long) ∈ Tg := mem_Tg (List.mem_append_right _ (List.mem_of_getElem? (i := 716) (by decide +kernel))) (by decide +kernel)
theorem dX9_whole_69 : decode cX9_whole 69 = .ok (.invokestatic 227, 3) := by decide +kernel
theorem dX9_whole_72 : decode cX9_whole 72 = .ok (.l2i, 1) := by decide +kernel
theorem dX9_whole_73 : decode cX9_whole 73 = .ok (.ireturn, 1) := by decide +kernel
theorem dX9_whole_47 : decode cX9_whole 47 = .ok (.bipush 10, 2) := by decide +kernel
theorem dX9_whole_49 : decode cX9_whole 49 = .ok (.iload_n 2, 1) := by decide +kernel
theorem dX9_whole_50 : decode cX9_whole 50 = .ok (.isub, 1) := by decide +kernel
theorem dX9_whole_51 : decode cX9_whole 51 = .ok (.iload 4, 2) := by decide +kernel
theorem dX9_whole_53 : decode cX9_whole 53 = .ok (.idiv, 1) := by decide +kernel
theorem dX9_whole_54 : decode cX9_whole 54 = .ok (.goto 8, 3) := by decide +kernel
theorem dX9_together_0 : decode cX9_together 0 = .ok (.iload_n 1, 1) := by decide +kernel
theorem dX9_together_1 : decode cX9_together 1 = .ok (.iconst 0, 1) := by decide +kernel
theorem dX9_together_2 : decode cX9_together 2 = .ok (.iconst 3, 1) := by decide +kernel
theorem dX9_together_3 : decode cX9_together 3 = .ok (.invokestatic 99, 3) := by decide +kernel
theorem dX9_together_6 : decode cX9_together 6 = .ok (.ifCond .eq 13, 3) := by decide +kernel
theorem dX9_together_19 : decode cX9_together 19 = .ok (.iconst (-1), 1) := by decide +kernel
theorem dX9_together_20 : decode cX9_together 20 = .ok (.ireturn, 1) := by decide +kernel
theorem dX9_together_9 : decode cX9_together 9 = .ok (.iload_n 2, 1) := by decide +kernel
theorem dX9_together_10 : decode cX9_together 10 = .ok (.iconst 0, 1) := by decide +kernel
theorem dX9_together_11 : decode cX9_together 11 = .ok (.bipush 33, 2) := by decide +kernel
theorem dX9_together_13 : decode cX9_together 13 = .ok (.invokestatic 99, 3) := by decide +kernel
theorem dX9_together_16 : decode cX9_together 16 = .ok (.ifCond .ne 5, 3) := by decide +kernel
theorem dX9_together_21 : decode cX9_together 21 = .ok (.iload_n 1, 1) := by decide +kernel
theorem dX9_together_22 : decode cX9_together 22 = .ok (.ifCond .ne 6, 3) := by decide +kernel
theorem dX9_together_28 : decode cX9_together 28 = .ok (.iload_n 1, 1) := by decide +kernel
theorem dX9_together_29 : decode cX9_together 29 = .ok (.iload_n 2, 1) := by decide +kernel
theorem dX9_together_30 : decode cX9_together 30 = .ok (.iconst 1, 1) := by decide +kernel
theorem kw724 : Cond.code yX9_cutsInTheMean cX9_cutsInTheMean 9 (some .long) ∈ Tg := mem_Tg (List.mem_append_right _ (List.mem_of_getElem? (i := 724) (by decide +kernel))) (by decide +kernel)
theorem dX9_together_31 : decode cX9_together 31 = .ok (.invokestatic 232, 3) := by decide +kernel
theorem dX9_together_34 : decode cX9_together 34 = .ok (.iload_n 1, 1) := by decide +kernel
theorem dX9_together_35 : decode cX9_together 35 = .ok (.iload_n 2, 1) := by decide +kernel
theorem dX9_together_36 : decode cX9_together 36 = .ok (.iconst 0, 1) := by decide +kernel
theorem dX9_together_37 : decode cX9_together 37 = .ok (.invokestatic 232, 3) := by decide +kernel
theorem dX9_together_40 : decode cX9_together 40 = .ok (.lsub, 1) := by decide +kernel
theorem dX9_together_41 : decode cX9_together 41 = .ok (.lstore_n 3, 1) := by decide +kernel
theorem dX9_together_42 : decode cX9_together 42 = .ok (.lconst 1, 1) := by decide +kernel
theorem dX9_together_43 : decode cX9_together 43 = .ok (.bipush 100, 2) := by decide +kernel
theorem dX9_together_45 : decode cX9_together 45 = .ok (.iconst 2, 1) := by decide +kernel
theorem dX9_together_46 : decode cX9_together 46 = .ok (.iload_n 1, 1) := by decide +kernel
theorem dX9_together_47 : decode cX9_together 47 = .ok (.imul, 1) := by decide +kernel
theorem dX9_together_48 : decode cX9_together 48 = .ok (.iconst 1, 1) := by decide +kernel
theorem dX9_together_49 : decode cX9_together 49 = .ok (.isub, 1) := by decide +kernel
theorem dX9_together_50 : decode cX9_together 50 = .ok (.invokestatic 227, 3) := by decide +kernel
theorem dX9_together_53 : decode cX9_together 53 = .ok (.invokestatic 236, 3) := by decide +kernel
theorem dX9_together_56 : decode cX9_together 56 = .ok (.lstore 5, 2) := by decide +kernel
theorem kw729 : Cond.constantLong RX9 239 (10000) ∈ Tg := mem_Tg (List.mem_append_right _ (List.mem_of_getElem? (i := 729) (by decide +kernel))) (by decide +kernel)
theorem dX9_together_58 : decode cX9_together 58 = .ok (.ldc2_w 239, 3) := by decide +kernel
theorem dX9_together_61 : decode cX9_together 61 = .ok (.lload_n 3, 1) := by decide +kernel
theorem dX9_together_62 : decode cX9_together 62 = .ok (.lmul, 1) := by decide +kernel
theorem dX9_together_63 : decode cX9_together 63 = .ok (.lload 5, 2) := by decide +kernel
theorem dX9_together_65 : decode cX9_together 65 = .ok (.ldiv, 1) := by decide +kernel
theorem dX9_together_66 : decode cX9_together 66 = .ok (.l2i, 1) := by decide +kernel
theorem kw721 : Cond.constant RX9 231 (100000) ∈ Tg := mem_Tg (List.mem_append_right _ (List.mem_of_getElem? (i := 721) (by decide +kernel))) (by decide +kernel)
theorem dX9_together_67 : decode cX9_together 67 = .ok (.ldc 231, 2) := by decide +kernel
theorem dX9_together_69 : decode cX9_together 69 = .ok (.iadd, 1) := by decide +kernel
theorem dX9_together_70 : decode cX9_together 70 = .ok (.ireturn, 1) := by decide +kernel
theorem dX9_together_25 : decode cX9_together 25 = .ok (.ldc 231, 2) := by decide +kernel
theorem dX9_together_27 : decode cX9_together 27 = .ok (.ireturn, 1) := by decide +kernel
theorem dX9_year_0 : decode cX9_year 0 = .ok (.iload_n 1, 1) := by decide +kernel
theorem dX9_year_1 : decode cX9_year 1 = .ok (.iconst 0, 1) := by decide +kernel
theorem dX9_year_2 : decode cX9_year 2 = .ok (.sipush 9999, 3) := by decide +kernel
theorem dX9_year_5 : decode cX9_year 5 = .ok (.invokestatic 99, 3) := by decide +kernel
theorem dX9_year_8 : decode cX9_year 8 = .ok (.ifCond .eq 22, 3) := by decide +kernel
theorem dX9_year_30 : decode cX9_year 30 = .ok (.iconst (-1), 1) := by decide +kernel
theorem dX9_year_31 : decode cX9_year 31 = .ok (.ireturn, 1) := by decide +kernel
theorem dX9_year_11 : decode cX9_year 11 = .ok (.iload_n 2, 1) := by decide +kernel
theorem dX9_year_12 : decode cX9_year 12 = .ok (.iconst 1, 1) := by decide +kernel
theorem dX9_year_13 : decode cX9_year 13 = .ok (.bipush 60, 2) := by decide +kernel
theorem dX9_year_15 : decode cX9_year 15 = .ok (.invokestatic 99, 3) := by decide +kernel
theorem dX9_year_18 : decode cX9_year 18 = .ok (.ifCond .eq 12, 3) := by decide +kernel
theorem dX9_year_21 : decode cX9_year 21 = .ok (.iload_n 3, 1) := by decide +kernel
theorem dX9_year_22 : decode cX9_year 22 = .ok (.iconst 0, 1) := by decide +kernel
theorem dX9_year_23 : decode cX9_year 23 = .ok (.iconst 1, 1) := by decide +kernel
theorem dX9_year_24 : decode cX9_year 24 = .ok (.invokestatic 99, 3) := by decide +kernel
theorem dX9_year_27 : decode cX9_year 27 = .ok (.ifCond .ne 5, 3) := by decide +kernel
theorem dX9_year_32 : decode cX9_year 32 = .ok (.aload_n 0, 1) := by decide +kernel
theorem dX9_year_33 : decode cX9_year 33 = .ok (.getfield 73, 3) := by decide +kernel
theorem dX9_year_36 : decode cX9_year 36 = .ok (.aload_n 0, 1) := by decide +kernel
theorem dX9_year_37 : decode cX9_year 37 = .ok (.getfield 26, 3) := by decide +kernel
theorem dX9_year_40 : decode cX9_year 40 = .ok (.iload_n 1, 1) := by decide +kernel
theorem dX9_year_41 : decode cX9_year 41 = .ok (.iload_n 2, 1) := by decide +kernel
theorem kw737 : Cond.code yX8_live cX8_live 6 none ∈ Tg := mem_Tg (List.mem_append_right _ (List.mem_of_getElem? (i := 737) (by decide +kernel))) (by decide +kernel)
theorem dX9_year_42 : decode cX9_year 42 = .ok (.invokevirtual 241, 3) := by decide +kernel
theorem dX9_year_45 : decode cX9_year 45 = .ok (.iload_n 3, 1) := by decide +kernel
theorem dX9_year_46 : decode cX9_year 46 = .ok (.ifCond .ne 13, 3) := by decide +kernel
theorem dX9_year_59 : decode cX9_year 59 = .ok (.aload_n 0, 1) := by decide +kernel
theorem dX9_year_60 : decode cX9_year 60 = .ok (.getfield 73, 3) := by decide +kernel
theorem dX9_year_63 : decode cX9_year 63 = .ok (.getfield 248, 3) := by decide +kernel
theorem dX9_year_66 : decode cX9_year 66 = .ok (.getfield 110, 3) := by decide +kernel
theorem dX9_year_69 : decode cX9_year 69 = .ok (.ireturn, 1) := by decide +kernel
theorem dX9_year_49 : decode cX9_year 49 = .ok (.aload_n 0, 1) := by decide +kernel
theorem dX9_year_50 : decode cX9_year 50 = .ok (.getfield 73, 3) := by decide +kernel
theorem dX9_year_53 : decode cX9_year 53 = .ok (.getfield 245, 3) := by decide +kernel
theorem dX9_year_56 : decode cX9_year 56 = .ok (.goto 13, 3) := by decide +kernel
theorem dX9_count_0 : decode cX9_count 0 = .ok (.iload_n 1, 1) := by decide +kernel
theorem dX9_count_1 : decode cX9_count 1 = .ok (.tableswitch 135 0 9 #[55, 63, 71, 79, 87, 95, 103, 111, 119, 127], 55) := by decide +kernel
theorem dX9_count_56 : decode cX9_count 56 = .ok (.aload_n 0, 1) := by decide +kernel
theorem dX9_count_57 : decode cX9_count 57 = .ok (.getfield 26, 3) := by decide +kernel
theorem dX9_count_60 : decode cX9_count 60 = .ok (.getfield 110, 3) := by decide +kernel
theorem dX9_count_63 : decode cX9_count 63 = .ok (.ireturn, 1) := by decide +kernel
theorem dX9_count_64 : decode cX9_count 64 = .ok (.aload_n 0, 1) := by decide +kernel
theorem dX9_count_65 : decode cX9_count 65 = .ok (.getfield 33, 3) := by decide +kernel
theorem dX9_count_68 : decode cX9_count 68 = .ok (.getfield 130, 3) := by decide +kernel
theorem dX9_count_71 : decode cX9_count 71 = .ok (.ireturn, 1) := by decide +kernel
theorem dX9_count_72 : decode cX9_count 72 = .ok (.aload_n 0, 1) := by decide +kernel
theorem dX9_count_73 : decode cX9_count 73 = .ok (.getfield 26, 3) := by decide +kernel
theorem dX9_count_76 : decode cX9_count 76 = .ok (.getfield 117, 3) := by decide +kernel
theorem dX9_count_79 : decode cX9_count 79 = .ok (.ireturn, 1) := by decide +kernel
theorem dX9_count_80 : decode cX9_count 80 = .ok (.aload_n 0, 1) := by decide +kernel
theorem dX9_count_81 : decode cX9_count 81 = .ok (.getfield 40, 3) := by decide +kernel
theorem kw769 : Cond.code yX0_knotsInside cX0_knotsInside 1 (some .int) ∈ Tg := mem_Tg (List.mem_append_right _ (List.mem_of_getElem? (i := 769) (by decide +kernel))) (by decide +kernel)
theorem dX9_count_84 : decode cX9_count 84 = .ok (.invokevirtual 253, 3) := by decide +kernel
theorem dX9_count_87 : decode cX9_count 87 = .ok (.ireturn, 1) := by decide +kernel
theorem dX9_count_88 : decode cX9_count 88 = .ok (.aload_n 0, 1) := by decide +kernel
theorem dX9_count_89 : decode cX9_count 89 = .ok (.getfield 26, 3) := by decide +kernel
theorem kw779 : Cond.code yX4_holedOnes cX4_holedOnes 3 (some .int) ∈ Tg := mem_Tg (List.mem_append_right _ (List.mem_of_getElem? (i := 779) (by decide +kernel))) (by decide +kernel)
theorem dX9_count_92 : decode cX9_count 92 = .ok (.invokevirtual 256, 3) := by decide +kernel
theorem dX9_count_95 : decode cX9_count 95 = .ok (.ireturn, 1) := by decide +kernel
theorem dX9_count_96 : decode cX9_count 96 = .ok (.aload_n 0, 1) := by decide +kernel
theorem dX9_count_97 : decode cX9_count 97 = .ok (.getfield 47, 3) := by decide +kernel
theorem dX9_count_100 : decode cX9_count 100 = .ok (.getfield 210, 3) := by decide +kernel
theorem dX9_count_103 : decode cX9_count 103 = .ok (.ireturn, 1) := by decide +kernel
theorem dX9_count_104 : decode cX9_count 104 = .ok (.aload_n 0, 1) := by decide +kernel
theorem dX9_count_105 : decode cX9_count 105 = .ok (.getfield 56, 3) := by decide +kernel
theorem dX9_count_108 : decode cX9_count 108 = .ok (.getfield 165, 3) := by decide +kernel
theorem dX9_count_111 : decode cX9_count 111 = .ok (.ireturn, 1) := by decide +kernel
theorem dX9_count_112 : decode cX9_count 112 = .ok (.aload_n 0, 1) := by decide +kernel
theorem dX9_count_113 : decode cX9_count 113 = .ok (.getfield 60, 3) := by decide +kernel
theorem dX9_count_116 : decode cX9_count 116 = .ok (.getfield 165, 3) := by decide +kernel
theorem dX9_count_119 : decode cX9_count 119 = .ok (.ireturn, 1) := by decide +kernel
theorem dX9_count_120 : decode cX9_count 120 = .ok (.aload_n 0, 1) := by decide +kernel
theorem dX9_count_121 : decode cX9_count 121 = .ok (.getfield 10, 3) := by decide +kernel
theorem dX9_count_124 : decode cX9_count 124 = .ok (.getfield 103, 3) := by decide +kernel
theorem dX9_count_127 : decode cX9_count 127 = .ok (.ireturn, 1) := by decide +kernel
theorem dX9_count_128 : decode cX9_count 128 = .ok (.aload_n 0, 1) := by decide +kernel
theorem dX9_count_129 : decode cX9_count 129 = .ok (.getfield 33, 3) := by decide +kernel
theorem dX9_count_132 : decode cX9_count 132 = .ok (.getfield 259, 3) := by decide +kernel
theorem dX9_count_135 : decode cX9_count 135 = .ok (.ireturn, 1) := by decide +kernel
theorem dX9_count_136 : decode cX9_count 136 = .ok (.iconst (-1), 1) := by decide +kernel
theorem dX9_count_137 : decode cX9_count 137 = .ok (.ireturn, 1) := by decide +kernel
theorem dX9_pass_0 : decode cX9_pass 0 = .ok (.iload_n 1, 1) := by decide +kernel
theorem dX9_pass_1 : decode cX9_pass 1 = .ok (.iconst 1, 1) := by decide +kernel
theorem dX9_pass_2 : decode cX9_pass 2 = .ok (.bipush 60, 2) := by decide +kernel
theorem dX9_pass_4 : decode cX9_pass 4 = .ok (.invokestatic 99, 3) := by decide +kernel
theorem dX9_pass_7 : decode cX9_pass 7 = .ok (.ifCond .ne 5, 3) := by decide +kernel
theorem dX9_pass_12 : decode cX9_pass 12 = .ok (.aload_n 0, 1) := by decide +kernel
theorem dX9_pass_13 : decode cX9_pass 13 = .ok (.getfield 26, 3) := by decide +kernel
theorem dX9_pass_16 : decode cX9_pass 16 = .ok (.getfield 117, 3) := by decide +kernel
theorem dX9_pass_19 : decode cX9_pass 19 = .ok (.iload_n 1, 1) := by decide +kernel
theorem dX9_pass_20 : decode cX9_pass 20 = .ok (.iadd, 1) := by decide +kernel
theorem dX9_pass_21 : decode cX9_pass 21 = .ok (.sipush 999, 3) := by decide +kernel
theorem dX9_pass_24 : decode cX9_pass 24 = .ok (.if_icmp .le 6, 3) := by decide +kernel
theorem dX9_pass_30 : decode cX9_pass 30 = .ok (.aload_n 0, 1) := by decide +kernel
theorem dX9_pass_31 : decode cX9_pass 31 = .ok (.getfield 56, 3) := by decide +kernel
theorem dX9_pass_34 : decode cX9_pass 34 = .ok (.aload_n 0, 1) := by decide +kernel
theorem dX9_pass_35 : decode cX9_pass 35 = .ok (.getfield 26, 3) := by decide +kernel
theorem kw491 : Cond.code yX2_push cX2_push 2 none ∈ Tg := mem_Tg (List.mem_append_right _ (List.mem_of_getElem? (i := 491) (by decide +kernel))) (by decide +kernel)
theorem dX9_pass_38 : decode cX9_pass 38 = .ok (.invokevirtual 139, 3) := by decide +kernel
theorem dX9_pass_41 : decode cX9_pass 41 = .ok (.aload_n 0, 1) := by decide +kernel
theorem dX9_pass_42 : decode cX9_pass 42 = .ok (.getfield 26, 3) := by decide +kernel
theorem dX9_pass_45 : decode cX9_pass 45 = .ok (.dup, 1) := by decide +kernel
theorem dX9_pass_46 : decode cX9_pass 46 = .ok (.getfield 117, 3) := by decide +kernel
theorem dX9_pass_49 : decode cX9_pass 49 = .ok (.iload_n 1, 1) := by decide +kernel
theorem dX9_pass_50 : decode cX9_pass 50 = .ok (.iadd, 1) := by decide +kernel
theorem dX9_pass_51 : decode cX9_pass 51 = .ok (.putfield 117, 3) := by decide +kernel
theorem dX9_pass_54 : decode cX9_pass 54 = .ok (.aload_n 0, 1) := by decide +kernel
theorem dX9_pass_55 : decode cX9_pass 55 = .ok (.getfield 26, 3) := by decide +kernel
theorem dX9_pass_58 : decode cX9_pass 58 = .ok (.getfield 117, 3) := by decide +kernel
theorem dX9_pass_61 : decode cX9_pass 61 = .ok (.ireturn, 1) := by decide +kernel
theorem dX9_pass_27 : decode cX9_pass 27 = .ok (.bipush (-2), 2) := by decide +kernel
theorem dX9_pass_29 : decode cX9_pass 29 = .ok (.ireturn, 1) := by decide +kernel
theorem dX9_pass_10 : decode cX9_pass 10 = .ok (.iconst (-1), 1) := by decide +kernel
theorem dX9_pass_11 : decode cX9_pass 11 = .ok (.ireturn, 1) := by decide +kernel
theorem dX9_come_0 : decode cX9_come 0 = .ok (.iload_n 1, 1) := by decide +kernel
theorem dX9_come_1 : decode cX9_come 1 = .ok (.iload_n 2, 1) := by decide +kernel
theorem dX9_come_2 : decode cX9_come 2 = .ok (.iload_n 3, 1) := by decide +kernel
theorem dX9_come_3 : decode cX9_come 3 = .ok (.iload 4, 2) := by decide +kernel
theorem dX9_come_5 : decode cX9_come 5 = .ok (.invokestatic 143, 3) := by decide +kernel
theorem dX9_come_8 : decode cX9_come 8 = .ok (.ifCond .ne 5, 3) := by decide +kernel
theorem dX9_come_13 : decode cX9_come 13 = .ok (.aload_n 0, 1) := by decide +kernel
theorem dX9_come_14 : decode cX9_come 14 = .ok (.getfield 26, 3) := by decide +kernel
theorem dX9_come_17 : decode cX9_come 17 = .ok (.getfield 110, 3) := by decide +kernel
theorem dX9_come_20 : decode cX9_come 20 = .ok (.bipush 10, 2) := by decide +kernel
theorem dX9_come_22 : decode cX9_come 22 = .ok (.if_icmp .lt 6, 3) := by decide +kernel
theorem dX9_come_28 : decode cX9_come 28 = .ok (.aload_n 0, 1) := by decide +kernel
theorem dX9_come_29 : decode cX9_come 29 = .ok (.getfield 56, 3) := by decide +kernel
theorem dX9_come_32 : decode cX9_come 32 = .ok (.aload_n 0, 1) := by decide +kernel
theorem dX9_come_33 : decode cX9_come 33 = .ok (.getfield 26, 3) := by decide +kernel
theorem dX9_come_36 : decode cX9_come 36 = .ok (.invokevirtual 139, 3) := by decide +kernel
theorem dX9_come_39 : decode cX9_come 39 = .ok (.aload_n 0, 1) := by decide +kernel
theorem dX9_come_40 : decode cX9_come 40 = .ok (.getfield 26, 3) := by decide +kernel
theorem dX9_come_43 : decode cX9_come 43 = .ok (.iload_n 1, 1) := by decide +kernel
theorem dX9_come_44 : decode cX9_come 44 = .ok (.iload_n 2, 1) := by decide +kernel
theorem dX9_come_45 : decode cX9_come 45 = .ok (.iload_n 3, 1) := by decide +kernel
theorem dX9_come_46 : decode cX9_come 46 = .ok (.iload 4, 2) := by decide +kernel
theorem dX9_come_48 : decode cX9_come 48 = .ok (.invokevirtual 147, 3) := by decide +kernel
theorem dX9_come_51 : decode cX9_come 51 = .ok (.aload_n 0, 1) := by decide +kernel
theorem dX9_come_52 : decode cX9_come 52 = .ok (.getfield 26, 3) := by decide +kernel
theorem dX9_come_55 : decode cX9_come 55 = .ok (.getfield 110, 3) := by decide +kernel
theorem dX9_come_58 : decode cX9_come 58 = .ok (.iconst 1, 1) := by decide +kernel
theorem dX9_come_59 : decode cX9_come 59 = .ok (.isub, 1) := by decide +kernel
theorem dX9_come_60 : decode cX9_come 60 = .ok (.ireturn, 1) := by decide +kernel
theorem dX9_come_25 : decode cX9_come 25 = .ok (.bipush (-3), 2) := by decide +kernel
theorem dX9_come_27 : decode cX9_come 27 = .ok (.ireturn, 1) := by decide +kernel
theorem dX9_come_11 : decode cX9_come 11 = .ok (.iconst (-1), 1) := by decide +kernel
theorem dX9_come_12 : decode cX9_come 12 = .ok (.ireturn, 1) := by decide +kernel
theorem dX9_go_0 : decode cX9_go 0 = .ok (.aload_n 0, 1) := by decide +kernel
theorem dX9_go_1 : decode cX9_go 1 = .ok (.getfield 26, 3) := by decide +kernel
theorem dX9_go_4 : decode cX9_go 4 = .ok (.iload_n 1, 1) := by decide +kernel
theorem dX9_go_5 : decode cX9_go 5 = .ok (.invokevirtual 113, 3) := by decide +kernel
theorem dX9_go_8 : decode cX9_go 8 = .ok (.ifCond .eq 14, 3) := by decide +kernel
theorem dX9_go_22 : decode cX9_go 22 = .ok (.iconst (-1), 1) := by decide +kernel
theorem dX9_go_23 : decode cX9_go 23 = .ok (.ireturn, 1) := by decide +kernel
theorem dX9_go_11 : decode cX9_go 11 = .ok (.aload_n 0, 1) := by decide +kernel
theorem dX9_go_12 : decode cX9_go 12 = .ok (.getfield 26, 3) := by decide +kernel
theorem dX9_go_15 : decode cX9_go 15 = .ok (.iload_n 2, 1) := by decide +kernel
theorem dX9_go_16 : decode cX9_go 16 = .ok (.invokevirtual 113, 3) := by decide +kernel
theorem dX9_go_19 : decode cX9_go 19 = .ok (.ifCond .ne 5, 3) := by decide +kernel
theorem dX9_go_24 : decode cX9_go 24 = .ok (.aload_n 0, 1) := by decide +kernel
theorem dX9_go_25 : decode cX9_go 25 = .ok (.getfield 26, 3) := by decide +kernel
theorem dX9_go_28 : decode cX9_go 28 = .ok (.iload_n 1, 1) := by decide +kernel
theorem dX9_go_29 : decode cX9_go 29 = .ok (.iload_n 2, 1) := by decide +kernel
theorem dX9_go_30 : decode cX9_go 30 = .ok (.aload_n 0, 1) := by decide +kernel
theorem dX9_go_31 : decode cX9_go 31 = .ok (.getfield 26, 3) := by decide +kernel
theorem dX9_go_34 : decode cX9_go 34 = .ok (.getfield 117, 3) := by decide +kernel
theorem dX9_go_37 : decode cX9_go 37 = .ok (.invokevirtual 151, 3) := by decide +kernel
theorem dX9_go_40 : decode cX9_go 40 = .ok (.ifCond .ne 6, 3) := by decide +kernel
theorem dX9_go_46 : decode cX9_go 46 = .ok (.aload_n 0, 1) := by decide +kernel
theorem dX9_go_47 : decode cX9_go 47 = .ok (.getfield 56, 3) := by decide +kernel
theorem dX9_go_50 : decode cX9_go 50 = .ok (.aload_n 0, 1) := by decide +kernel
theorem dX9_go_51 : decode cX9_go 51 = .ok (.getfield 26, 3) := by decide +kernel
theorem dX9_go_54 : decode cX9_go 54 = .ok (.invokevirtual 139, 3) := by decide +kernel
theorem dX9_go_57 : decode cX9_go 57 = .ok (.aload_n 0, 1) := by decide +kernel
theorem dX9_go_58 : decode cX9_go 58 = .ok (.getfield 26, 3) := by decide +kernel
theorem dX9_go_61 : decode cX9_go 61 = .ok (.iload_n 1, 1) := by decide +kernel
theorem dX9_go_62 : decode cX9_go 62 = .ok (.iload_n 2, 1) := by decide +kernel
theorem dX9_go_63 : decode cX9_go 63 = .ok (.invokevirtual 154, 3) := by decide +kernel
theorem dX9_go_66 : decode cX9_go 66 = .ok (.aload_n 0, 1) := by decide +kernel
theorem dX9_go_67 : decode cX9_go 67 = .ok (.getfield 26, 3) := by decide +kernel
theorem dX9_go_70 : decode cX9_go 70 = .ok (.getfield 110, 3) := by decide +kernel
theorem dX9_go_73 : decode cX9_go 73 = .ok (.ireturn, 1) := by decide +kernel
theorem dX9_go_43 : decode cX9_go 43 = .ok (.bipush (-2), 2) := by decide +kernel
theorem dX9_go_45 : decode cX9_go 45 = .ok (.ireturn, 1) := by decide +kernel
theorem dX9_hole_0 : decode cX9_hole 0 = .ok (.aload_n 0, 1) := by decide +kernel
theorem dX9_hole_1 : decode cX9_hole 1 = .ok (.getfield 26, 3) := by decide +kernel
theorem dX9_hole_4 : decode cX9_hole 4 = .ok (.iload_n 1, 1) := by decide +kernel
theorem dX9_hole_5 : decode cX9_hole 5 = .ok (.invokevirtual 113, 3) := by decide +kernel
theorem dX9_hole_8 : decode cX9_hole 8 = .ok (.ifCond .ne 5, 3) := by decide +kernel
theorem dX9_hole_13 : decode cX9_hole 13 = .ok (.aload_n 0, 1) := by decide +kernel
theorem dX9_hole_14 : decode cX9_hole 14 = .ok (.getfield 26, 3) := by decide +kernel
theorem dX9_hole_17 : decode cX9_hole 17 = .ok (.iload_n 1, 1) := by decide +kernel
theorem dX9_hole_18 : decode cX9_hole 18 = .ok (.iconst 0, 1) := by decide +kernel
theorem dX9_hole_19 : decode cX9_hole 19 = .ok (.invokevirtual 127, 3) := by decide +kernel
theorem dX9_hole_22 : decode cX9_hole 22 = .ok (.istore_n 2, 1) := by decide +kernel
theorem dX9_hole_23 : decode cX9_hole 23 = .ok (.iload_n 2, 1) := by decide +kernel
theorem dX9_hole_24 : decode cX9_hole 24 = .ok (.iconst 2, 1) := by decide +kernel
theorem dX9_hole_25 : decode cX9_hole 25 = .ok (.if_icmp .ne 6, 3) := by decide +kernel
theorem dX9_hole_31 : decode cX9_hole 31 = .ok (.aload_n 0, 1) := by decide +kernel
theorem dX9_hole_32 : decode cX9_hole 32 = .ok (.getfield 56, 3) := by decide +kernel
theorem dX9_hole_35 : decode cX9_hole 35 = .ok (.aload_n 0, 1) := by decide +kernel
theorem dX9_hole_36 : decode cX9_hole 36 = .ok (.getfield 26, 3) := by decide +kernel
theorem dX9_hole_39 : decode cX9_hole 39 = .ok (.invokevirtual 139, 3) := by decide +kernel
theorem dX9_hole_42 : decode cX9_hole 42 = .ok (.aload_n 0, 1) := by decide +kernel
theorem dX9_hole_43 : decode cX9_hole 43 = .ok (.getfield 26, 3) := by decide +kernel
theorem dX9_hole_46 : decode cX9_hole 46 = .ok (.iload_n 1, 1) := by decide +kernel
theorem kw541 : Cond.code yX4_pierce cX4_pierce 2 none ∈ Tg := mem_Tg (List.mem_append_right _ (List.mem_of_getElem? (i := 541) (by decide +kernel))) (by decide +kernel)
theorem dX9_hole_47 : decode cX9_hole 47 = .ok (.invokevirtual 158, 3) := by decide +kernel
theorem dX9_hole_50 : decode cX9_hole 50 = .ok (.iload_n 2, 1) := by decide +kernel
theorem dX9_hole_51 : decode cX9_hole 51 = .ok (.ireturn, 1) := by decide +kernel
theorem dX9_hole_28 : decode cX9_hole 28 = .ok (.bipush (-2), 2) := by decide +kernel
theorem dX9_hole_30 : decode cX9_hole 30 = .ok (.ireturn, 1) := by decide +kernel
theorem dX9_hole_11 : decode cX9_hole 11 = .ok (.iconst (-1), 1) := by decide +kernel
theorem dX9_hole_12 : decode cX9_hole 12 = .ok (.ireturn, 1) := by decide +kernel
theorem dX9_undo_0 : decode cX9_undo 0 = .ok (.aload_n 0, 1) := by decide +kernel
theorem dX9_undo_1 : decode cX9_undo 1 = .ok (.getfield 56, 3) := by decide +kernel
theorem dX9_undo_4 : decode cX9_undo 4 = .ok (.aload_n 0, 1) := by decide +kernel
theorem dX9_undo_5 : decode cX9_undo 5 = .ok (.getfield 26, 3) := by decide +kernel
theorem kw549 : Cond.code yX2_popInto cX2_popInto 2 (some .boolean) ∈ Tg := mem_Tg (List.mem_append_right _ (List.mem_of_getElem? (i := 549) (by decide +kernel))) (by decide +kernel)
theorem dX9_undo_8 : decode cX9_undo 8 = .ok (.invokevirtual 161, 3) := by decide +kernel
theorem dX9_undo_11 : decode cX9_undo 11 = .ok (.ifCond .ne 6, 3) := by decide +kernel
theorem dX9_undo_17 : decode cX9_undo 17 = .ok (.aload_n 0, 1) := by decide +kernel
theorem dX9_undo_18 : decode cX9_undo 18 = .ok (.getfield 56, 3) := by decide +kernel
theorem dX9_undo_21 : decode cX9_undo 21 = .ok (.getfield 165, 3) := by decide +kernel
theorem dX9_undo_24 : decode cX9_undo 24 = .ok (.ireturn, 1) := by decide +kernel
theorem dX9_undo_14 : decode cX9_undo 14 = .ok (.bipush (-2), 2) := by decide +kernel
theorem dX9_undo_16 : decode cX9_undo 16 = .ok (.ireturn, 1) := by decide +kernel
theorem dX9_keep_0 : decode cX9_keep 0 = .ok (.aload_n 0, 1) := by decide +kernel
theorem dX9_keep_1 : decode cX9_keep 1 = .ok (.getfield 60, 3) := by decide +kernel
theorem dX9_keep_4 : decode cX9_keep 4 = .ok (.invokevirtual 249, 3) := by decide +kernel
theorem dX9_keep_7 : decode cX9_keep 7 = .ok (.ifCond .eq 6, 3) := by decide +kernel
theorem dX9_keep_13 : decode cX9_keep 13 = .ok (.aload_n 0, 1) := by decide +kernel
theorem dX9_keep_14 : decode cX9_keep 14 = .ok (.getfield 60, 3) := by decide +kernel
theorem dX9_keep_17 : decode cX9_keep 17 = .ok (.aload_n 0, 1) := by decide +kernel
theorem dX9_keep_18 : decode cX9_keep 18 = .ok (.getfield 26, 3) := by decide +kernel
theorem dX9_keep_21 : decode cX9_keep 21 = .ok (.invokevirtual 139, 3) := by decide +kernel
theorem dX9_keep_24 : decode cX9_keep 24 = .ok (.aload_n 0, 1) := by decide +kernel
theorem dX9_keep_25 : decode cX9_keep 25 = .ok (.getfield 60, 3) := by decide +kernel
theorem dX9_keep_28 : decode cX9_keep 28 = .ok (.getfield 165, 3) := by decide +kernel
theorem dX9_keep_31 : decode cX9_keep 31 = .ok (.ireturn, 1) := by decide +kernel
theorem dX9_keep_10 : decode cX9_keep 10 = .ok (.bipush (-3), 2) := by decide +kernel
theorem dX9_keep_12 : decode cX9_keep 12 = .ok (.ireturn, 1) := by decide +kernel
theorem dX9_back_0 : decode cX9_back 0 = .ok (.aload_n 0, 1) := by decide +kernel
theorem dX9_back_1 : decode cX9_back 1 = .ok (.getfield 60, 3) := by decide +kernel
theorem dX9_back_4 : decode cX9_back 4 = .ok (.aload_n 0, 1) := by decide +kernel
theorem dX9_back_5 : decode cX9_back 5 = .ok (.getfield 26, 3) := by decide +kernel
theorem dX9_back_8 : decode cX9_back 8 = .ok (.invokevirtual 161, 3) := by decide +kernel
theorem dX9_back_11 : decode cX9_back 11 = .ok (.ifCond .ne 6, 3) := by decide +kernel
theorem dX9_back_17 : decode cX9_back 17 = .ok (.aload_n 0, 1) := by decide +kernel
theorem dX9_back_18 : decode cX9_back 18 = .ok (.getfield 56, 3) := by decide +kernel
theorem kw394 : Cond.code yX2_clear cX2_clear 1 none ∈ Tg := mem_Tg (List.mem_append_right _ (List.mem_of_getElem? (i := 394) (by decide +kernel))) (by decide +kernel)
theorem dX9_back_21 : decode cX9_back 21 = .ok (.invokevirtual 252, 3) := by decide +kernel
theorem dX9_back_24 : decode cX9_back 24 = .ok (.aload_n 0, 1) := by decide +kernel
theorem dX9_back_25 : decode cX9_back 25 = .ok (.getfield 60, 3) := by decide +kernel
theorem dX9_back_28 : decode cX9_back 28 = .ok (.getfield 165, 3) := by decide +kernel
theorem dX9_back_31 : decode cX9_back 31 = .ok (.ireturn, 1) := by decide +kernel
theorem dX9_back_14 : decode cX9_back 14 = .ok (.bipush (-2), 2) := by decide +kernel
theorem dX9_back_16 : decode cX9_back 16 = .ok (.ireturn, 1) := by decide +kernel
theorem dX9_layText_0 : decode cX9_layText 0 = .ok (.aload_n 0, 1) := by decide +kernel
theorem dX9_layText_1 : decode cX9_layText 1 = .ok (.getfield 19, 3) := by decide +kernel
theorem dX9_layText_4 : decode cX9_layText 4 = .ok (.aload_n 0, 1) := by decide +kernel
theorem dX9_layText_5 : decode cX9_layText 5 = .ok (.getfield 10, 3) := by decide +kernel
theorem dX9_layText_8 : decode cX9_layText 8 = .ok (.invokevirtual 106, 3) := by decide +kernel
theorem dX9_layText_11 : decode cX9_layText 11 = .ok (.bipush (-4), 2) := by decide +kernel
theorem dX9_layText_13 : decode cX9_layText 13 = .ok (.if_icmp .ne 16, 3) := by decide +kernel
theorem dX9_layText_29 : decode cX9_layText 29 = .ok (.iconst 0, 1) := by decide +kernel
theorem dX9_layText_30 : decode cX9_layText 30 = .ok (.ireturn, 1) := by decide +kernel
theorem dX9_layText_16 : decode cX9_layText 16 = .ok (.aload_n 0, 1) := by decide +kernel
theorem dX9_layText_17 : decode cX9_layText 17 = .ok (.getfield 19, 3) := by decide +kernel
theorem dX9_layText_20 : decode cX9_layText 20 = .ok (.getfield 262, 3) := by decide +kernel
theorem dX9_layText_23 : decode cX9_layText 23 = .ok (.getfield 110, 3) := by decide +kernel
theorem dX9_layText_26 : decode cX9_layText 26 = .ok (.ifCond .ne 5, 3) := by decide +kernel
theorem dX9_layText_31 : decode cX9_layText 31 = .ok (.aload_n 0, 1) := by decide +kernel
theorem dX9_layText_32 : decode cX9_layText 32 = .ok (.getfield 26, 3) := by decide +kernel
theorem dX9_layText_35 : decode cX9_layText 35 = .ok (.aload_n 0, 1) := by decide +kernel
theorem dX9_layText_36 : decode cX9_layText 36 = .ok (.getfield 19, 3) := by decide +kernel
theorem dX9_layText_39 : decode cX9_layText 39 = .ok (.getfield 262, 3) := by decide +kernel
theorem dX9_layText_42 : decode cX9_layText 42 = .ok (.invokevirtual 263, 3) := by decide +kernel
theorem dX9_layText_45 : decode cX9_layText 45 = .ok (.aload_n 0, 1) := by decide +kernel
theorem dX9_layText_46 : decode cX9_layText 46 = .ok (.getfield 33, 3) := by decide +kernel
theorem dX9_layText_49 : decode cX9_layText 49 = .ok (.aload_n 0, 1) := by decide +kernel
theorem dX9_layText_50 : decode cX9_layText 50 = .ok (.getfield 19, 3) := by decide +kernel
theorem dX9_layText_53 : decode cX9_layText 53 = .ok (.getfield 266, 3) := by decide +kernel
theorem kw385 : Cond.code yX6_copy cX6_copy 2 none ∈ Tg := mem_Tg (List.mem_append_right _ (List.mem_of_getElem? (i := 385) (by decide +kernel))) (by decide +kernel)
theorem dX9_layText_56 : decode cX9_layText 56 = .ok (.invokevirtual 267, 3) := by decide +kernel
theorem dX9_layText_59 : decode cX9_layText 59 = .ok (.aload_n 0, 1) := by decide +kernel
theorem dX9_layText_60 : decode cX9_layText 60 = .ok (.getfield 40, 3) := by decide +kernel
theorem dX9_layText_63 : decode cX9_layText 63 = .ok (.aload_n 0, 1) := by decide +kernel
theorem dX9_layText_64 : decode cX9_layText 64 = .ok (.getfield 19, 3) := by decide +kernel
theorem dX9_layText_67 : decode cX9_layText 67 = .ok (.getfield 270, 3) := by decide +kernel
theorem kw390 : Cond.code yX0_copy cX0_copy 2 none ∈ Tg := mem_Tg (List.mem_append_right _ (List.mem_of_getElem? (i := 390) (by decide +kernel))) (by decide +kernel)
theorem dX9_layText_70 : decode cX9_layText 70 = .ok (.invokevirtual 271, 3) := by decide +kernel
theorem dX9_layText_73 : decode cX9_layText 73 = .ok (.aload_n 0, 1) := by decide +kernel
theorem dX9_layText_74 : decode cX9_layText 74 = .ok (.getfield 47, 3) := by decide +kernel
theorem dX9_layText_77 : decode cX9_layText 77 = .ok (.iconst 0, 1) := by decide +kernel
theorem dX9_layText_78 : decode cX9_layText 78 = .ok (.putfield 210, 3) := by decide +kernel
theorem dX9_layText_81 : decode cX9_layText 81 = .ok (.aload_n 0, 1) := by decide +kernel
theorem dX9_layText_82 : decode cX9_layText 82 = .ok (.getfield 56, 3) := by decide +kernel
theorem dX9_layText_85 : decode cX9_layText 85 = .ok (.invokevirtual 252, 3) := by decide +kernel
theorem dX9_layText_88 : decode cX9_layText 88 = .ok (.aload_n 0, 1) := by decide +kernel
theorem dX9_layText_89 : decode cX9_layText 89 = .ok (.getfield 60, 3) := by decide +kernel
theorem dX9_layText_92 : decode cX9_layText 92 = .ok (.invokevirtual 252, 3) := by decide +kernel
theorem dX9_layText_95 : decode cX9_layText 95 = .ok (.iconst 1, 1) := by decide +kernel
theorem dX9_layText_96 : decode cX9_layText 96 = .ok (.ireturn, 1) := by decide +kernel
theorem dX9_lay_0 : decode cX9_lay 0 = .ok (.aload_n 0, 1) := by decide +kernel
theorem kw289 : Cond.code yX9_layText cX9_layText 1 (some .boolean) ∈ Tg := mem_Tg (List.mem_append_right _ (List.mem_of_getElem? (i := 289) (by decide +kernel))) (by decide +kernel)
theorem dX9_lay_1 : decode cX9_lay 1 = .ok (.invokevirtual 92, 3) := by decide +kernel
theorem dX9_lay_4 : decode cX9_lay 4 = .ok (.ifCond .eq 13, 3) := by decide +kernel
theorem dX9_lay_17 : decode cX9_lay 17 = .ok (.bipush (-2), 2) := by decide +kernel
theorem dX9_lay_19 : decode cX9_lay 19 = .ok (.ireturn, 1) := by decide +kernel
theorem dX9_lay_7 : decode cX9_lay 7 = .ok (.aload_n 0, 1) := by decide +kernel
theorem dX9_lay_8 : decode cX9_lay 8 = .ok (.getfield 26, 3) := by decide +kernel
theorem dX9_lay_11 : decode cX9_lay 11 = .ok (.getfield 110, 3) := by decide +kernel
theorem dX9_lay_14 : decode cX9_lay 14 = .ok (.goto 5, 3) := by decide +kernel
theorem dX0_init_0 : decode cX0_init 0 = .ok (.aload_n 0, 1) := by decide +kernel
theorem kw104 : Cond.methodLink RX0 3 objectInit ∈ Tg := mem_Tg (List.mem_append_right _ (List.mem_of_getElem? (i := 104) (by decide +kernel))) (by decide +kernel)
theorem kw27 : Cond.instanceMethod objectInit ∈ Tg := mem_Tg (List.mem_append_right _ (List.mem_of_getElem? (i := 27) (by decide +kernel))) (by decide +kernel)
theorem kw28 : Cond.code objectInit ⟨#[0xb1]⟩ 1 none ∈ Tg := mem_Tg (List.mem_append_right _ (List.mem_of_getElem? (i := 28) (by decide +kernel))) (by decide +kernel)
theorem dX0_init_1 : decode cX0_init 1 = .ok (.invokespecial 3, 3) := by decide +kernel
theorem dX0_init_4 : decode cX0_init 4 = .ok (.return_, 1) := by decide +kernel
theorem dX5_init_0 : decode cX5_init 0 = .ok (.aload_n 0, 1) := by decide +kernel
theorem kw34 : Cond.methodLink RX5 3 objectInit ∈ Tg := mem_Tg (List.mem_append_right _ (List.mem_of_getElem? (i := 34) (by decide +kernel))) (by decide +kernel)
theorem dX5_init_1 : decode cX5_init 1 = .ok (.invokespecial 3, 3) := by decide +kernel
theorem dX5_init_4 : decode cX5_init 4 = .ok (.aload_n 0, 1) := by decide +kernel
theorem dX5_init_5 : decode cX5_init 5 = .ok (.sipush 200, 3) := by decide +kernel
theorem kw44 : Cond.arrayClass .char ∈ Tg := mem_Tg (List.mem_append_right _ (List.mem_of_getElem? (i := 44) (by decide +kernel))) (by decide +kernel)
theorem dX5_init_8 : decode cX5_init 8 = .ok (.newarray .char, 2) := by decide +kernel
theorem dX5_init_10 : decode cX5_init 10 = .ok (.putfield 9, 3) := by decide +kernel
theorem dX5_init_13 : decode cX5_init 13 = .ok (.return_, 1) := by decide +kernel
theorem dX6_init_0 : decode cX6_init 0 = .ok (.aload_n 0, 1) := by decide +kernel
theorem kw80 : Cond.methodLink RX6 3 objectInit ∈ Tg := mem_Tg (List.mem_append_right _ (List.mem_of_getElem? (i := 80) (by decide +kernel))) (by decide +kernel)
theorem dX6_init_1 : decode cX6_init 1 = .ok (.invokespecial 3, 3) := by decide +kernel
theorem dX6_init_4 : decode cX6_init 4 = .ok (.aload_n 0, 1) := by decide +kernel
theorem dX6_init_5 : decode cX6_init 5 = .ok (.iconst 5, 1) := by decide +kernel
theorem kw74 : Cond.arrayClass .int ∈ Tg := mem_Tg (List.mem_append_right _ (List.mem_of_getElem? (i := 74) (by decide +kernel))) (by decide +kernel)
theorem dX6_init_6 : decode cX6_init 6 = .ok (.newarray .int, 2) := by decide +kernel
theorem dX6_init_8 : decode cX6_init 8 = .ok (.putfield 9, 3) := by decide +kernel
theorem dX6_init_11 : decode cX6_init 11 = .ok (.aload_n 0, 1) := by decide +kernel
theorem dX6_init_12 : decode cX6_init 12 = .ok (.iconst 5, 1) := by decide +kernel
theorem dX6_init_13 : decode cX6_init 13 = .ok (.newarray .int, 2) := by decide +kernel
theorem dX6_init_15 : decode cX6_init 15 = .ok (.putfield 15, 3) := by decide +kernel
theorem dX6_init_18 : decode cX6_init 18 = .ok (.return_, 1) := by decide +kernel
theorem dX7_init_0 : decode cX7_init 0 = .ok (.aload_n 0, 1) := by decide +kernel
theorem kw148 : Cond.methodLink RX7 3 objectInit ∈ Tg := mem_Tg (List.mem_append_right _ (List.mem_of_getElem? (i := 148) (by decide +kernel))) (by decide +kernel)
theorem dX7_init_1 : decode cX7_init 1 = .ok (.invokespecial 3, 3) := by decide +kernel
theorem dX7_init_4 : decode cX7_init 4 = .ok (.aload_n 0, 1) := by decide +kernel
theorem dX7_init_5 : decode cX7_init 5 = .ok (.bipush 8, 2) := by decide +kernel
theorem dX7_init_7 : decode cX7_init 7 = .ok (.newarray .int, 2) := by decide +kernel
theorem dX7_init_9 : decode cX7_init 9 = .ok (.putfield 9, 3) := by decide +kernel
theorem dX7_init_12 : decode cX7_init 12 = .ok (.aload_n 0, 1) := by decide +kernel
theorem dX7_init_13 : decode cX7_init 13 = .ok (.bipush 8, 2) := by decide +kernel
theorem dX7_init_15 : decode cX7_init 15 = .ok (.newarray .int, 2) := by decide +kernel
theorem dX7_init_17 : decode cX7_init 17 = .ok (.putfield 15, 3) := by decide +kernel
theorem dX7_init_20 : decode cX7_init 20 = .ok (.aload_n 0, 1) := by decide +kernel
theorem dX7_init_21 : decode cX7_init 21 = .ok (.bipush 8, 2) := by decide +kernel
theorem dX7_init_23 : decode cX7_init 23 = .ok (.newarray .int, 2) := by decide +kernel
theorem dX7_init_25 : decode cX7_init 25 = .ok (.putfield 18, 3) := by decide +kernel
theorem dX7_init_28 : decode cX7_init 28 = .ok (.return_, 1) := by decide +kernel
theorem dX4_init_0 : decode cX4_init 0 = .ok (.aload_n 0, 1) := by decide +kernel
theorem kw56 : Cond.methodLink RX4 3 objectInit ∈ Tg := mem_Tg (List.mem_append_right _ (List.mem_of_getElem? (i := 56) (by decide +kernel))) (by decide +kernel)
theorem dX4_init_1 : decode cX4_init 1 = .ok (.invokespecial 3, 3) := by decide +kernel
theorem dX4_init_4 : decode cX4_init 4 = .ok (.aload_n 0, 1) := by decide +kernel
theorem dX4_init_5 : decode cX4_init 5 = .ok (.bipush 50, 2) := by decide +kernel
theorem dX4_init_7 : decode cX4_init 7 = .ok (.newarray .int, 2) := by decide +kernel
theorem dX4_init_9 : decode cX4_init 9 = .ok (.putfield 9, 3) := by decide +kernel
theorem dX4_init_12 : decode cX4_init 12 = .ok (.return_, 1) := by decide +kernel
theorem dX8_init_0 : decode cX8_init 0 = .ok (.aload_n 0, 1) := by decide +kernel
theorem kw221 : Cond.methodLink RX8 3 objectInit ∈ Tg := mem_Tg (List.mem_append_right _ (List.mem_of_getElem? (i := 221) (by decide +kernel))) (by decide +kernel)
theorem dX8_init_1 : decode cX8_init 1 = .ok (.invokespecial 3, 3) := by decide +kernel
theorem dX8_init_4 : decode cX8_init 4 = .ok (.aload_n 0, 1) := by decide +kernel
theorem dX8_init_5 : decode cX8_init 5 = .ok (.new 9, 3) := by decide +kernel
theorem dX8_init_8 : decode cX8_init 8 = .ok (.dup, 1) := by decide +kernel
theorem kw55 : Cond.code yX4_init cX4_init 1 none ∈ Tg := mem_Tg (List.mem_append_right _ (List.mem_of_getElem? (i := 55) (by decide +kernel))) (by decide +kernel)
theorem dX8_init_9 : decode cX8_init 9 = .ok (.invokespecial 11, 3) := by decide +kernel
theorem dX8_init_12 : decode cX8_init 12 = .ok (.putfield 12, 3) := by decide +kernel
theorem dX8_init_15 : decode cX8_init 15 = .ok (.return_, 1) := by decide +kernel
theorem dX2_init_0 : decode cX2_init 0 = .ok (.aload_n 0, 1) := by decide +kernel
theorem kw168 : Cond.methodLink RX2 1 objectInit ∈ Tg := mem_Tg (List.mem_append_right _ (List.mem_of_getElem? (i := 168) (by decide +kernel))) (by decide +kernel)
theorem dX2_init_1 : decode cX2_init 1 = .ok (.invokespecial 1, 3) := by decide +kernel
theorem dX2_init_4 : decode cX2_init 4 = .ok (.aload_n 0, 1) := by decide +kernel
theorem dX2_init_5 : decode cX2_init 5 = .ok (.iconst 1, 1) := by decide +kernel
theorem dX2_init_6 : decode cX2_init 6 = .ok (.iload_n 1, 1) := by decide +kernel
theorem dX2_init_7 : decode cX2_init 7 = .ok (.invokestatic 7, 3) := by decide +kernel
theorem dX2_init_10 : decode cX2_init 10 = .ok (.anewarray 13, 3) := by decide +kernel
theorem dX2_init_13 : decode cX2_init 13 = .ok (.putfield 15, 3) := by decide +kernel
theorem dX2_init_16 : decode cX2_init 16 = .ok (.iconst 0, 1) := by decide +kernel
theorem dX2_init_17 : decode cX2_init 17 = .ok (.istore_n 2, 1) := by decide +kernel
theorem dX2_init_18 : decode cX2_init 18 = .ok (.iload_n 2, 1) := by decide +kernel
theorem dX2_init_19 : decode cX2_init 19 = .ok (.aload_n 0, 1) := by decide +kernel
theorem dX2_init_20 : decode cX2_init 20 = .ok (.getfield 15, 3) := by decide +kernel
theorem dX2_init_23 : decode cX2_init 23 = .ok (.arraylength, 1) := by decide +kernel
theorem dX2_init_24 : decode cX2_init 24 = .ok (.if_icmp .ge 22, 3) := by decide +kernel
theorem dX2_init_27 : decode cX2_init 27 = .ok (.aload_n 0, 1) := by decide +kernel
theorem dX2_init_28 : decode cX2_init 28 = .ok (.getfield 15, 3) := by decide +kernel
theorem dX2_init_31 : decode cX2_init 31 = .ok (.iload_n 2, 1) := by decide +kernel
theorem dX2_init_32 : decode cX2_init 32 = .ok (.new 13, 3) := by decide +kernel
theorem dX2_init_35 : decode cX2_init 35 = .ok (.dup, 1) := by decide +kernel
theorem dX2_init_36 : decode cX2_init 36 = .ok (.invokespecial 21, 3) := by decide +kernel
theorem dX2_init_39 : decode cX2_init 39 = .ok (.aastore, 1) := by decide +kernel
theorem dX2_init_40 : decode cX2_init 40 = .ok (.iinc 2 1, 3) := by decide +kernel
theorem dX2_init_43 : decode cX2_init 43 = .ok (.goto (-25), 3) := by decide +kernel
theorem dX2_init_46 : decode cX2_init 46 = .ok (.return_, 1) := by decide +kernel
theorem dX3_init_0 : decode cX3_init 0 = .ok (.aload_n 0, 1) := by decide +kernel
theorem kw50 : Cond.methodLink RX3 3 objectInit ∈ Tg := mem_Tg (List.mem_append_right _ (List.mem_of_getElem? (i := 50) (by decide +kernel))) (by decide +kernel)
theorem dX3_init_1 : decode cX3_init 1 = .ok (.invokespecial 3, 3) := by decide +kernel
theorem dX3_init_4 : decode cX3_init 4 = .ok (.aload_n 0, 1) := by decide +kernel
theorem dX3_init_5 : decode cX3_init 5 = .ok (.new 9, 3) := by decide +kernel
theorem dX3_init_8 : decode cX3_init 8 = .ok (.dup, 1) := by decide +kernel
theorem dX3_init_9 : decode cX3_init 9 = .ok (.invokespecial 11, 3) := by decide +kernel
theorem dX3_init_12 : decode cX3_init 12 = .ok (.putfield 12, 3) := by decide +kernel
theorem dX3_init_15 : decode cX3_init 15 = .ok (.aload_n 0, 1) := by decide +kernel
theorem dX3_init_16 : decode cX3_init 16 = .ok (.new 18, 3) := by decide +kernel
theorem dX3_init_19 : decode cX3_init 19 = .ok (.dup, 1) := by decide +kernel
theorem kw79 : Cond.code yX6_init cX6_init 1 none ∈ Tg := mem_Tg (List.mem_append_right _ (List.mem_of_getElem? (i := 79) (by decide +kernel))) (by decide +kernel)
theorem dX3_init_20 : decode cX3_init 20 = .ok (.invokespecial 20, 3) := by decide +kernel
theorem dX3_init_23 : decode cX3_init 23 = .ok (.putfield 21, 3) := by decide +kernel
theorem dX3_init_26 : decode cX3_init 26 = .ok (.aload_n 0, 1) := by decide +kernel
theorem dX3_init_27 : decode cX3_init 27 = .ok (.new 25, 3) := by decide +kernel
theorem dX3_init_30 : decode cX3_init 30 = .ok (.dup, 1) := by decide +kernel
theorem kw103 : Cond.code yX0_init cX0_init 1 none ∈ Tg := mem_Tg (List.mem_append_right _ (List.mem_of_getElem? (i := 103) (by decide +kernel))) (by decide +kernel)
theorem dX3_init_31 : decode cX3_init 31 = .ok (.invokespecial 27, 3) := by decide +kernel
theorem dX3_init_34 : decode cX3_init 34 = .ok (.putfield 28, 3) := by decide +kernel
theorem dX3_init_37 : decode cX3_init 37 = .ok (.aload_n 0, 1) := by decide +kernel
theorem dX3_init_38 : decode cX3_init 38 = .ok (.iconst 4, 1) := by decide +kernel
theorem dX3_init_39 : decode cX3_init 39 = .ok (.newarray .int, 2) := by decide +kernel
theorem dX3_init_41 : decode cX3_init 41 = .ok (.putfield 32, 3) := by decide +kernel
theorem dX3_init_44 : decode cX3_init 44 = .ok (.return_, 1) := by decide +kernel
theorem dX1_init_0 : decode cX1_init 0 = .ok (.aload_n 0, 1) := by decide +kernel
theorem kw188 : Cond.methodLink RX1 3 objectInit ∈ Tg := mem_Tg (List.mem_append_right _ (List.mem_of_getElem? (i := 188) (by decide +kernel))) (by decide +kernel)
theorem dX1_init_1 : decode cX1_init 1 = .ok (.invokespecial 3, 3) := by decide +kernel
theorem dX1_init_4 : decode cX1_init 4 = .ok (.aload_n 0, 1) := by decide +kernel
theorem dX1_init_5 : decode cX1_init 5 = .ok (.sipush 1024, 3) := by decide +kernel
theorem dX1_init_8 : decode cX1_init 8 = .ok (.newarray .int, 2) := by decide +kernel
theorem dX1_init_10 : decode cX1_init 10 = .ok (.putfield 9, 3) := by decide +kernel
theorem dX1_init_13 : decode cX1_init 13 = .ok (.aload_n 0, 1) := by decide +kernel
theorem dX1_init_14 : decode cX1_init 14 = .ok (.bipush 10, 2) := by decide +kernel
theorem dX1_init_16 : decode cX1_init 16 = .ok (.newarray .int, 2) := by decide +kernel
theorem dX1_init_18 : decode cX1_init 18 = .ok (.putfield 15, 3) := by decide +kernel
theorem dX1_init_21 : decode cX1_init 21 = .ok (.aload_n 0, 1) := by decide +kernel
theorem dX1_init_22 : decode cX1_init 22 = .ok (.bipush 10, 2) := by decide +kernel
theorem dX1_init_24 : decode cX1_init 24 = .ok (.newarray .int, 2) := by decide +kernel
theorem dX1_init_26 : decode cX1_init 26 = .ok (.putfield 18, 3) := by decide +kernel
theorem dX1_init_29 : decode cX1_init 29 = .ok (.aload_n 0, 1) := by decide +kernel
theorem dX1_init_30 : decode cX1_init 30 = .ok (.bipush 10, 2) := by decide +kernel
theorem dX1_init_32 : decode cX1_init 32 = .ok (.newarray .int, 2) := by decide +kernel
theorem dX1_init_34 : decode cX1_init 34 = .ok (.putfield 21, 3) := by decide +kernel
theorem dX1_init_37 : decode cX1_init 37 = .ok (.return_, 1) := by decide +kernel
theorem dX10_init_0 : decode cX10_init 0 = .ok (.aload_n 0, 1) := by decide +kernel
theorem kw785 : Cond.methodLink RX10 1 objectInit ∈ Tg := mem_Tg (List.mem_append_right _ (List.mem_of_getElem? (i := 785) (by decide +kernel))) (by decide +kernel)
theorem dX10_init_1 : decode cX10_init 1 = .ok (.invokespecial 1, 3) := by decide +kernel
theorem dX10_init_4 : decode cX10_init 4 = .ok (.aload_n 0, 1) := by decide +kernel
theorem dX10_init_5 : decode cX10_init 5 = .ok (.bipush 10, 2) := by decide +kernel
theorem dX10_init_7 : decode cX10_init 7 = .ok (.newarray .int, 2) := by decide +kernel
theorem dX10_init_9 : decode cX10_init 9 = .ok (.putfield 7, 3) := by decide +kernel
theorem dX10_init_12 : decode cX10_init 12 = .ok (.aload_n 0, 1) := by decide +kernel
theorem dX10_init_13 : decode cX10_init 13 = .ok (.bipush 40, 2) := by decide +kernel
theorem kw905 : Cond.arrayClass .boolean ∈ Tg := mem_Tg (List.mem_append_right _ (List.mem_of_getElem? (i := 905) (by decide +kernel))) (by decide +kernel)
theorem dX10_init_15 : decode cX10_init 15 = .ok (.newarray .boolean, 2) := by decide +kernel
theorem dX10_init_17 : decode cX10_init 17 = .ok (.putfield 13, 3) := by decide +kernel
theorem dX10_init_20 : decode cX10_init 20 = .ok (.aload_n 0, 1) := by decide +kernel
theorem dX10_init_21 : decode cX10_init 21 = .ok (.bipush 52, 2) := by decide +kernel
theorem dX10_init_23 : decode cX10_init 23 = .ok (.newarray .int, 2) := by decide +kernel
theorem dX10_init_25 : decode cX10_init 25 = .ok (.putfield 17, 3) := by decide +kernel
theorem dX10_init_28 : decode cX10_init 28 = .ok (.aload_n 0, 1) := by decide +kernel
theorem dX10_init_29 : decode cX10_init 29 = .ok (.sipush 416, 3) := by decide +kernel
theorem dX10_init_32 : decode cX10_init 32 = .ok (.newarray .int, 2) := by decide +kernel
theorem dX10_init_34 : decode cX10_init 34 = .ok (.putfield 20, 3) := by decide +kernel
theorem dX10_init_37 : decode cX10_init 37 = .ok (.aload_n 0, 1) := by decide +kernel
theorem dX10_init_38 : decode cX10_init 38 = .ok (.bipush 104, 2) := by decide +kernel
theorem dX10_init_40 : decode cX10_init 40 = .ok (.newarray .int, 2) := by decide +kernel
theorem dX10_init_42 : decode cX10_init 42 = .ok (.putfield 23, 3) := by decide +kernel
theorem dX10_init_45 : decode cX10_init 45 = .ok (.aload_n 0, 1) := by decide +kernel
theorem dX10_init_46 : decode cX10_init 46 = .ok (.bipush 24, 2) := by decide +kernel
theorem dX10_init_48 : decode cX10_init 48 = .ok (.newarray .int, 2) := by decide +kernel
theorem dX10_init_50 : decode cX10_init 50 = .ok (.putfield 26, 3) := by decide +kernel
theorem dX10_init_53 : decode cX10_init 53 = .ok (.aload_n 0, 1) := by decide +kernel
theorem dX10_init_54 : decode cX10_init 54 = .ok (.sipush 200, 3) := by decide +kernel
theorem dX10_init_57 : decode cX10_init 57 = .ok (.newarray .int, 2) := by decide +kernel
theorem dX10_init_59 : decode cX10_init 59 = .ok (.putfield 29, 3) := by decide +kernel
theorem dX10_init_62 : decode cX10_init 62 = .ok (.aload_n 0, 1) := by decide +kernel
theorem dX10_init_63 : decode cX10_init 63 = .ok (.iconst 4, 1) := by decide +kernel
theorem dX10_init_64 : decode cX10_init 64 = .ok (.newarray .int, 2) := by decide +kernel
theorem dX10_init_66 : decode cX10_init 66 = .ok (.putfield 32, 3) := by decide +kernel
theorem dX10_init_69 : decode cX10_init 69 = .ok (.aload_n 0, 1) := by decide +kernel
theorem dX10_init_70 : decode cX10_init 70 = .ok (.bipush 52, 2) := by decide +kernel
theorem dX10_init_72 : decode cX10_init 72 = .ok (.newarray .int, 2) := by decide +kernel
theorem dX10_init_74 : decode cX10_init 74 = .ok (.putfield 35, 3) := by decide +kernel
theorem dX10_init_77 : decode cX10_init 77 = .ok (.aload_n 0, 1) := by decide +kernel
theorem dX10_init_78 : decode cX10_init 78 = .ok (.bipush 10, 2) := by decide +kernel
theorem dX10_init_80 : decode cX10_init 80 = .ok (.newarray .int, 2) := by decide +kernel
theorem dX10_init_82 : decode cX10_init 82 = .ok (.putfield 38, 3) := by decide +kernel
theorem dX10_init_85 : decode cX10_init 85 = .ok (.aload_n 0, 1) := by decide +kernel
theorem dX10_init_86 : decode cX10_init 86 = .ok (.bipush 40, 2) := by decide +kernel
theorem dX10_init_88 : decode cX10_init 88 = .ok (.newarray .boolean, 2) := by decide +kernel
theorem dX10_init_90 : decode cX10_init 90 = .ok (.putfield 41, 3) := by decide +kernel
theorem dX10_init_93 : decode cX10_init 93 = .ok (.aload_n 0, 1) := by decide +kernel
theorem dX10_init_94 : decode cX10_init 94 = .ok (.bipush 52, 2) := by decide +kernel
theorem dX10_init_96 : decode cX10_init 96 = .ok (.newarray .int, 2) := by decide +kernel
theorem dX10_init_98 : decode cX10_init 98 = .ok (.putfield 44, 3) := by decide +kernel
theorem dX10_init_101 : decode cX10_init 101 = .ok (.aload_n 0, 1) := by decide +kernel
theorem dX10_init_102 : decode cX10_init 102 = .ok (.bipush 10, 2) := by decide +kernel
theorem dX10_init_104 : decode cX10_init 104 = .ok (.newarray .int, 2) := by decide +kernel
theorem dX10_init_106 : decode cX10_init 106 = .ok (.putfield 47, 3) := by decide +kernel
theorem dX10_init_109 : decode cX10_init 109 = .ok (.aload_n 0, 1) := by decide +kernel
theorem dX10_init_110 : decode cX10_init 110 = .ok (.bipush 10, 2) := by decide +kernel
theorem dX10_init_112 : decode cX10_init 112 = .ok (.newarray .int, 2) := by decide +kernel
theorem dX10_init_114 : decode cX10_init 114 = .ok (.putfield 50, 3) := by decide +kernel
theorem dX10_init_117 : decode cX10_init 117 = .ok (.aload_n 0, 1) := by decide +kernel
theorem dX10_init_118 : decode cX10_init 118 = .ok (.sipush 1100, 3) := by decide +kernel
theorem dX10_init_121 : decode cX10_init 121 = .ok (.newarray .int, 2) := by decide +kernel
theorem dX10_init_123 : decode cX10_init 123 = .ok (.putfield 53, 3) := by decide +kernel
theorem dX10_init_126 : decode cX10_init 126 = .ok (.aload_n 0, 1) := by decide +kernel
theorem dX10_init_127 : decode cX10_init 127 = .ok (.bipush 10, 2) := by decide +kernel
theorem dX10_init_129 : decode cX10_init 129 = .ok (.newarray .int, 2) := by decide +kernel
theorem dX10_init_131 : decode cX10_init 131 = .ok (.putfield 56, 3) := by decide +kernel
theorem dX10_init_134 : decode cX10_init 134 = .ok (.aload_n 0, 1) := by decide +kernel
theorem dX10_init_135 : decode cX10_init 135 = .ok (.sipush 1024, 3) := by decide +kernel
theorem dX10_init_138 : decode cX10_init 138 = .ok (.newarray .int, 2) := by decide +kernel
theorem dX10_init_140 : decode cX10_init 140 = .ok (.putfield 59, 3) := by decide +kernel
theorem dX10_init_143 : decode cX10_init 143 = .ok (.aload_n 0, 1) := by decide +kernel
theorem dX10_init_144 : decode cX10_init 144 = .ok (.invokevirtual 62, 3) := by decide +kernel
theorem dX10_init_147 : decode cX10_init 147 = .ok (.aload_n 0, 1) := by decide +kernel
theorem dX10_init_148 : decode cX10_init 148 = .ok (.iconst 0, 1) := by decide +kernel
theorem dX10_init_149 : decode cX10_init 149 = .ok (.iconst 0, 1) := by decide +kernel
theorem dX10_init_150 : decode cX10_init 150 = .ok (.bipush 40, 2) := by decide +kernel
theorem dX10_init_152 : decode cX10_init 152 = .ok (.bipush 10, 2) := by decide +kernel
theorem dX10_init_154 : decode cX10_init 154 = .ok (.invokevirtual 65, 3) := by decide +kernel
theorem dX10_init_157 : decode cX10_init 157 = .ok (.aload_n 0, 1) := by decide +kernel
theorem dX10_init_158 : decode cX10_init 158 = .ok (.iconst 1, 1) := by decide +kernel
theorem dX10_init_159 : decode cX10_init 159 = .ok (.iconst 0, 1) := by decide +kernel
theorem dX10_init_160 : decode cX10_init 160 = .ok (.bipush 48, 2) := by decide +kernel
theorem dX10_init_162 : decode cX10_init 162 = .ok (.bipush 14, 2) := by decide +kernel
theorem dX10_init_164 : decode cX10_init 164 = .ok (.invokevirtual 65, 3) := by decide +kernel
theorem dX10_init_167 : decode cX10_init 167 = .ok (.aload_n 0, 1) := by decide +kernel
theorem dX10_init_168 : decode cX10_init 168 = .ok (.iconst 0, 1) := by decide +kernel
theorem dX10_init_169 : decode cX10_init 169 = .ok (.iconst 1, 1) := by decide +kernel
theorem dX10_init_170 : decode cX10_init 170 = .ok (.bipush 41, 2) := by decide +kernel
theorem dX10_init_172 : decode cX10_init 172 = .ok (.bipush 11, 2) := by decide +kernel
theorem dX10_init_174 : decode cX10_init 174 = .ok (.invokevirtual 65, 3) := by decide +kernel
theorem dX10_init_177 : decode cX10_init 177 = .ok (.aload_n 0, 1) := by decide +kernel
theorem dX10_init_178 : decode cX10_init 178 = .ok (.iconst 2, 1) := by decide +kernel
theorem dX10_init_179 : decode cX10_init 179 = .ok (.iconst 1, 1) := by decide +kernel
theorem dX10_init_180 : decode cX10_init 180 = .ok (.bipush 44, 2) := by decide +kernel
theorem dX10_init_182 : decode cX10_init 182 = .ok (.bipush 9, 2) := by decide +kernel
theorem dX10_init_184 : decode cX10_init 184 = .ok (.invokevirtual 65, 3) := by decide +kernel
theorem dX10_init_187 : decode cX10_init 187 = .ok (.aload_n 0, 1) := by decide +kernel
theorem dX10_init_188 : decode cX10_init 188 = .ok (.iconst 3, 1) := by decide +kernel
theorem dX10_init_189 : decode cX10_init 189 = .ok (.iconst 1, 1) := by decide +kernel
theorem dX10_init_190 : decode cX10_init 190 = .ok (.bipush 44, 2) := by decide +kernel
theorem dX10_init_192 : decode cX10_init 192 = .ok (.bipush 12, 2) := by decide +kernel
theorem dX10_init_194 : decode cX10_init 194 = .ok (.invokevirtual 65, 3) := by decide +kernel
theorem dX10_init_197 : decode cX10_init 197 = .ok (.aload_n 0, 1) := by decide +kernel
theorem dX10_init_198 : decode cX10_init 198 = .ok (.iconst 1, 1) := by decide +kernel
theorem dX10_init_199 : decode cX10_init 199 = .ok (.iconst 1, 1) := by decide +kernel
theorem dX10_init_200 : decode cX10_init 200 = .ok (.bipush 36, 2) := by decide +kernel
theorem dX10_init_202 : decode cX10_init 202 = .ok (.bipush 13, 2) := by decide +kernel
theorem dX10_init_204 : decode cX10_init 204 = .ok (.invokevirtual 65, 3) := by decide +kernel
theorem dX10_init_207 : decode cX10_init 207 = .ok (.aload_n 0, 1) := by decide +kernel
theorem dX10_init_208 : decode cX10_init 208 = .ok (.iconst 0, 1) := by decide +kernel
theorem dX10_init_209 : decode cX10_init 209 = .ok (.iconst 0, 1) := by decide +kernel
theorem dX10_init_210 : decode cX10_init 210 = .ok (.bipush 33, 2) := by decide +kernel
theorem dX10_init_212 : decode cX10_init 212 = .ok (.bipush 8, 2) := by decide +kernel
theorem dX10_init_214 : decode cX10_init 214 = .ok (.invokevirtual 65, 3) := by decide +kernel
theorem dX10_init_217 : decode cX10_init 217 = .ok (.aload_n 0, 1) := by decide +kernel
theorem dX10_init_218 : decode cX10_init 218 = .ok (.bipush 38, 2) := by decide +kernel
theorem dX10_init_220 : decode cX10_init 220 = .ok (.bipush 39, 2) := by decide +kernel
theorem dX10_init_222 : decode cX10_init 222 = .ok (.invokevirtual 69, 3) := by decide +kernel
theorem dX10_init_225 : decode cX10_init 225 = .ok (.aload_n 0, 1) := by decide +kernel
theorem dX10_init_226 : decode cX10_init 226 = .ok (.bipush 42, 2) := by decide +kernel
theorem dX10_init_228 : decode cX10_init 228 = .ok (.bipush 40, 2) := by decide +kernel
theorem dX10_init_230 : decode cX10_init 230 = .ok (.invokevirtual 69, 3) := by decide +kernel
theorem dX10_init_233 : decode cX10_init 233 = .ok (.aload_n 0, 1) := by decide +kernel
theorem dX10_init_234 : decode cX10_init 234 = .ok (.bipush 23, 2) := by decide +kernel
theorem dX10_init_236 : decode cX10_init 236 = .ok (.putfield 73, 3) := by decide +kernel
theorem dX10_init_239 : decode cX10_init 239 = .ok (.aload_n 0, 1) := by decide +kernel
theorem dX10_init_240 : decode cX10_init 240 = .ok (.iconst 5, 1) := by decide +kernel
theorem dX10_init_241 : decode cX10_init 241 = .ok (.putfield 77, 3) := by decide +kernel
theorem dX10_init_244 : decode cX10_init 244 = .ok (.aload_n 0, 1) := by decide +kernel
theorem dX10_init_245 : decode cX10_init 245 = .ok (.getfield 41, 3) := by decide +kernel
theorem dX10_init_248 : decode cX10_init 248 = .ok (.bipush 7, 2) := by decide +kernel
theorem dX10_init_250 : decode cX10_init 250 = .ok (.iconst 1, 1) := by decide +kernel
theorem dX10_init_251 : decode cX10_init 251 = .ok (.bastore, 1) := by decide +kernel
theorem dX10_init_252 : decode cX10_init 252 = .ok (.aload_n 0, 1) := by decide +kernel
theorem dX10_init_253 : decode cX10_init 253 = .ok (.getfield 41, 3) := by decide +kernel
theorem dX10_init_256 : decode cX10_init 256 = .ok (.bipush 14, 2) := by decide +kernel
theorem dX10_init_258 : decode cX10_init 258 = .ok (.iconst 1, 1) := by decide +kernel
theorem dX10_init_259 : decode cX10_init 259 = .ok (.bastore, 1) := by decide +kernel
theorem dX10_init_260 : decode cX10_init 260 = .ok (.aload_n 0, 1) := by decide +kernel
theorem dX10_init_261 : decode cX10_init 261 = .ok (.invokevirtual 80, 3) := by decide +kernel
theorem dX10_init_264 : decode cX10_init 264 = .ok (.return_, 1) := by decide +kernel
theorem dJ3_checkIndex_8e157_0 : decode cJ3_checkIndex_8e157 0 = .ok (.iload_n 0, 1) := by decide +kernel
theorem dJ3_checkIndex_8e157_1 : decode cJ3_checkIndex_8e157 1 = .ok (.ifCond .lt 8, 3) := by decide +kernel
theorem dJ3_checkIndex_8e157_4 : decode cJ3_checkIndex_8e157 4 = .ok (.iload_n 0, 1) := by decide +kernel
theorem dJ3_checkIndex_8e157_5 : decode cJ3_checkIndex_8e157 5 = .ok (.iload_n 1, 1) := by decide +kernel
theorem dJ3_checkIndex_8e157_6 : decode cJ3_checkIndex_8e157 6 = .ok (.if_icmp .lt 10, 3) := by decide +kernel
theorem dJ3_checkIndex_8e157_16 : decode cJ3_checkIndex_8e157 16 = .ok (.iload_n 0, 1) := by decide +kernel
theorem dJ3_checkIndex_8e157_17 : decode cJ3_checkIndex_8e157 17 = .ok (.ireturn, 1) := by decide +kernel
theorem dJ0_checkIndex_df160_0 : decode cJ0_checkIndex_df160 0 = .ok (.iload_n 0, 1) := by decide +kernel
theorem dJ0_checkIndex_df160_1 : decode cJ0_checkIndex_df160 1 = .ok (.iload_n 1, 1) := by decide +kernel
theorem kw258 : Cond.fieldLink RJ0 1053 "jdk/internal/util/Preconditions" "SIOOBE_FORMATTER" "Ljava/util/function/BiFunction;" ∈ Tg := mem_Tg (List.mem_append_right _ (List.mem_of_getElem? (i := 258) (by decide +kernel))) (by decide +kernel)
theorem dJ0_checkIndex_df160_2 : decode cJ0_checkIndex_df160 2 = .ok (.getstatic 1053, 3) := by decide +kernel
theorem kw262 : Cond.code yJ3_checkIndex_8e157 cJ3_checkIndex_8e157 3 (some .int) ∈ Tg := mem_Tg (List.mem_append_right _ (List.mem_of_getElem? (i := 262) (by decide +kernel))) (by decide +kernel)
theorem dJ0_checkIndex_df160_5 : decode cJ0_checkIndex_df160 5 = .ok (.invokestatic 1059, 3) := by decide +kernel
theorem dJ0_checkIndex_df160_8 : decode cJ0_checkIndex_df160 8 = .ok (.pop, 1) := by decide +kernel
theorem dJ0_checkIndex_df160_9 : decode cJ0_checkIndex_df160 9 = .ok (.return_, 1) := by decide +kernel
theorem dJ1_charAt_3b067_0 : decode cJ1_charAt_3b067 0 = .ok (.iload_n 1, 1) := by decide +kernel
theorem dJ1_charAt_3b067_1 : decode cJ1_charAt_3b067 1 = .ok (.aload_n 0, 1) := by decide +kernel
theorem dJ1_charAt_3b067_2 : decode cJ1_charAt_3b067 2 = .ok (.arraylength, 1) := by decide +kernel
theorem kw257 : Cond.code yJ0_checkIndex_df160 cJ0_checkIndex_df160 2 none ∈ Tg := mem_Tg (List.mem_append_right _ (List.mem_of_getElem? (i := 257) (by decide +kernel))) (by decide +kernel)
theorem dJ1_charAt_3b067_3 : decode cJ1_charAt_3b067 3 = .ok (.invokestatic 9, 3) := by decide +kernel
theorem dJ1_charAt_3b067_6 : decode cJ1_charAt_3b067 6 = .ok (.aload_n 0, 1) := by decide +kernel
theorem dJ1_charAt_3b067_7 : decode cJ1_charAt_3b067 7 = .ok (.iload_n 1, 1) := by decide +kernel
theorem dJ1_charAt_3b067_8 : decode cJ1_charAt_3b067 8 = .ok (.baload, 1) := by decide +kernel
theorem dJ1_charAt_3b067_9 : decode cJ1_charAt_3b067 9 = .ok (.sipush 255, 3) := by decide +kernel
theorem dJ1_charAt_3b067_12 : decode cJ1_charAt_3b067 12 = .ok (.iand, 1) := by decide +kernel
theorem dJ1_charAt_3b067_13 : decode cJ1_charAt_3b067 13 = .ok (.i2c, 1) := by decide +kernel
theorem dJ1_charAt_3b067_14 : decode cJ1_charAt_3b067 14 = .ok (.ireturn, 1) := by decide +kernel
theorem kw242 : Cond.fieldLink RJ0 38 "java/lang/String" "COMPACT_STRINGS" "Z" ∈ Tg := mem_Tg (List.mem_append_right _ (List.mem_of_getElem? (i := 242) (by decide +kernel))) (by decide +kernel)
theorem dJ0_isLatin1_aae02_0 : decode cJ0_isLatin1_aae02 0 = .ok (.getstatic 38, 3) := by decide +kernel
theorem dJ0_isLatin1_aae02_3 : decode cJ0_isLatin1_aae02 3 = .ok (.ifCond .eq 14, 3) := by decide +kernel
theorem dJ0_isLatin1_aae02_6 : decode cJ0_isLatin1_aae02 6 = .ok (.aload_n 0, 1) := by decide +kernel
theorem kw1161 : Cond.fieldLink RJ0 15 "java/lang/String" "coder" "B" ∈ Tg := mem_Tg (List.mem_append_right _ (List.mem_of_getElem? (i := 1161) (by decide +kernel))) (by decide +kernel)
theorem dJ0_isLatin1_aae02_7 : decode cJ0_isLatin1_aae02 7 = .ok (.getfield 15, 3) := by decide +kernel
theorem dJ0_isLatin1_aae02_10 : decode cJ0_isLatin1_aae02 10 = .ok (.ifCond .ne 7, 3) := by decide +kernel
theorem dJ0_isLatin1_aae02_13 : decode cJ0_isLatin1_aae02 13 = .ok (.iconst 1, 1) := by decide +kernel
theorem dJ0_isLatin1_aae02_14 : decode cJ0_isLatin1_aae02 14 = .ok (.goto 4, 3) := by decide +kernel
theorem dJ0_isLatin1_aae02_18 : decode cJ0_isLatin1_aae02 18 = .ok (.ireturn, 1) := by decide +kernel
theorem dJ0_coder_7d493_0 : decode cJ0_coder_7d493 0 = .ok (.getstatic 38, 3) := by decide +kernel
theorem dJ0_coder_7d493_3 : decode cJ0_coder_7d493 3 = .ok (.ifCond .eq 10, 3) := by decide +kernel
theorem dJ0_coder_7d493_6 : decode cJ0_coder_7d493 6 = .ok (.aload_n 0, 1) := by decide +kernel
theorem dJ0_coder_7d493_7 : decode cJ0_coder_7d493 7 = .ok (.getfield 15, 3) := by decide +kernel
theorem dJ0_coder_7d493_10 : decode cJ0_coder_7d493 10 = .ok (.goto 4, 3) := by decide +kernel
theorem dJ0_coder_7d493_14 : decode cJ0_coder_7d493 14 = .ok (.ireturn, 1) := by decide +kernel
theorem dJ0_length_8abf5_0 : decode cJ0_length_8abf5 0 = .ok (.aload_n 0, 1) := by decide +kernel
theorem kw1160 : Cond.fieldLink RJ0 9 "java/lang/String" "value" "[B" ∈ Tg := mem_Tg (List.mem_append_right _ (List.mem_of_getElem? (i := 1160) (by decide +kernel))) (by decide +kernel)
theorem dJ0_length_8abf5_1 : decode cJ0_length_8abf5 1 = .ok (.getfield 9, 3) := by decide +kernel
theorem dJ0_length_8abf5_4 : decode cJ0_length_8abf5 4 = .ok (.arraylength, 1) := by decide +kernel
theorem dJ0_length_8abf5_5 : decode cJ0_length_8abf5 5 = .ok (.aload_n 0, 1) := by decide +kernel
theorem kw241 : Cond.code yJ0_coder_7d493 cJ0_coder_7d493 1 (some .byte) ∈ Tg := mem_Tg (List.mem_append_right _ (List.mem_of_getElem? (i := 241) (by decide +kernel))) (by decide +kernel)
theorem dJ0_length_8abf5_6 : decode cJ0_length_8abf5 6 = .ok (.invokevirtual 335, 3) := by decide +kernel
theorem dJ0_length_8abf5_9 : decode cJ0_length_8abf5 9 = .ok (.ishr, 1) := by decide +kernel
theorem dJ0_length_8abf5_10 : decode cJ0_length_8abf5 10 = .ok (.ireturn, 1) := by decide +kernel
theorem dJ0_charAt_5068e_0 : decode cJ0_charAt_5068e 0 = .ok (.aload_n 0, 1) := by decide +kernel
theorem kw251 : Cond.code yJ0_isLatin1_aae02 cJ0_isLatin1_aae02 1 (some .boolean) ∈ Tg := mem_Tg (List.mem_append_right _ (List.mem_of_getElem? (i := 251) (by decide +kernel))) (by decide +kernel)
theorem dJ0_charAt_5068e_1 : decode cJ0_charAt_5068e 1 = .ok (.invokevirtual 492, 3) := by decide +kernel
theorem dJ0_charAt_5068e_4 : decode cJ0_charAt_5068e 4 = .ok (.ifCond .eq 12, 3) := by decide +kernel
theorem dJ0_charAt_5068e_7 : decode cJ0_charAt_5068e 7 = .ok (.aload_n 0, 1) := by decide +kernel
theorem dJ0_charAt_5068e_8 : decode cJ0_charAt_5068e 8 = .ok (.getfield 9, 3) := by decide +kernel
theorem dJ0_charAt_5068e_11 : decode cJ0_charAt_5068e 11 = .ok (.iload_n 1, 1) := by decide +kernel
theorem kw254 : Cond.code yJ1_charAt_3b067 cJ1_charAt_3b067 2 (some .char) ∈ Tg := mem_Tg (List.mem_append_right _ (List.mem_of_getElem? (i := 254) (by decide +kernel))) (by decide +kernel)
theorem dJ0_charAt_5068e_12 : decode cJ0_charAt_5068e 12 = .ok (.invokestatic 495, 3) := by decide +kernel
theorem dJ0_charAt_5068e_15 : decode cJ0_charAt_5068e 15 = .ok (.ireturn, 1) := by decide +kernel
theorem cs_X9_99 : CSw RX9 99 yX9_within 3 := ⟨by decide +kernel, kw336, kw337, kw1⟩
theorem cs_X9_133 : CSw RX9 133 yX9_isSide 1 := ⟨by decide +kernel, kw339, kw340, kw1⟩
theorem mh_X9_274 : MH RX9 274 Lib.Math.min.name Lib.Math.min.code 2 := ⟨kw376, kw377, kw9, kw378⟩
theorem fg_X0_9 : FG RX0 9 0 0 .int false := ⟨RX0, TX0, 3, tyX0, rfl, in0, by decide, tyX0_ok, nmX0, kw105, rfl, by decide +kernel⟩
theorem fg_X0_15 : FG RX0 15 0 1 .int false := ⟨RX0, TX0, 3, tyX0, rfl, in0, by decide, tyX0_ok, nmX0, kw107, rfl, by decide +kernel⟩
theorem fg_X0_18 : FG RX0 18 0 2 .long false := ⟨RX0, TX0, 3, tyX0, rfl, in0, by decide, tyX0_ok, nmX0, kw109, rfl, by decide +kernel⟩
theorem cs_X0_22 : CSw RX0 22 yJ13_bitCount_95d88 1 := ⟨by decide +kernel, kw770, kw771, kw20⟩
theorem cv_X0_28 : CVw RX0 28 RX0 yX0_isBlock 1 := ⟨by decide +kernel, kw668, kw670, ks18, kw6⟩
theorem fg_X5_15 : FG RX5 15 5 1 .int false := ⟨RX5, TX5, 2, tyX5, rfl, in5, by decide, tyX5_ok, nmX5, kw36, rfl, by decide +kernel⟩
theorem fg_X5_9 : FG RX5 9 5 0 (.array .char) true := ⟨RX5, TX5, 2, tyX5, rfl, in5, by decide, tyX5_ok, nmX5, kw35, rfl, by decide +kernel⟩
theorem cv_X5_19 : CVw RX5 19 RX5 yX5_letterAt 1 := ⟨by decide +kernel, kw314, kw315, kw316, kw2⟩
theorem fg_X6_18 : FG RX6 18 6 2 .int false := ⟨RX6, TX6, 4, tyX6, rfl, in6, by decide, tyX6_ok, nmX6, kw83, rfl, by decide +kernel⟩
theorem fg_X6_22 : FG RX6 22 6 3 .int false := ⟨RX6, TX6, 4, tyX6, rfl, in6, by decide, tyX6_ok, nmX6, kw87, rfl, by decide +kernel⟩
theorem fg_X6_9 : FG RX6 9 6 0 (.array .int) true := ⟨RX6, TX6, 4, tyX6, rfl, in6, by decide, tyX6_ok, nmX6, kw81, rfl, by decide +kernel⟩
theorem cn_X6_25 : CNw RX6 25 yX9_copyRow "LeftAndRight" 2 := ⟨by decide +kernel, kn20, kw374, kw1⟩
theorem fg_X6_15 : FG RX6 15 6 1 (.array .int) true := ⟨RX6, TX6, 4, tyX6, rfl, in6, by decide, tyX6_ok, nmX6, kw82, rfl, by decide +kernel⟩
theorem cn_X6_29 : CNw RX6 29 yX9_put "LeftAndRight" 3 := ⟨by decide +kernel, kn18, kw319, kw1⟩
theorem cn_X6_33 : CNw RX6 33 yX9_at "LeftAndRight" 2 := ⟨by decide +kernel, kn22, kw331, kw1⟩
theorem cv_X6_37 : CVw RX6 37 RX6 yX6_foot 2 := ⟨by decide +kernel, kw635, kw480, kw481, kw5⟩
theorem cn_X6_41 : CNw RX6 41 yX9_within "LeftAndRight" 3 := ⟨by decide +kernel, kn27, kw337, kw1⟩
theorem fg_X7_21 : FG RX7 21 7 3 .int false := ⟨RX7, TX7, 4, tyX7, rfl, in7, by decide, tyX7_ok, nmX7, kw152, rfl, by decide +kernel⟩
theorem fg_X7_9 : FG RX7 9 7 0 (.array .int) true := ⟨RX7, TX7, 4, tyX7, rfl, in7, by decide, tyX7_ok, nmX7, kw149, rfl, by decide +kernel⟩
theorem cn_X7_25 : CNw RX7 25 yX9_put "LeftAndRight" 3 := ⟨by decide +kernel, kn28, kw319, kw1⟩
theorem fg_X7_15 : FG RX7 15 7 1 (.array .int) true := ⟨RX7, TX7, 4, tyX7, rfl, in7, by decide, tyX7_ok, nmX7, kw150, rfl, by decide +kernel⟩
theorem fg_X7_18 : FG RX7 18 7 2 (.array .int) true := ⟨RX7, TX7, 4, tyX7, rfl, in7, by decide, tyX7_ok, nmX7, kw151, rfl, by decide +kernel⟩
theorem cn_X7_33 : CNw RX7 33 yX9_at "LeftAndRight" 2 := ⟨by decide +kernel, kn29, kw331, kw1⟩
theorem cv_X7_29 : CVw RX7 29 RX7 yX7_agrees 2 := ⟨by decide +kernel, kw701, kw703, ks19, kw7⟩
theorem fg_X4_15 : FG RX4 15 4 1 .int false := ⟨RX4, TX4, 3, tyX4, rfl, in4, by decide, tyX4_ok, nmX4, kw58, rfl, by decide +kernel⟩
theorem fg_X4_19 : FG RX4 19 4 2 .int false := ⟨RX4, TX4, 3, tyX4, rfl, in4, by decide, tyX4_ok, nmX4, kw63, rfl, by decide +kernel⟩
theorem fg_X4_9 : FG RX4 9 4 0 (.array .int) true := ⟨RX4, TX4, 3, tyX4, rfl, in4, by decide, tyX4_ok, nmX4, kw57, rfl, by decide +kernel⟩
theorem cn_X4_22 : CNw RX4 22 yX9_copyRow "LeftAndRight" 2 := ⟨by decide +kernel, kn19, kw374, kw1⟩
theorem cn_X4_26 : CNw RX4 26 yX9_within "LeftAndRight" 3 := ⟨by decide +kernel, kn21, kw337, kw1⟩
theorem cv_X4_30 : CVw RX4 30 RX4 yX4_holds 1 := ⟨by decide +kernel, kw519, kw452, kw453, kw4⟩
theorem cn_X4_34 : CNw RX4 34 yX9_put "LeftAndRight" 3 := ⟨by decide +kernel, kn16, kw319, kw1⟩
theorem cv_X4_38 : CVw RX4 38 RX4 yX4_cell 2 := ⟨by decide +kernel, kw460, kw461, kw462, kw4⟩
theorem cv_X4_42 : CVw RX4 42 RX4 yX4_isOfSide 2 := ⟨by decide +kernel, kw515, kw516, kw517, kw4⟩
theorem cn_X4_58 : CNw RX4 58 yX9_at "LeftAndRight" 2 := ⟨by decide +kernel, kn23, kw331, kw1⟩
theorem mh_X4_46 : MH RX4 46 Lib.Math.max.name Lib.Math.max.code 2 := ⟨kw468, kw170, kw9, kw171⟩
theorem cv_X4_51 : CVw RX4 51 RX4 yX4_removeOne 1 := ⟨by decide +kernel, kw529, kw531, ks10, kw4⟩
theorem mh_X4_55 : MH RX4 55 Lib.Math.min.name Lib.Math.min.code 2 := ⟨kw469, kw377, kw9, kw378⟩
theorem cv_X4_62 : CVw RX4 62 RX4 yX4_driedBy 2 := ⟨by decide +kernel, kw464, kw466, ks8, kw4⟩
theorem cv_X4_65 : CVw RX4 65 RX4 yX4_sizeOn 2 := ⟨by decide +kernel, kw520, kw457, kw458, kw4⟩
theorem mh_X4_68 : MH RX4 68 Lib.Math.abs.name Lib.Math.abs.code 1 := ⟨kw521, kw522, kw9, kw523⟩
theorem cv_X4_72 : CVw RX4 72 RX4 yX4_weightOn 2 := ⟨by decide +kernel, kw524, kw471, kw472, kw4⟩
theorem cv_X4_75 : CVw RX4 75 RX4 yX4_areAlikeOn 3 := ⟨by decide +kernel, kw558, kw512, kw513, kw4⟩
theorem fg_X8_12 : FG RX8 12 8 0 (.object "LeftAndRight$Shelf") true := ⟨RX8, TX8, 2, tyX8, rfl, in8, by decide, tyX8_ok, nmX8, kw224, rfl, by decide +kernel⟩
theorem fg_X8_26 : FG RX8 26 4 1 .int false := ⟨RX4, TX4, 3, tyX4, rfl, in4, by decide, tyX4_ok, nmX4, kw60, rfl, by decide +kernel⟩
theorem fg_X8_40 : FG RX8 40 4 2 .int false := ⟨RX4, TX4, 3, tyX4, rfl, in4, by decide, tyX4_ok, nmX4, kw65, rfl, by decide +kernel⟩
theorem cv_X8_51 : CVw RX8 51 RX4 yX4_areAlikeOn 3 := ⟨by decide +kernel, kw751, kw512, kw513, kw4⟩
theorem cv_X8_55 : CVw RX8 55 RX4 yX4_removeTwo 2 := ⟨by decide +kernel, kw752, kw526, kw527, kw4⟩
theorem fg_X8_22 : FG RX8 22 8 1 .int false := ⟨RX8, TX8, 2, tyX8, rfl, in8, by decide, tyX8_ok, nmX8, kw226, rfl, by decide +kernel⟩
theorem cv_X8_18 : CVw RX8 18 RX4 yX4_copy 1 := ⟨by decide +kernel, kw738, kw370, kw371, kw4⟩
theorem cv_X8_37 : CVw RX8 37 RX8 yX8_sendFirstPair 0 := ⟨by decide +kernel, kw747, kw749, ks20, kw11⟩
theorem cs_X8_29 : CSw RX8 29 yX8_drawOf 2 := ⟨by decide +kernel, kw739, kw740, kw11⟩
theorem cv_X8_33 : CVw RX8 33 RX4 yX4_add 4 := ⟨by decide +kernel, kw746, kw343, kw344, kw4⟩
theorem cv_X3_59 : CVw RX3 59 RX5 yX5_figureAt 1 := ⟨by decide +kernel, kw310, kw311, kw312, kw2⟩
theorem fg_X3_32 : FG RX3 32 3 3 (.array .int) true := ⟨RX3, TX3, 5, tyX3, rfl, in3, by decide, tyX3_ok, nmX3, kw124, rfl, by decide +kernel⟩
theorem cn_X3_62 : CNw RX3 62 yX9_put "LeftAndRight" 3 := ⟨by decide +kernel, kn13, kw319, kw1⟩
theorem fg_X3_66 : FG RX3 66 3 4 .int false := ⟨RX3, TX3, 5, tyX3, rfl, in3, by decide, tyX3_ok, nmX3, kw125, rfl, by decide +kernel⟩
theorem cv_X3_51 : CVw RX3 51 RX5 yX5_letterAt 1 := ⟨by decide +kernel, kw321, kw315, kw316, kw2⟩
theorem fg_X3_12 : FG RX3 12 3 0 (.object "LeftAndRight$Shelf") true := ⟨RX3, TX3, 5, tyX3, rfl, in3, by decide, tyX3_ok, nmX3, kw118, rfl, by decide +kernel⟩
theorem fg_X3_85 : FG RX3 85 4 1 .int false := ⟨RX4, TX4, 3, tyX4, rfl, in4, by decide, tyX4_ok, nmX4, kw62, rfl, by decide +kernel⟩
theorem cn_X3_88 : CNw RX3 88 yX9_at "LeftAndRight" 2 := ⟨by decide +kernel, kn14, kw331, kw1⟩
theorem cn_X3_92 : CNw RX3 92 yX9_isClog "LeftAndRight" 4 := ⟨by decide +kernel, kn15, kw334, kw1⟩
theorem cv_X3_96 : CVw RX3 96 RX4 yX4_add 4 := ⟨by decide +kernel, kw342, kw343, kw344, kw4⟩
theorem fg_X3_21 : FG RX3 21 3 1 (.object "LeftAndRight$Waiting") true := ⟨RX3, TX3, 5, tyX3, rfl, in3, by decide, tyX3_ok, nmX3, kw120, rfl, by decide +kernel⟩
theorem fg_X3_100 : FG RX3 100 6 2 .int false := ⟨RX6, TX6, 4, tyX6, rfl, in6, by decide, tyX6_ok, nmX6, kw84, rfl, by decide +kernel⟩
theorem cn_X3_103 : CNw RX3 103 yX9_within "LeftAndRight" 3 := ⟨by decide +kernel, kn17, kw337, kw1⟩
theorem cv_X3_107 : CVw RX3 107 RX6 yX6_add 2 := ⟨by decide +kernel, kw352, kw353, kw354, kw5⟩
theorem fg_X3_28 : FG RX3 28 3 2 (.object "LeftAndRight$Log") true := ⟨RX3, TX3, 5, tyX3, rfl, in3, by decide, tyX3_ok, nmX3, kw122, rfl, by decide +kernel⟩
theorem fg_X3_110 : FG RX3 110 0 0 .int false := ⟨RX0, TX0, 3, tyX0, rfl, in0, by decide, tyX0_ok, nmX0, kw106, rfl, by decide +kernel⟩
theorem fg_X3_111 : FG RX3 111 0 1 .int false := ⟨RX0, TX0, 3, tyX0, rfl, in0, by decide, tyX0_ok, nmX0, kw108, rfl, by decide +kernel⟩
theorem fg_X3_114 : FG RX3 114 0 2 .long false := ⟨RX0, TX0, 3, tyX0, rfl, in0, by decide, tyX0_ok, nmX0, kw110, rfl, by decide +kernel⟩
theorem fg_X3_118 : FG RX3 118 6 3 .int false := ⟨RX6, TX6, 4, tyX6, rfl, in6, by decide, tyX6_ok, nmX6, kw88, rfl, by decide +kernel⟩
theorem cv_X3_69 : CVw RX3 69 RX3 yX3_takeClog 0 := ⟨by decide +kernel, kw326, kw328, ks3, kw3⟩
theorem cv_X3_73 : CVw RX3 73 RX3 yX3_takeFeet 0 := ⟨by decide +kernel, kw347, kw349, ks4, kw3⟩
theorem cv_X3_76 : CVw RX3 76 RX3 yX3_takeLog 0 := ⟨by decide +kernel, kw357, kw359, ks5, kw3⟩
theorem cv_X3_79 : CVw RX3 79 RX3 yX3_takeKnot 0 := ⟨by decide +kernel, kw361, kw363, ks6, kw3⟩
theorem cv_X3_82 : CVw RX3 82 RX3 yX3_takeStocking 0 := ⟨by decide +kernel, kw365, kw367, ks7, kw3⟩
theorem sw_out_X3_take_1 {x : Int32} (h0 : ¬ x = 99) (h1 : ¬ x = 102) (h2 : ¬ x = 103) (h3 : ¬ x = 107) (h4 : ¬ x = 115) : Op.lookupswitch.offset [(99, 51), (102, 56), (103, 61), (107, 66), (115, 71)] (76) x.toInt = 76 := by
  have e0 : ¬ ((99 : Int) = x.toInt) := fun z => sw_ne h0 z.symm
  have e1 : ¬ ((102 : Int) = x.toInt) := fun z => sw_ne h1 z.symm
  have e2 : ¬ ((103 : Int) = x.toInt) := fun z => sw_ne h2 z.symm
  have e3 : ¬ ((107 : Int) = x.toInt) := fun z => sw_ne h3 z.symm
  have e4 : ¬ ((115 : Int) = x.toInt) := fun z => sw_ne h4 z.symm
  simp [Op.lookupswitch.offset, List.find?, e0, Ne.symm (sw_ne h0), e1, Ne.symm (sw_ne h1), e2, Ne.symm (sw_ne h2), e3, Ne.symm (sw_ne h3), e4, Ne.symm (sw_ne h4)]
theorem cv_X3_36 : CVw RX3 36 RX4 yX4_clear 0 := ⟨by decide +kernel, kw294, kw295, kw296, kw4⟩
theorem cv_X3_39 : CVw RX3 39 RX6 yX6_clear 0 := ⟨by decide +kernel, kw298, kw299, kw300, kw5⟩
theorem cv_X3_40 : CVw RX3 40 RX0 yX0_clear 0 := ⟨by decide +kernel, kw302, kw303, kw304, kw6⟩
theorem fg_X3_41 : FG RX3 41 5 1 .int false := ⟨RX5, TX5, 2, tyX5, rfl, in5, by decide, tyX5_ok, nmX5, kw38, rfl, by decide +kernel⟩
theorem cv_X3_47 : CVw RX3 47 RX3 yX3_readNumbers 2 := ⟨by decide +kernel, kw306, kw308, ks1, kw3⟩
theorem cv_X3_55 : CVw RX3 55 RX3 yX3_take 1 := ⟨by decide +kernel, kw322, kw324, ks2, kw3⟩
theorem fg_X1_24 : FG RX1 24 4 1 .int false := ⟨RX4, TX4, 3, tyX4, rfl, in4, by decide, tyX4_ok, nmX4, kw59, rfl, by decide +kernel⟩
theorem mh_X1_30 : MH RX1 30 Lib.Math.min.name Lib.Math.min.code 2 := ⟨kw567, kw377, kw9, kw378⟩
theorem mh_X1_36 : MH RX1 36 Lib.Math.max.name Lib.Math.max.code 2 := ⟨kw568, kw170, kw9, kw171⟩
theorem fg_X1_39 : FG RX1 39 1 5 .int false := ⟨RX1, TX1, 8, tyX1, rfl, in1, by decide, tyX1_ok, nmX1, kw194, rfl, by decide +kernel⟩
theorem cv_X1_40 : CVw RX1 40 RX4 yX4_ofSide 1 := ⟨by decide +kernel, kw569, kw570, kw571, kw4⟩
theorem fg_X1_44 : FG RX1 44 1 4 .int false := ⟨RX1, TX1, 8, tyX1, rfl, in1, by decide, tyX1_ok, nmX1, kw193, rfl, by decide +kernel⟩
theorem fg_X1_15 : FG RX1 15 1 1 (.array .int) true := ⟨RX1, TX1, 8, tyX1, rfl, in1, by decide, tyX1_ok, nmX1, kw190, rfl, by decide +kernel⟩
theorem cv_X1_47 : CVw RX1 47 RX4 yX4_matesOf 1 := ⟨by decide +kernel, kw573, kw555, kw556, kw4⟩
theorem cn_X1_50 : CNw RX1 50 yX9_put "LeftAndRight" 3 := ⟨by decide +kernel, kn24, kw319, kw1⟩
theorem fg_X1_18 : FG RX1 18 1 2 (.array .int) true := ⟨RX1, TX1, 8, tyX1, rfl, in1, by decide, tyX1_ok, nmX1, kw191, rfl, by decide +kernel⟩
theorem fg_X1_54 : FG RX1 54 4 2 .int false := ⟨RX4, TX4, 3, tyX4, rfl, in4, by decide, tyX4_ok, nmX4, kw64, rfl, by decide +kernel⟩
theorem cv_X1_57 : CVw RX1 57 RX4 yX4_sizeOn 2 := ⟨by decide +kernel, kw575, kw457, kw458, kw4⟩
theorem cn_X1_86 : CNw RX1 86 yX9_at "LeftAndRight" 2 := ⟨by decide +kernel, kn26, kw331, kw1⟩
theorem mh_X1_97 : MH RX1 97 Lib.Math.abs.name Lib.Math.abs.code 1 := ⟨kw596, kw522, kw9, kw523⟩
theorem fg_X1_9 : FG RX1 9 1 0 (.array .int) true := ⟨RX1, TX1, 8, tyX1, rfl, in1, by decide, tyX1_ok, nmX1, kw189, rfl, by decide +kernel⟩
theorem cv_X1_94 : CVw RX1 94 RX1 yX1_distance 2 := ⟨by decide +kernel, kw592, kw594, ks13, kw10⟩
theorem cn_X1_75 : CNw RX1 75 yX9_hasBit "LeftAndRight" 2 := ⟨by decide +kernel, kn25, kw585, kw1⟩
theorem cv_X1_90 : CVw RX1 90 RX1 yX1_worthOf 3 := ⟨by decide +kernel, kw588, kw590, ks12, kw10⟩
theorem fg_X1_21 : FG RX1 21 1 3 (.array .int) true := ⟨RX1, TX1, 8, tyX1, rfl, in1, by decide, tyX1_ok, nmX1, kw192, rfl, by decide +kernel⟩
theorem fg_X1_69 : FG RX1 69 1 6 .int false := ⟨RX1, TX1, 8, tyX1, rfl, in1, by decide, tyX1_ok, nmX1, kw195, rfl, by decide +kernel⟩
theorem fg_X1_72 : FG RX1 72 1 7 .int false := ⟨RX1, TX1, 8, tyX1, rfl, in1, by decide, tyX1_ok, nmX1, kw197, rfl, by decide +kernel⟩
theorem cv_X1_60 : CVw RX1 60 RX1 yX1_bestWithout 1 := ⟨by decide +kernel, kw580, kw582, ks11, kw10⟩
theorem cs_X1_63 : CSw RX1 63 yJ7_fill_53178 2 := ⟨by decide +kernel, kw597, kw598, kw18⟩
theorem cv_X1_79 : CVw RX1 79 RX1 yX1_firstBest 2 := ⟨by decide +kernel, kw600, kw602, ks14, kw10⟩
theorem cv_X1_82 : CVw RX1 82 RX1 yX1_join 2 := ⟨by decide +kernel, kw604, kw606, ks15, kw10⟩
theorem cv_X1_116 : CVw RX1 116 RX1 yX1_giveOnTopOf 2 := ⟨by decide +kernel, kw641, kw643, ks17, kw10⟩
theorem fg_X1_100 : FG RX1 100 6 2 .int false := ⟨RX6, TX6, 4, tyX6, rfl, in6, by decide, tyX6_ok, nmX6, kw86, rfl, by decide +kernel⟩
theorem cv_X1_103 : CVw RX1 103 RX6 yX6_suits 3 := ⟨by decide +kernel, kw631, kw632, kw633, kw5⟩
theorem cv_X1_107 : CVw RX1 107 RX1 yX1_giveOut 1 := ⟨by decide +kernel, kw637, kw639, ks16, kw10⟩
theorem cs_X1_111 : CSw RX1 111 yJ6_bitCount_0f7a4 1 := ⟨by decide +kernel, kw645, kw618, kw19⟩
theorem fg_X2_22 : FG RX2 22 2 1 .int false := ⟨RX2, TX2, 2, tyX2, rfl, in2, by decide, tyX2_ok, nmX2, kw176, rfl, by decide +kernel⟩
theorem fg_X2_15 : FG RX2 15 2 0 (.array (.object "LeftAndRight$Shelf")) true := ⟨RX2, TX2, 2, tyX2, rfl, in2, by decide, tyX2_ok, nmX2, kw175, rfl, by decide +kernel⟩
theorem cv_X2_26 : CVw RX2 26 RX2 yX2_isFull 0 := ⟨by decide +kernel, kw492, kw493, kw494, kw8⟩
theorem cv_X2_33 : CVw RX2 33 RX4 yX4_copy 1 := ⟨by decide +kernel, kw500, kw370, kw371, kw4⟩
theorem cv_X2_30 : CVw RX2 30 RX2 yX2_dropLowest 0 := ⟨by decide +kernel, kw496, kw498, ks9, kw8⟩
theorem fg_X10_38 : FG RX10 38 10 19 (.array .int) true := ⟨RX10, TX10, 32, tyX10, rfl, in10, by decide, tyX10_ok, nmX10, kw827, rfl, by decide +kernel⟩
theorem fg_X10_87 : FG RX10 87 10 18 .int false := ⟨RX10, TX10, 32, tyX10, rfl, in10, by decide, tyX10_ok, nmX10, kw826, rfl, by decide +kernel⟩
theorem fg_X10_17 : FG RX10 17 10 6 (.array .int) true := ⟨RX10, TX10, 32, tyX10, rfl, in10, by decide, tyX10_ok, nmX10, kw814, rfl, by decide +kernel⟩
theorem cs_X10_90 : CSw RX10 90 yX10_in 3 := ⟨by decide +kernel, kw910, kw911, kw17⟩
theorem fg_X10_94 : FG RX10 94 10 14 .int false := ⟨RX10, TX10, 32, tyX10, rfl, in10, by decide, tyX10_ok, nmX10, kw822, rfl, by decide +kernel⟩
theorem fg_X10_29 : FG RX10 29 10 13 (.array .int) true := ⟨RX10, TX10, 32, tyX10, rfl, in10, by decide, tyX10_ok, nmX10, kw821, rfl, by decide +kernel⟩
theorem fg_X10_97 : FG RX10 97 10 15 .int false := ⟨RX10, TX10, 32, tyX10, rfl, in10, by decide, tyX10_ok, nmX10, kw823, rfl, by decide +kernel⟩
theorem cv_X10_100 : CVw RX10 100 RX10 yX10_letterAt 1 := ⟨by decide +kernel, kw925, kw927, ks26, kw17⟩
theorem cs_X10_104 : CSw RX10 104 yX10_isFigure 1 := ⟨by decide +kernel, kw937, kw938, kw17⟩
theorem fg_X10_32 : FG RX10 32 10 16 (.array .int) true := ⟨RX10, TX10, 32, tyX10, rfl, in10, by decide, tyX10_ok, nmX10, kw824, rfl, by decide +kernel⟩
theorem fg_X10_35 : FG RX10 35 10 17 (.array .int) true := ⟨RX10, TX10, 32, tyX10, rfl, in10, by decide, tyX10_ok, nmX10, kw825, rfl, by decide +kernel⟩
theorem fg_X10_41 : FG RX10 41 10 22 (.array .boolean) true := ⟨RX10, TX10, 32, tyX10, rfl, in10, by decide, tyX10_ok, nmX10, kw830, rfl, by decide +kernel⟩
theorem fg_X10_73 : FG RX10 73 10 20 .int false := ⟨RX10, TX10, 32, tyX10, rfl, in10, by decide, tyX10_ok, nmX10, kw828, rfl, by decide +kernel⟩
theorem fg_X10_77 : FG RX10 77 10 21 .int false := ⟨RX10, TX10, 32, tyX10, rfl, in10, by decide, tyX10_ok, nmX10, kw829, rfl, by decide +kernel⟩
theorem fg_X10_108 : FG RX10 108 10 23 .int false := ⟨RX10, TX10, 32, tyX10, rfl, in10, by decide, tyX10_ok, nmX10, kw831, rfl, by decide +kernel⟩
theorem cv_X10_111 : CVw RX10 111 RX10 yX10_readNumbers 1 := ⟨by decide +kernel, kw933, kw935, ks28, kw17⟩
theorem cv_X10_118 : CVw RX10 118 RX10 yX10_isTold 3 := ⟨by decide +kernel, kw947, kw949, ks30, kw17⟩
theorem cv_X10_69 : CVw RX10 69 RX10 yX10_tellsFeet 2 := ⟨by decide +kernel, kw797, kw799, ks23, kw17⟩
theorem cs_X10_144 : CSw RX10 144 yX10_copies 5 := ⟨by decide +kernel, kw805, kw806, kw17⟩
theorem fg_X10_148 : FG RX10 148 10 0 .int false := ⟨RX10, TX10, 32, tyX10, rfl, in10, by decide, tyX10_ok, nmX10, kw808, rfl, by decide +kernel⟩
theorem fg_X10_7 : FG RX10 7 10 1 (.array .int) true := ⟨RX10, TX10, 32, tyX10, rfl, in10, by decide, tyX10_ok, nmX10, kw809, rfl, by decide +kernel⟩
theorem fg_X10_151 : FG RX10 151 10 2 .int false := ⟨RX10, TX10, 32, tyX10, rfl, in10, by decide, tyX10_ok, nmX10, kw810, rfl, by decide +kernel⟩
theorem fg_X10_154 : FG RX10 154 10 3 .int false := ⟨RX10, TX10, 32, tyX10, rfl, in10, by decide, tyX10_ok, nmX10, kw811, rfl, by decide +kernel⟩
theorem fg_X10_13 : FG RX10 13 10 4 (.array .boolean) true := ⟨RX10, TX10, 32, tyX10, rfl, in10, by decide, tyX10_ok, nmX10, kw812, rfl, by decide +kernel⟩
theorem fg_X10_157 : FG RX10 157 10 5 .int false := ⟨RX10, TX10, 32, tyX10, rfl, in10, by decide, tyX10_ok, nmX10, kw813, rfl, by decide +kernel⟩
theorem fg_X10_160 : FG RX10 160 10 7 .int false := ⟨RX10, TX10, 32, tyX10, rfl, in10, by decide, tyX10_ok, nmX10, kw815, rfl, by decide +kernel⟩
theorem fg_X10_163 : FG RX10 163 10 9 .int false := ⟨RX10, TX10, 32, tyX10, rfl, in10, by decide, tyX10_ok, nmX10, kw817, rfl, by decide +kernel⟩
theorem fg_X10_166 : FG RX10 166 10 11 .int false := ⟨RX10, TX10, 32, tyX10, rfl, in10, by decide, tyX10_ok, nmX10, kw819, rfl, by decide +kernel⟩
theorem cs_X10_83 : CSw RX10 83 yX10_puts 5 := ⟨by decide +kernel, kw794, kw795, kw17⟩
theorem cs_X10_114 : CSw RX10 114 yX10_isOne 4 := ⟨by decide +kernel, kw940, kw941, kw17⟩
theorem cv_X10_65 : CVw RX10 65 RX10 yX10_tellsClog 4 := ⟨by decide +kernel, kw790, kw792, ks22, kw17⟩
theorem cv_X10_121 : CVw RX10 121 RX10 yX10_readClogOf 0 := ⟨by decide +kernel, kw929, kw931, ks27, kw17⟩
theorem cv_X10_125 : CVw RX10 125 RX10 yX10_readFeetOf 0 := ⟨by decide +kernel, kw943, kw945, ks29, kw17⟩
theorem cv_X10_128 : CVw RX10 128 RX10 yX10_readLogOf 0 := ⟨by decide +kernel, kw951, kw953, ks31, kw17⟩
theorem cv_X10_131 : CVw RX10 131 RX10 yX10_readKnotOf 0 := ⟨by decide +kernel, kw955, kw957, ks32, kw17⟩
theorem cv_X10_134 : CVw RX10 134 RX10 yX10_readStockingOf 0 := ⟨by decide +kernel, kw959, kw961, ks33, kw17⟩
theorem sw_out_X10_readItem_20 {x : Int32} (h0 : ¬ x = 99) (h1 : ¬ x = 102) (h2 : ¬ x = 103) (h3 : ¬ x = 107) (h4 : ¬ x = 115) : Op.lookupswitch.offset [(99, 52), (102, 57), (103, 62), (107, 67), (115, 72)] (77) x.toInt = 77 := by
  have e0 : ¬ ((99 : Int) = x.toInt) := fun z => sw_ne h0 z.symm
  have e1 : ¬ ((102 : Int) = x.toInt) := fun z => sw_ne h1 z.symm
  have e2 : ¬ ((103 : Int) = x.toInt) := fun z => sw_ne h2 z.symm
  have e3 : ¬ ((107 : Int) = x.toInt) := fun z => sw_ne h3 z.symm
  have e4 : ¬ ((115 : Int) = x.toInt) := fun z => sw_ne h4 z.symm
  simp [Op.lookupswitch.offset, List.find?, e0, Ne.symm (sw_ne h0), e1, Ne.symm (sw_ne h1), e2, Ne.symm (sw_ne h2), e3, Ne.symm (sw_ne h3), e4, Ne.symm (sw_ne h4)]
theorem cv_X10_62 : CVw RX10 62 RX10 yX10_clearTold 0 := ⟨by decide +kernel, kw786, kw788, ks21, kw17⟩
theorem cv_X10_137 : CVw RX10 137 RX10 yX10_readItem 0 := ⟨by decide +kernel, kw921, kw923, ks25, kw17⟩
theorem cv_X10_140 : CVw RX10 140 RX10 yX10_fault 0 := ⟨by decide +kernel, kw967, kw918, kw919, kw17⟩
theorem cv_X10_80 : CVw RX10 80 RX10 yX10_settles 0 := ⟨by decide +kernel, kw801, kw803, ks24, kw17⟩
theorem fg_X10_44 : FG RX10 44 10 24 (.array .int) true := ⟨RX10, TX10, 32, tyX10, rfl, in10, by decide, tyX10_ok, nmX10, kw832, rfl, by decide +kernel⟩
theorem cv_X10_169 : CVw RX10 169 RX10 yX10_kindOf 1 := ⟨by decide +kernel, kw980, kw982, ks36, kw17⟩
theorem cv_X10_172 : CVw RX10 172 RX10 yX10_driedFor 1 := ⟨by decide +kernel, kw992, kw994, ks39, kw17⟩
theorem sw_out_X10_weightOf_18 {x : Int32} (h0 : ¬ x = 1) (h1 : ¬ x = 3) : Op.lookupswitch.offset [(1, 26), (3, 39)] (43) x.toInt = 43 := by
  have e0 : ¬ ((1 : Int) = x.toInt) := fun z => sw_ne h0 z.symm
  have e1 : ¬ ((3 : Int) = x.toInt) := fun z => sw_ne h1 z.symm
  simp [Op.lookupswitch.offset, List.find?, e0, Ne.symm (sw_ne h0), e1, Ne.symm (sw_ne h1)]
theorem cv_X10_175 : CVw RX10 175 RX10 yX10_sideOf 1 := ⟨by decide +kernel, kw984, kw986, ks37, kw17⟩
theorem cv_X10_178 : CVw RX10 178 RX10 yX10_sizeOf 1 := ⟨by decide +kernel, kw988, kw990, ks38, kw17⟩
theorem cs_X10_181 : CSw RX10 181 yX10_apart 2 := ⟨by decide +kernel, kw1024, kw1025, kw17⟩
theorem cv_X10_185 : CVw RX10 185 RX10 yX10_weightOf 1 := ⟨by decide +kernel, kw996, kw998, ks40, kw17⟩
theorem cv_X10_188 : CVw RX10 188 RX10 yX10_isClog 1 := ⟨by decide +kernel, kw972, kw974, ks34, kw17⟩
theorem cv_X10_191 : CVw RX10 191 RX10 yX10_asItIs 0 := ⟨by decide +kernel, kw976, kw978, ks35, kw17⟩
theorem sw_out_X10_clog_15 {x : Int32} (h0 : ¬ x = 0) (h1 : ¬ x = 1) (h2 : ¬ x = 2) (h3 : ¬ x = 3) (h4 : ¬ x = 4) : x.toInt < 0 ∨ 4 < x.toInt := by
  have e0 : x.toInt ≠ 0 := sw_ne h0
  have e1 : x.toInt ≠ 1 := sw_ne h1
  have e2 : x.toInt ≠ 2 := sw_ne h2
  have e3 : x.toInt ≠ 3 := sw_ne h3
  have e4 : x.toInt ≠ 4 := sw_ne h4
  omega
theorem fg_X10_20 : FG RX10 20 10 8 (.array .int) true := ⟨RX10, TX10, 32, tyX10, rfl, in10, by decide, tyX10_ok, nmX10, kw816, rfl, by decide +kernel⟩
theorem cv_X10_194 : CVw RX10 194 RX10 yX10_remembers 0 := ⟨by decide +kernel, kw1008, kw1010, ks41, kw17⟩
theorem cv_X10_197 : CVw RX10 197 RX10 yX10_areAlike 2 := ⟨by decide +kernel, kw1020, kw1022, ks42, kw17⟩
theorem cs_X10_201 : CSw RX10 201 yX10_leaves 2 := ⟨by decide +kernel, kw1027, kw1028, kw17⟩
theorem fg_X10_205 : FG RX10 205 10 25 .int false := ⟨RX10, TX10, 32, tyX10, rfl, in10, by decide, tyX10_ok, nmX10, kw833, rfl, by decide +kernel⟩
theorem fg_X10_208 : FG RX10 208 10 26 .int false := ⟨RX10, TX10, 32, tyX10, rfl, in10, by decide, tyX10_ok, nmX10, kw834, rfl, by decide +kernel⟩
theorem fg_X10_50 : FG RX10 50 10 28 (.array .int) true := ⟨RX10, TX10, 32, tyX10, rfl, in10, by decide, tyX10_ok, nmX10, kw836, rfl, by decide +kernel⟩
theorem fg_X10_47 : FG RX10 47 10 27 (.array .int) true := ⟨RX10, TX10, 32, tyX10, rfl, in10, by decide, tyX10_ok, nmX10, kw835, rfl, by decide +kernel⟩
theorem fg_X10_53 : FG RX10 53 10 29 (.array .int) true := ⟨RX10, TX10, 32, tyX10, rfl, in10, by decide, tyX10_ok, nmX10, kw837, rfl, by decide +kernel⟩
theorem cs_X10_211 : CSw RX10 211 yX10_has 2 := ⟨by decide +kernel, kw1058, kw1059, kw17⟩
theorem cv_X10_214 : CVw RX10 214 RX10 yX10_findSides 0 := ⟨by decide +kernel, kw1050, kw1052, ks44, kw17⟩
theorem cv_X10_217 : CVw RX10 217 RX10 yX10_mayPair 3 := ⟨by decide +kernel, kw1054, kw1056, ks45, kw17⟩
theorem cv_X10_220 : CVw RX10 220 RX10 yX10_bestWith 3 := ⟨by decide +kernel, kw1061, kw1063, ks46, kw17⟩
theorem fg_X10_56 : FG RX10 56 10 30 (.array .int) true := ⟨RX10, TX10, 32, tyX10, rfl, in10, by decide, tyX10_ok, nmX10, kw838, rfl, by decide +kernel⟩
theorem cv_X10_224 : CVw RX10 224 RX10 yX10_findPairs 0 := ⟨by decide +kernel, kw1046, kw1048, ks43, kw17⟩
theorem cv_X10_230 : CVw RX10 230 RX10 yX10_fits 3 := ⟨by decide +kernel, kw1077, kw1079, ks48, kw17⟩
theorem fg_X10_59 : FG RX10 59 10 31 (.array .int) true := ⟨RX10, TX10, 32, tyX10, rfl, in10, by decide, tyX10_ok, nmX10, kw839, rfl, by decide +kernel⟩
theorem cv_X10_227 : CVw RX10 227 RX10 yX10_serveMore 2 := ⟨by decide +kernel, kw1073, kw1075, ks47, kw17⟩
theorem cv_X10_233 : CVw RX10 233 RX10 yX10_isClear 1 := ⟨by decide +kernel, kw1097, kw1099, ks49, kw17⟩
theorem fg_X10_26 : FG RX10 26 10 12 (.array .int) true := ⟨RX10, TX10, 32, tyX10, rfl, in10, by decide, tyX10_ok, nmX10, kw820, rfl, by decide +kernel⟩
theorem cv_X10_249 : CVw RX10 249 RX10 yX10_firstGo 0 := ⟨by decide +kernel, kw1136, kw1138, ks50, kw17⟩
theorem fg_X10_23 : FG RX10 23 10 10 (.array .int) true := ⟨RX10, TX10, 32, tyX10, rfl, in10, by decide, tyX10_ok, nmX10, kw818, rfl, by decide +kernel⟩
theorem cv_X10_252 : CVw RX10 252 RX10 yX10_knots 0 := ⟨by decide +kernel, kw1152, kw1154, ks51, kw17⟩
theorem cv_X10_255 : CVw RX10 255 RX10 yX10_holed 0 := ⟨by decide +kernel, kw1156, kw1158, ks52, kw17⟩
theorem sw_out_X10_count_1 {x : Int32} (h0 : ¬ x = 0) (h1 : ¬ x = 1) (h2 : ¬ x = 2) (h3 : ¬ x = 3) (h4 : ¬ x = 4) (h5 : ¬ x = 5) (h6 : ¬ x = 6) (h7 : ¬ x = 7) (h8 : ¬ x = 8) (h9 : ¬ x = 9) : x.toInt < 0 ∨ 9 < x.toInt := by
  have e0 : x.toInt ≠ 0 := sw_ne h0
  have e1 : x.toInt ≠ 1 := sw_ne h1
  have e2 : x.toInt ≠ 2 := sw_ne h2
  have e3 : x.toInt ≠ 3 := sw_ne h3
  have e4 : x.toInt ≠ 4 := sw_ne h4
  have e5 : x.toInt ≠ 5 := sw_ne h5
  have e6 : x.toInt ≠ 6 := sw_ne h6
  have e7 : x.toInt ≠ 7 := sw_ne h7
  have e8 : x.toInt ≠ 8 := sw_ne h8
  have e9 : x.toInt ≠ 9 := sw_ne h9
  omega
theorem fg_X9_10 : FG RX9 10 9 0 (.object "LeftAndRight$Text") true := ⟨RX9, TX9, 10, tyX9, rfl, in9, by decide, tyX9_ok, nmX9, kw399, rfl, by decide +kernel⟩
theorem fg_X9_103 : FG RX9 103 5 1 .int false := ⟨RX5, TX5, 2, tyX5, rfl, in5, by decide, tyX5_ok, nmX5, kw37, rfl, by decide +kernel⟩
theorem cv_X9_89 : CVw RX9 89 RX5 yX5_append 1 := ⟨by decide +kernel, kw282, kw283, kw284, kw2⟩
theorem cv_X9_96 : CVw RX9 96 RX5 yX5_clear 0 := ⟨by decide +kernel, kw395, kw396, kw397, kw2⟩
theorem fg_X9_19 : FG RX9 19 9 1 (.object "LeftAndRight$Reader") true := ⟨RX9, TX9, 10, tyX9, rfl, in9, by decide, tyX9_ok, nmX9, kw400, rfl, by decide +kernel⟩
theorem cv_X9_106 : CVw RX9 106 RX3 yX3_read 1 := ⟨by decide +kernel, kw290, kw291, kw292, kw3⟩
theorem fg_X9_26 : FG RX9 26 9 2 (.object "LeftAndRight$Shelf") true := ⟨RX9, TX9, 10, tyX9, rfl, in9, by decide, tyX9_ok, nmX9, kw401, rfl, by decide +kernel⟩
theorem cv_X9_113 : CVw RX9 113 RX4 yX4_holds 1 := ⟨by decide +kernel, kw451, kw452, kw453, kw4⟩
theorem cv_X9_127 : CVw RX9 127 RX4 yX4_cell 2 := ⟨by decide +kernel, kw474, kw461, kw462, kw4⟩
theorem fg_X9_117 : FG RX9 117 4 2 .int false := ⟨RX4, TX4, 3, tyX4, rfl, in4, by decide, tyX4_ok, nmX4, kw66, rfl, by decide +kernel⟩
theorem cv_X9_124 : CVw RX9 124 RX4 yX4_weightOn 2 := ⟨by decide +kernel, kw470, kw471, kw472, kw4⟩
theorem cv_X9_120 : CVw RX9 120 RX4 yX4_sizeOn 2 := ⟨by decide +kernel, kw456, kw457, kw458, kw4⟩
theorem fg_X9_33 : FG RX9 33 9 3 (.object "LeftAndRight$Waiting") true := ⟨RX9, TX9, 10, tyX9, rfl, in9, by decide, tyX9_ok, nmX9, kw402, rfl, by decide +kernel⟩
theorem fg_X9_130 : FG RX9 130 6 2 .int false := ⟨RX6, TX6, 4, tyX6, rfl, in6, by decide, tyX6_ok, nmX6, kw85, rfl, by decide +kernel⟩
theorem cv_X9_136 : CVw RX9 136 RX6 yX6_foot 2 := ⟨by decide +kernel, kw479, kw480, kw481, kw5⟩
theorem cv_X9_168 : CVw RX9 168 RX4 yX4_matesOf 1 := ⟨by decide +kernel, kw554, kw555, kw556, kw4⟩
theorem fg_X9_110 : FG RX9 110 4 1 .int false := ⟨RX4, TX4, 3, tyX4, rfl, in4, by decide, tyX4_ok, nmX4, kw61, rfl, by decide +kernel⟩
theorem fg_X9_66 : FG RX9 66 9 8 (.object "LeftAndRight$Pairing") true := ⟨RX9, TX9, 10, tyX9, rfl, in9, by decide, tyX9_ok, nmX9, kw407, rfl, by decide +kernel⟩
theorem cv_X9_172 : CVw RX9 172 RX1 yX1_look 1 := ⟨by decide +kernel, kw563, kw564, kw565, kw10⟩
theorem cv_X9_175 : CVw RX9 175 RX1 yX1_match 0 := ⟨by decide +kernel, kw576, kw577, kw578, kw10⟩
theorem cv_X9_182 : CVw RX9 182 RX1 yX1_partnerOf 1 := ⟨by decide +kernel, kw608, kw609, kw610, kw10⟩
theorem fg_X9_179 : FG RX9 179 1 7 .int false := ⟨RX1, TX1, 8, tyX1, rfl, in1, by decide, tyX1_ok, nmX1, kw198, rfl, by decide +kernel⟩
theorem fg_X9_178 : FG RX9 178 1 6 .int false := ⟨RX1, TX1, 8, tyX1, rfl, in1, by decide, tyX1_ok, nmX1, kw196, rfl, by decide +kernel⟩
theorem cv_X9_185 : CVw RX9 185 RX4 yX4_ofSide 1 := ⟨by decide +kernel, kw616, kw570, kw571, kw4⟩
theorem cs_X9_188 : CSw RX9 188 yJ6_bitCount_0f7a4 1 := ⟨by decide +kernel, kw617, kw618, kw19⟩
theorem cv_X9_193 : CVw RX9 193 RX1 yX1_serve 1 := ⟨by decide +kernel, kw627, kw628, kw629, kw10⟩
theorem cv_X9_197 : CVw RX9 197 RX6 yX6_suits 3 := ⟨by decide +kernel, kw650, kw632, kw633, kw5⟩
theorem cv_X9_200 : CVw RX9 200 RX4 yX4_isOfSide 2 := ⟨by decide +kernel, kw655, kw516, kw517, kw4⟩
theorem cv_X9_151 : CVw RX9 151 RX4 yX4_areAlikeOn 3 := ⟨by decide +kernel, kw511, kw512, kw513, kw4⟩
theorem fg_X9_40 : FG RX9 40 9 4 (.object "LeftAndRight$Log") true := ⟨RX9, TX9, 10, tyX9, rfl, in9, by decide, tyX9_ok, nmX9, kw403, rfl, by decide +kernel⟩
theorem cv_X9_204 : CVw RX9 204 RX0 yX0_saw 1 := ⟨by decide +kernel, kw664, kw665, kw666, kw6⟩
theorem cv_X9_207 : CVw RX9 207 RX4 yX4_unholedFrom 2 := ⟨by decide +kernel, kw676, kw677, kw678, kw4⟩
theorem fg_X9_47 : FG RX9 47 9 5 (.object "LeftAndRight$Walls") true := ⟨RX9, TX9, 10, tyX9, rfl, in9, by decide, tyX9_ok, nmX9, kw404, rfl, by decide +kernel⟩
theorem fg_X9_210 : FG RX9 210 7 3 .int false := ⟨RX7, TX7, 4, tyX7, rfl, in7, by decide, tyX7_ok, nmX7, kw153, rfl, by decide +kernel⟩
theorem cv_X9_213 : CVw RX9 213 RX7 yX7_add 3 := ⟨by decide +kernel, kw684, kw685, kw686, kw7⟩
theorem cv_X9_216 : CVw RX9 216 RX7 yX7_thicknesses 1 := ⟨by decide +kernel, kw697, kw698, kw699, kw7⟩
theorem cs_X9_219 : CSw RX9 219 yX9_commonDivisorWithTen 1 := ⟨by decide +kernel, kw710, kw711, kw1⟩
theorem mh_X9_222 : MH RX9 222 Lib.Math.max.name Lib.Math.max.code 2 := ⟨kw713, kw170, kw9, kw171⟩
theorem cs_X9_227 : CSw RX9 227 yX9_power 2 := ⟨by decide +kernel, kw714, kw715, kw1⟩
theorem cs_X9_232 : CSw RX9 232 yX9_cutsInTheMean 3 := ⟨by decide +kernel, kw722, kw723, kw1⟩
theorem ml_X9_236 : ML RX9 236 := ⟨kw726, kw727, kw9, kw728⟩
theorem fg_X9_73 : FG RX9 73 9 9 (.object "LeftAndRight$Year") true := ⟨RX9, TX9, 10, tyX9, rfl, in9, by decide, tyX9_ok, nmX9, kw408, rfl, by decide +kernel⟩
theorem cv_X9_241 : CVw RX9 241 RX8 yX8_live 3 := ⟨by decide +kernel, kw734, kw735, kw736, kw11⟩
theorem fg_X9_248 : FG RX9 248 8 0 (.object "LeftAndRight$Shelf") true := ⟨RX8, TX8, 2, tyX8, rfl, in8, by decide, tyX8_ok, nmX8, kw225, rfl, by decide +kernel⟩
theorem fg_X9_245 : FG RX9 245 8 1 .int false := ⟨RX8, TX8, 2, tyX8, rfl, in8, by decide, tyX8_ok, nmX8, kw227, rfl, by decide +kernel⟩
theorem cv_X9_253 : CVw RX9 253 RX0 yX0_knotsInside 0 := ⟨by decide +kernel, kw766, kw767, kw768, kw6⟩
theorem cv_X9_256 : CVw RX9 256 RX4 yX4_holedOnes 0 := ⟨by decide +kernel, kw776, kw777, kw778, kw4⟩
theorem fg_X9_56 : FG RX9 56 9 6 (.object "LeftAndRight$Pile") true := ⟨RX9, TX9, 10, tyX9, rfl, in9, by decide, tyX9_ok, nmX9, kw405, rfl, by decide +kernel⟩
theorem fg_X9_165 : FG RX9 165 2 1 .int false := ⟨RX2, TX2, 2, tyX2, rfl, in2, by decide, tyX2_ok, nmX2, kw177, rfl, by decide +kernel⟩
theorem fg_X9_60 : FG RX9 60 9 7 (.object "LeftAndRight$Pile") true := ⟨RX9, TX9, 10, tyX9, rfl, in9, by decide, tyX9_ok, nmX9, kw406, rfl, by decide +kernel⟩
theorem fg_X9_259 : FG RX9 259 6 3 .int false := ⟨RX6, TX6, 4, tyX6, rfl, in6, by decide, tyX6_ok, nmX6, kw89, rfl, by decide +kernel⟩
theorem sw_out_X9_count_1 {x : Int32} (h0 : ¬ x = 0) (h1 : ¬ x = 1) (h2 : ¬ x = 2) (h3 : ¬ x = 3) (h4 : ¬ x = 4) (h5 : ¬ x = 5) (h6 : ¬ x = 6) (h7 : ¬ x = 7) (h8 : ¬ x = 8) (h9 : ¬ x = 9) : x.toInt < 0 ∨ 9 < x.toInt := by
  have e0 : x.toInt ≠ 0 := sw_ne h0
  have e1 : x.toInt ≠ 1 := sw_ne h1
  have e2 : x.toInt ≠ 2 := sw_ne h2
  have e3 : x.toInt ≠ 3 := sw_ne h3
  have e4 : x.toInt ≠ 4 := sw_ne h4
  have e5 : x.toInt ≠ 5 := sw_ne h5
  have e6 : x.toInt ≠ 6 := sw_ne h6
  have e7 : x.toInt ≠ 7 := sw_ne h7
  have e8 : x.toInt ≠ 8 := sw_ne h8
  have e9 : x.toInt ≠ 9 := sw_ne h9
  omega
theorem cv_X9_139 : CVw RX9 139 RX2 yX2_push 1 := ⟨by decide +kernel, kw488, kw489, kw490, kw8⟩
theorem cs_X9_143 : CSw RX9 143 yX9_isClog 4 := ⟨by decide +kernel, kw505, kw334, kw1⟩
theorem cv_X9_147 : CVw RX9 147 RX4 yX4_add 4 := ⟨by decide +kernel, kw506, kw343, kw344, kw4⟩
theorem cv_X9_154 : CVw RX9 154 RX4 yX4_removeTwo 2 := ⟨by decide +kernel, kw525, kw526, kw527, kw4⟩
theorem cv_X9_158 : CVw RX9 158 RX4 yX4_pierce 1 := ⟨by decide +kernel, kw538, kw539, kw540, kw4⟩
theorem cv_X9_161 : CVw RX9 161 RX2 yX2_popInto 1 := ⟨by decide +kernel, kw546, kw547, kw548, kw8⟩
theorem cv_X9_249 : CVw RX9 249 RX2 yX2_isFull 0 := ⟨by decide +kernel, kw757, kw493, kw494, kw8⟩
theorem cv_X9_252 : CVw RX9 252 RX2 yX2_clear 0 := ⟨by decide +kernel, kw391, kw392, kw393, kw8⟩
theorem fg_X9_262 : FG RX9 262 3 0 (.object "LeftAndRight$Shelf") true := ⟨RX3, TX3, 5, tyX3, rfl, in3, by decide, tyX3_ok, nmX3, kw119, rfl, by decide +kernel⟩
theorem cv_X9_263 : CVw RX9 263 RX4 yX4_copy 1 := ⟨by decide +kernel, kw369, kw370, kw371, kw4⟩
theorem fg_X9_266 : FG RX9 266 3 1 (.object "LeftAndRight$Waiting") true := ⟨RX3, TX3, 5, tyX3, rfl, in3, by decide, tyX3_ok, nmX3, kw121, rfl, by decide +kernel⟩
theorem cv_X9_267 : CVw RX9 267 RX6 yX6_copy 1 := ⟨by decide +kernel, kw382, kw383, kw384, kw5⟩
theorem fg_X9_270 : FG RX9 270 3 2 (.object "LeftAndRight$Log") true := ⟨RX3, TX3, 5, tyX3, rfl, in3, by decide, tyX3_ok, nmX3, kw123, rfl, by decide +kernel⟩
theorem cv_X9_271 : CVw RX9 271 RX0 yX0_copy 1 := ⟨by decide +kernel, kw387, kw388, kw389, kw6⟩
theorem cv_X9_92 : CVw RX9 92 RX9 yX9_layText 0 := ⟨by decide +kernel, kw286, kw288, ks0, kw1⟩
theorem nw_X8_9 : NWp RX8 9 4 3 [.null, .int 0, .int 0] := ⟨RX4, TX4, tyX4, rfl, in4, tyX4_ok, kw222, kw52, kw4, by decide +kernel⟩
theorem ci_X8_11 : CIw RX8 11 yX4_init "LeftAndRight" 0 := ⟨by decide +kernel, kn12, kw54, kw4, rfl⟩
theorem mh_X2_7 : MH RX2 7 Lib.Math.max.name Lib.Math.max.code 2 := ⟨kw169, kw170, kw9, kw171⟩
theorem nw_X2_13 : NWp RX2 13 4 3 [.null, .int 0, .int 0] := ⟨RX4, TX4, tyX4, rfl, in4, tyX4_ok, kw172, kw52, kw4, by decide +kernel⟩
theorem ci_X2_21 : CIw RX2 21 yX4_init "LeftAndRight" 0 := ⟨by decide +kernel, kn9, kw54, kw4, rfl⟩
theorem nw_X3_9 : NWp RX3 9 4 3 [.null, .int 0, .int 0] := ⟨RX4, TX4, tyX4, rfl, in4, tyX4_ok, kw51, kw52, kw4, by decide +kernel⟩
theorem ci_X3_11 : CIw RX3 11 yX4_init "LeftAndRight" 0 := ⟨by decide +kernel, kn2, kw54, kw4, rfl⟩
theorem nw_X3_18 : NWp RX3 18 6 4 [.null, .null, .int 0, .int 0] := ⟨RX6, TX6, tyX6, rfl, in6, tyX6_ok, kw75, kw76, kw5, by decide +kernel⟩
theorem ci_X3_20 : CIw RX3 20 yX6_init "LeftAndRight" 0 := ⟨by decide +kernel, kn3, kw78, kw5, rfl⟩
theorem nw_X3_25 : NWp RX3 25 0 3 [.int 0, .int 0, .long 0] := ⟨RX0, TX0, tyX0, rfl, in0, tyX0_ok, kw99, kw100, kw6, by decide +kernel⟩
theorem ci_X3_27 : CIw RX3 27 yX0_init "LeftAndRight" 0 := ⟨by decide +kernel, kn4, kw102, kw6, rfl⟩
theorem cs_J0_1059 : CSw RJ0 1059 yJ3_checkIndex_8e157 3 := ⟨by decide +kernel, kw260, kw261, kw14⟩
theorem cs_J1_9 : CSw RJ1 9 yJ0_checkIndex_df160 2 := ⟨by decide +kernel, kw255, kw256, kw12⟩
theorem cv_J0_335 : CVw RJ0 335 RJ0 yJ0_coder_7d493 0 := ⟨by decide +kernel, kw238, kw239, kw240, kw12⟩
theorem cv_J0_492 : CVw RJ0 492 RJ0 yJ0_isLatin1_aae02 0 := ⟨by decide +kernel, kw248, kw249, kw250, kw12⟩
theorem cs_J0_495 : CSw RJ0 495 yJ1_charAt_3b067 2 := ⟨by decide +kernel, kw252, kw253, kw13⟩
