theorem in4 : ∀ w ∈ u_ws RX4 TX4 3, w ∈ Tg := by decide +kernel
theorem kw58 : Cond.fieldLink RX4 15 "LeftAndRight$Shelf" "clogs" "I" ∈ Tg := mem_Tg (List.mem_append_right _ (List.mem_of_getElem? (i := 58) (by decide +kernel))) (by decide +kernel)
theorem kw63 : Cond.fieldLink RX4 19 "LeftAndRight$Shelf" "day" "I" ∈ Tg := mem_Tg (List.mem_append_right _ (List.mem_of_getElem? (i := 63) (by decide +kernel))) (by decide +kernel)
theorem kw57 : Cond.fieldLink RX4 9 "LeftAndRight$Shelf" "cells" "[I" ∈ Tg := mem_Tg (List.mem_append_right _ (List.mem_of_getElem? (i := 57) (by decide +kernel))) (by decide +kernel)
theorem kn19 : (RX4, 22, yX9_copyRow, "LeftAndRight") ∈ NSt := List.mem_of_getElem? (i := 19) rfl
theorem kn21 : (RX4, 26, yX9_within, "LeftAndRight") ∈ NSt := List.mem_of_getElem? (i := 21) rfl
theorem kw519 : Cond.methodLink RX4 30 yX4_holds ∈ Tg := mem_Tg (List.mem_append_right _ (List.mem_of_getElem? (i := 519) (by decide +kernel))) (by decide +kernel)
theorem kw452 : Cond.instanceMethod yX4_holds ∈ Tg := mem_Tg (List.mem_append_right _ (List.mem_of_getElem? (i := 452) (by decide +kernel))) (by decide +kernel)
theorem kw453 : Cond.selects RX4 yX4_holds yX4_holds ∈ Tg := mem_Tg (List.mem_append_right _ (List.mem_of_getElem? (i := 453) (by decide +kernel))) (by decide +kernel)
theorem kw4 : Cond.initialized RX4 ∈ Tg := mem_Tg (List.mem_append_right _ (List.mem_of_getElem? (i := 4) (by decide +kernel))) (by decide +kernel)
theorem kn16 : (RX4, 34, yX9_put, "LeftAndRight") ∈ NSt := List.mem_of_getElem? (i := 16) rfl
theorem kw460 : Cond.methodLink RX4 38 yX4_cell ∈ Tg := mem_Tg (List.mem_append_right _ (List.mem_of_getElem? (i := 460) (by decide +kernel))) (by decide +kernel)
theorem kw461 : Cond.instanceMethod yX4_cell ∈ Tg := mem_Tg (List.mem_append_right _ (List.mem_of_getElem? (i := 461) (by decide +kernel))) (by decide +kernel)
theorem kw462 : Cond.selects RX4 yX4_cell yX4_cell ∈ Tg := mem_Tg (List.mem_append_right _ (List.mem_of_getElem? (i := 462) (by decide +kernel))) (by decide +kernel)
theorem kw515 : Cond.methodLink RX4 42 yX4_isOfSide ∈ Tg := mem_Tg (List.mem_append_right _ (List.mem_of_getElem? (i := 515) (by decide +kernel))) (by decide +kernel)
theorem kw516 : Cond.instanceMethod yX4_isOfSide ∈ Tg := mem_Tg (List.mem_append_right _ (List.mem_of_getElem? (i := 516) (by decide +kernel))) (by decide +kernel)
theorem kw517 : Cond.selects RX4 yX4_isOfSide yX4_isOfSide ∈ Tg := mem_Tg (List.mem_append_right _ (List.mem_of_getElem? (i := 517) (by decide +kernel))) (by decide +kernel)
theorem kn23 : (RX4, 58, yX9_at, "LeftAndRight") ∈ NSt := List.mem_of_getElem? (i := 23) rfl
theorem kw468 : Cond.methodLink RX4 46 Lib.Math.max.name ∈ Tg := mem_Tg (List.mem_append_right _ (List.mem_of_getElem? (i := 468) (by decide +kernel))) (by decide +kernel)
theorem kw170 : Cond.static Lib.Math.max.name ∈ Tg := mem_Tg (List.mem_append_right _ (List.mem_of_getElem? (i := 170) (by decide +kernel))) (by decide +kernel)
theorem kw171 : Cond.code Lib.Math.max.name Lib.Math.max.code 2 (some .int) ∈ Tg := mem_Tg (List.mem_append_right _ (List.mem_of_getElem? (i := 171) (by decide +kernel))) (by decide +kernel)
theorem kw529 : Cond.methodLink RX4 51 yX4_removeOne ∈ Tg := mem_Tg (List.mem_append_right _ (List.mem_of_getElem? (i := 529) (by decide +kernel))) (by decide +kernel)
theorem kw531 : Cond.instanceMethod yX4_removeOne ∈ Tg := mem_Tg (List.mem_append_right _ (List.mem_of_getElem? (i := 531) (by decide +kernel))) (by decide +kernel)
theorem ks10 : Cond.selects RX4 yX4_removeOne yX4_removeOne ∈ Tg := mem_Tg (List.mem_append_left _ (List.mem_of_getElem? (i := 10) (by decide +kernel))) (by decide +kernel)
theorem kw469 : Cond.methodLink RX4 55 Lib.Math.min.name ∈ Tg := mem_Tg (List.mem_append_right _ (List.mem_of_getElem? (i := 469) (by decide +kernel))) (by decide +kernel)
theorem kw464 : Cond.methodLink RX4 62 yX4_driedBy ∈ Tg := mem_Tg (List.mem_append_right _ (List.mem_of_getElem? (i := 464) (by decide +kernel))) (by decide +kernel)
theorem kw466 : Cond.instanceMethod yX4_driedBy ∈ Tg := mem_Tg (List.mem_append_right _ (List.mem_of_getElem? (i := 466) (by decide +kernel))) (by decide +kernel)
theorem ks8 : Cond.selects RX4 yX4_driedBy yX4_driedBy ∈ Tg := mem_Tg (List.mem_append_left _ (List.mem_of_getElem? (i := 8) (by decide +kernel))) (by decide +kernel)
theorem kw520 : Cond.methodLink RX4 65 yX4_sizeOn ∈ Tg := mem_Tg (List.mem_append_right _ (List.mem_of_getElem? (i := 520) (by decide +kernel))) (by decide +kernel)
theorem kw457 : Cond.instanceMethod yX4_sizeOn ∈ Tg := mem_Tg (List.mem_append_right _ (List.mem_of_getElem? (i := 457) (by decide +kernel))) (by decide +kernel)
theorem kw458 : Cond.selects RX4 yX4_sizeOn yX4_sizeOn ∈ Tg := mem_Tg (List.mem_append_right _ (List.mem_of_getElem? (i := 458) (by decide +kernel))) (by decide +kernel)
theorem kw521 : Cond.methodLink RX4 68 Lib.Math.abs.name ∈ Tg := mem_Tg (List.mem_append_right _ (List.mem_of_getElem? (i := 521) (by decide +kernel))) (by decide +kernel)
theorem kw522 : Cond.static Lib.Math.abs.name ∈ Tg := mem_Tg (List.mem_append_right _ (List.mem_of_getElem? (i := 522) (by decide +kernel))) (by decide +kernel)
theorem kw523 : Cond.code Lib.Math.abs.name Lib.Math.abs.code 1 (some .int) ∈ Tg := mem_Tg (List.mem_append_right _ (List.mem_of_getElem? (i := 523) (by decide +kernel))) (by decide +kernel)
theorem kw524 : Cond.methodLink RX4 72 yX4_weightOn ∈ Tg := mem_Tg (List.mem_append_right _ (List.mem_of_getElem? (i := 524) (by decide +kernel))) (by decide +kernel)
theorem kw471 : Cond.instanceMethod yX4_weightOn ∈ Tg := mem_Tg (List.mem_append_right _ (List.mem_of_getElem? (i := 471) (by decide +kernel))) (by decide +kernel)
theorem kw472 : Cond.selects RX4 yX4_weightOn yX4_weightOn ∈ Tg := mem_Tg (List.mem_append_right _ (List.mem_of_getElem? (i := 472) (by decide +kernel))) (by decide +kernel)
theorem kw558 : Cond.methodLink RX4 75 yX4_areAlikeOn ∈ Tg := mem_Tg (List.mem_append_right _ (List.mem_of_getElem? (i := 558) (by decide +kernel))) (by decide +kernel)
theorem kw512 : Cond.instanceMethod yX4_areAlikeOn ∈ Tg := mem_Tg (List.mem_append_right _ (List.mem_of_getElem? (i := 512) (by decide +kernel))) (by decide +kernel)
theorem kw513 : Cond.selects RX4 yX4_areAlikeOn yX4_areAlikeOn ∈ Tg := mem_Tg (List.mem_append_right _ (List.mem_of_getElem? (i := 513) (by decide +kernel))) (by decide +kernel)
theorem dX4_clear_0 : decode cX4_clear 0 = .ok (.aload_n 0, 1) := by decide +kernel
theorem dX4_clear_1 : decode cX4_clear 1 = .ok (.iconst 0, 1) := by decide +kernel
theorem dX4_clear_2 : decode cX4_clear 2 = .ok (.putfield 15, 3) := by decide +kernel
theorem dX4_clear_5 : decode cX4_clear 5 = .ok (.aload_n 0, 1) := by decide +kernel
theorem dX4_clear_6 : decode cX4_clear 6 = .ok (.iconst 0, 1) := by decide +kernel
theorem dX4_clear_7 : decode cX4_clear 7 = .ok (.putfield 19, 3) := by decide +kernel
theorem dX4_clear_10 : decode cX4_clear 10 = .ok (.return_, 1) := by decide +kernel
theorem dX4_copy_0 : decode cX4_copy 0 = .ok (.aload_n 1, 1) := by decide +kernel
theorem dX4_copy_1 : decode cX4_copy 1 = .ok (.ifnull 30, 3) := by decide +kernel
theorem dX4_copy_4 : decode cX4_copy 4 = .ok (.aload_n 1, 1) := by decide +kernel
theorem dX4_copy_5 : decode cX4_copy 5 = .ok (.getfield 9, 3) := by decide +kernel
theorem dX4_copy_8 : decode cX4_copy 8 = .ok (.aload_n 0, 1) := by decide +kernel
theorem dX4_copy_9 : decode cX4_copy 9 = .ok (.getfield 9, 3) := by decide +kernel
theorem dX4_copy_12 : decode cX4_copy 12 = .ok (.invokestatic 22, 3) := by decide +kernel
theorem dX4_copy_15 : decode cX4_copy 15 = .ok (.aload_n 0, 1) := by decide +kernel
theorem dX4_copy_16 : decode cX4_copy 16 = .ok (.aload_n 1, 1) := by decide +kernel
theorem dX4_copy_17 : decode cX4_copy 17 = .ok (.getfield 15, 3) := by decide +kernel
theorem dX4_copy_20 : decode cX4_copy 20 = .ok (.putfield 15, 3) := by decide +kernel
theorem dX4_copy_23 : decode cX4_copy 23 = .ok (.aload_n 0, 1) := by decide +kernel
theorem dX4_copy_24 : decode cX4_copy 24 = .ok (.aload_n 1, 1) := by decide +kernel
theorem dX4_copy_25 : decode cX4_copy 25 = .ok (.getfield 19, 3) := by decide +kernel
theorem dX4_copy_28 : decode cX4_copy 28 = .ok (.putfield 19, 3) := by decide +kernel
theorem dX4_copy_31 : decode cX4_copy 31 = .ok (.return_, 1) := by decide +kernel
theorem dX4_holds_0 : decode cX4_holds 0 = .ok (.iload_n 1, 1) := by decide +kernel
theorem dX4_holds_1 : decode cX4_holds 1 = .ok (.iconst 0, 1) := by decide +kernel
theorem dX4_holds_2 : decode cX4_holds 2 = .ok (.aload_n 0, 1) := by decide +kernel
theorem dX4_holds_3 : decode cX4_holds 3 = .ok (.getfield 15, 3) := by decide +kernel
theorem dX4_holds_6 : decode cX4_holds 6 = .ok (.iconst 1, 1) := by decide +kernel
theorem dX4_holds_7 : decode cX4_holds 7 = .ok (.isub, 1) := by decide +kernel
theorem dX4_holds_8 : decode cX4_holds 8 = .ok (.invokestatic 26, 3) := by decide +kernel
theorem dX4_holds_11 : decode cX4_holds 11 = .ok (.ireturn, 1) := by decide +kernel
theorem dX4_cell_0 : decode cX4_cell 0 = .ok (.iload_n 1, 1) := by decide +kernel
theorem dX4_cell_1 : decode cX4_cell 1 = .ok (.ifCond .lt 20, 3) := by decide +kernel
theorem dX4_cell_21 : decode cX4_cell 21 = .ok (.iconst 0, 1) := by decide +kernel
theorem dX4_cell_22 : decode cX4_cell 22 = .ok (.ireturn, 1) := by decide +kernel
theorem dX4_cell_4 : decode cX4_cell 4 = .ok (.iload_n 1, 1) := by decide +kernel
theorem dX4_cell_5 : decode cX4_cell 5 = .ok (.aload_n 0, 1) := by decide +kernel
theorem dX4_cell_6 : decode cX4_cell 6 = .ok (.getfield 15, 3) := by decide +kernel
theorem dX4_cell_9 : decode cX4_cell 9 = .ok (.if_icmp .ge 12, 3) := by decide +kernel
theorem dX4_cell_12 : decode cX4_cell 12 = .ok (.iload_n 2, 1) := by decide +kernel
theorem dX4_cell_13 : decode cX4_cell 13 = .ok (.ifCond .lt 8, 3) := by decide +kernel
theorem dX4_cell_16 : decode cX4_cell 16 = .ok (.iload_n 2, 1) := by decide +kernel
theorem dX4_cell_17 : decode cX4_cell 17 = .ok (.iconst 5, 1) := by decide +kernel
theorem dX4_cell_18 : decode cX4_cell 18 = .ok (.if_icmp .lt 5, 3) := by decide +kernel
theorem dX4_cell_23 : decode cX4_cell 23 = .ok (.iload_n 1, 1) := by decide +kernel
theorem dX4_cell_24 : decode cX4_cell 24 = .ok (.iconst 5, 1) := by decide +kernel
theorem dX4_cell_25 : decode cX4_cell 25 = .ok (.imul, 1) := by decide +kernel
theorem dX4_cell_26 : decode cX4_cell 26 = .ok (.iload_n 2, 1) := by decide +kernel
theorem dX4_cell_27 : decode cX4_cell 27 = .ok (.iadd, 1) := by decide +kernel
theorem dX4_cell_28 : decode cX4_cell 28 = .ok (.istore_n 3, 1) := by decide +kernel
theorem dX4_cell_29 : decode cX4_cell 29 = .ok (.iload_n 3, 1) := by decide +kernel
theorem dX4_cell_30 : decode cX4_cell 30 = .ok (.aload_n 0, 1) := by decide +kernel
theorem dX4_cell_31 : decode cX4_cell 31 = .ok (.getfield 9, 3) := by decide +kernel
theorem dX4_cell_34 : decode cX4_cell 34 = .ok (.arraylength, 1) := by decide +kernel
theorem dX4_cell_35 : decode cX4_cell 35 = .ok (.if_icmp .ge 12, 3) := by decide +kernel
theorem dX4_cell_47 : decode cX4_cell 47 = .ok (.iconst 0, 1) := by decide +kernel
theorem dX4_cell_48 : decode cX4_cell 48 = .ok (.ireturn, 1) := by decide +kernel
theorem dX4_cell_38 : decode cX4_cell 38 = .ok (.aload_n 0, 1) := by decide +kernel
theorem dX4_cell_39 : decode cX4_cell 39 = .ok (.getfield 9, 3) := by decide +kernel
theorem dX4_cell_42 : decode cX4_cell 42 = .ok (.iload_n 3, 1) := by decide +kernel
theorem dX4_cell_43 : decode cX4_cell 43 = .ok (.iaload, 1) := by decide +kernel
theorem dX4_cell_44 : decode cX4_cell 44 = .ok (.goto 4, 3) := by decide +kernel
theorem dX4_pierce_0 : decode cX4_pierce 0 = .ok (.aload_n 0, 1) := by decide +kernel
theorem dX4_pierce_1 : decode cX4_pierce 1 = .ok (.iload_n 1, 1) := by decide +kernel
theorem kw454 : Cond.code yX4_holds cX4_holds 2 (some .boolean) ∈ Tg := mem_Tg (List.mem_append_right _ (List.mem_of_getElem? (i := 454) (by decide +kernel))) (by decide +kernel)
theorem dX4_pierce_2 : decode cX4_pierce 2 = .ok (.invokevirtual 30, 3) := by decide +kernel
theorem dX4_pierce_5 : decode cX4_pierce 5 = .ok (.ifCond .eq 16, 3) := by decide +kernel
theorem dX4_pierce_21 : decode cX4_pierce 21 = .ok (.return_, 1) := by decide +kernel
theorem dX4_pierce_8 : decode cX4_pierce 8 = .ok (.aload_n 0, 1) := by decide +kernel
theorem dX4_pierce_9 : decode cX4_pierce 9 = .ok (.getfield 9, 3) := by decide +kernel
theorem dX4_pierce_12 : decode cX4_pierce 12 = .ok (.iload_n 1, 1) := by decide +kernel
theorem dX4_pierce_13 : decode cX4_pierce 13 = .ok (.iconst 5, 1) := by decide +kernel
theorem dX4_pierce_14 : decode cX4_pierce 14 = .ok (.imul, 1) := by decide +kernel
theorem dX4_pierce_15 : decode cX4_pierce 15 = .ok (.iconst 0, 1) := by decide +kernel
theorem dX4_pierce_16 : decode cX4_pierce 16 = .ok (.iadd, 1) := by decide +kernel
theorem dX4_pierce_17 : decode cX4_pierce 17 = .ok (.iconst 2, 1) := by decide +kernel
theorem dX4_pierce_18 : decode cX4_pierce 18 = .ok (.invokestatic 34, 3) := by decide +kernel
theorem dX4_isOfSide_0 : decode cX4_isOfSide 0 = .ok (.aload_n 0, 1) := by decide +kernel
theorem dX4_isOfSide_1 : decode cX4_isOfSide 1 = .ok (.iload_n 1, 1) := by decide +kernel
theorem dX4_isOfSide_2 : decode cX4_isOfSide 2 = .ok (.invokevirtual 30, 3) := by decide +kernel
theorem dX4_isOfSide_5 : decode cX4_isOfSide 5 = .ok (.ifCond .eq 17, 3) := by decide +kernel
theorem dX4_isOfSide_22 : decode cX4_isOfSide 22 = .ok (.iconst 0, 1) := by decide +kernel
theorem dX4_isOfSide_23 : decode cX4_isOfSide 23 = .ok (.ireturn, 1) := by decide +kernel
theorem dX4_isOfSide_8 : decode cX4_isOfSide 8 = .ok (.aload_n 0, 1) := by decide +kernel
theorem dX4_isOfSide_9 : decode cX4_isOfSide 9 = .ok (.iload_n 1, 1) := by decide +kernel
theorem dX4_isOfSide_10 : decode cX4_isOfSide 10 = .ok (.iconst 1, 1) := by decide +kernel
theorem kw463 : Cond.code yX4_cell cX4_cell 4 (some .int) ∈ Tg := mem_Tg (List.mem_append_right _ (List.mem_of_getElem? (i := 463) (by decide +kernel))) (by decide +kernel)
theorem dX4_isOfSide_11 : decode cX4_isOfSide 11 = .ok (.invokevirtual 38, 3) := by decide +kernel
theorem dX4_isOfSide_14 : decode cX4_isOfSide 14 = .ok (.iload_n 2, 1) := by decide +kernel
theorem dX4_isOfSide_15 : decode cX4_isOfSide 15 = .ok (.if_icmp .ne 7, 3) := by decide +kernel
theorem dX4_isOfSide_18 : decode cX4_isOfSide 18 = .ok (.iconst 1, 1) := by decide +kernel
theorem dX4_isOfSide_19 : decode cX4_isOfSide 19 = .ok (.goto 4, 3) := by decide +kernel
theorem dX4_ofSide_0 : decode cX4_ofSide 0 = .ok (.iconst 0, 1) := by decide +kernel
theorem dX4_ofSide_1 : decode cX4_ofSide 1 = .ok (.istore_n 2, 1) := by decide +kernel
theorem dX4_ofSide_2 : decode cX4_ofSide 2 = .ok (.iconst 0, 1) := by decide +kernel
theorem dX4_ofSide_3 : decode cX4_ofSide 3 = .ok (.istore_n 3, 1) := by decide +kernel
theorem dX4_ofSide_4 : decode cX4_ofSide 4 = .ok (.iload_n 3, 1) := by decide +kernel
theorem dX4_ofSide_5 : decode cX4_ofSide 5 = .ok (.aload_n 0, 1) := by decide +kernel
theorem dX4_ofSide_6 : decode cX4_ofSide 6 = .ok (.getfield 15, 3) := by decide +kernel
theorem dX4_ofSide_9 : decode cX4_ofSide 9 = .ok (.if_icmp .ge 24, 3) := by decide +kernel
theorem dX4_ofSide_12 : decode cX4_ofSide 12 = .ok (.aload_n 0, 1) := by decide +kernel
theorem dX4_ofSide_13 : decode cX4_ofSide 13 = .ok (.iload_n 3, 1) := by decide +kernel
theorem dX4_ofSide_14 : decode cX4_ofSide 14 = .ok (.iload_n 1, 1) := by decide +kernel
theorem kw518 : Cond.code yX4_isOfSide cX4_isOfSide 3 (some .boolean) ∈ Tg := mem_Tg (List.mem_append_right _ (List.mem_of_getElem? (i := 518) (by decide +kernel))) (by decide +kernel)
theorem dX4_ofSide_15 : decode cX4_ofSide 15 = .ok (.invokevirtual 42, 3) := by decide +kernel
theorem dX4_ofSide_18 : decode cX4_ofSide 18 = .ok (.ifCond .eq 9, 3) := by decide +kernel
theorem dX4_ofSide_27 : decode cX4_ofSide 27 = .ok (.iinc 3 1, 3) := by decide +kernel
theorem dX4_ofSide_30 : decode cX4_ofSide 30 = .ok (.goto (-26), 3) := by decide +kernel
theorem dX4_ofSide_21 : decode cX4_ofSide 21 = .ok (.iload_n 2, 1) := by decide +kernel
theorem dX4_ofSide_22 : decode cX4_ofSide 22 = .ok (.iconst 1, 1) := by decide +kernel
theorem dX4_ofSide_23 : decode cX4_ofSide 23 = .ok (.iload_n 3, 1) := by decide +kernel
theorem dX4_ofSide_24 : decode cX4_ofSide 24 = .ok (.ishl, 1) := by decide +kernel
theorem dX4_ofSide_25 : decode cX4_ofSide 25 = .ok (.ior, 1) := by decide +kernel
theorem dX4_ofSide_26 : decode cX4_ofSide 26 = .ok (.istore_n 2, 1) := by decide +kernel
theorem dX4_ofSide_33 : decode cX4_ofSide 33 = .ok (.iload_n 2, 1) := by decide +kernel
theorem dX4_ofSide_34 : decode cX4_ofSide 34 = .ok (.ireturn, 1) := by decide +kernel
theorem dX4_holedOnes_0 : decode cX4_holedOnes 0 = .ok (.iconst 0, 1) := by decide +kernel
theorem dX4_holedOnes_1 : decode cX4_holedOnes 1 = .ok (.istore_n 1, 1) := by decide +kernel
theorem dX4_holedOnes_2 : decode cX4_holedOnes 2 = .ok (.iconst 0, 1) := by decide +kernel
theorem dX4_holedOnes_3 : decode cX4_holedOnes 3 = .ok (.istore_n 2, 1) := by decide +kernel
theorem dX4_holedOnes_4 : decode cX4_holedOnes 4 = .ok (.iload_n 2, 1) := by decide +kernel
theorem dX4_holedOnes_5 : decode cX4_holedOnes 5 = .ok (.aload_n 0, 1) := by decide +kernel
theorem dX4_holedOnes_6 : decode cX4_holedOnes 6 = .ok (.getfield 15, 3) := by decide +kernel
theorem dX4_holedOnes_9 : decode cX4_holedOnes 9 = .ok (.if_icmp .ge 22, 3) := by decide +kernel
theorem dX4_holedOnes_12 : decode cX4_holedOnes 12 = .ok (.aload_n 0, 1) := by decide +kernel
theorem dX4_holedOnes_13 : decode cX4_holedOnes 13 = .ok (.iload_n 2, 1) := by decide +kernel
theorem dX4_holedOnes_14 : decode cX4_holedOnes 14 = .ok (.iconst 0, 1) := by decide +kernel
theorem dX4_holedOnes_15 : decode cX4_holedOnes 15 = .ok (.invokevirtual 38, 3) := by decide +kernel
theorem dX4_holedOnes_18 : decode cX4_holedOnes 18 = .ok (.iconst 2, 1) := by decide +kernel
theorem dX4_holedOnes_19 : decode cX4_holedOnes 19 = .ok (.if_icmp .ne 6, 3) := by decide +kernel
theorem dX4_holedOnes_25 : decode cX4_holedOnes 25 = .ok (.iinc 2 1, 3) := by decide +kernel
theorem dX4_holedOnes_28 : decode cX4_holedOnes 28 = .ok (.goto (-24), 3) := by decide +kernel
theorem dX4_holedOnes_22 : decode cX4_holedOnes 22 = .ok (.iinc 1 1, 3) := by decide +kernel
theorem dX4_holedOnes_31 : decode cX4_holedOnes 31 = .ok (.iload_n 1, 1) := by decide +kernel
theorem dX4_holedOnes_32 : decode cX4_holedOnes 32 = .ok (.ireturn, 1) := by decide +kernel
theorem dX4_add_0 : decode cX4_add 0 = .ok (.aload_n 0, 1) := by decide +kernel
theorem dX4_add_1 : decode cX4_add 1 = .ok (.getfield 15, 3) := by decide +kernel
theorem dX4_add_4 : decode cX4_add 4 = .ok (.bipush 10, 2) := by decide +kernel
theorem dX4_add_6 : decode cX4_add 6 = .ok (.if_icmp .ge 85, 3) := by decide +kernel
theorem dX4_add_91 : decode cX4_add 91 = .ok (.return_, 1) := by decide +kernel
theorem dX4_add_9 : decode cX4_add 9 = .ok (.aload_n 0, 1) := by decide +kernel
theorem dX4_add_10 : decode cX4_add 10 = .ok (.getfield 15, 3) := by decide +kernel
theorem dX4_add_13 : decode cX4_add 13 = .ok (.iconst 5, 1) := by decide +kernel
theorem dX4_add_14 : decode cX4_add 14 = .ok (.imul, 1) := by decide +kernel
theorem dX4_add_15 : decode cX4_add 15 = .ok (.istore 5, 2) := by decide +kernel
theorem dX4_add_17 : decode cX4_add 17 = .ok (.aload_n 0, 1) := by decide +kernel
theorem dX4_add_18 : decode cX4_add 18 = .ok (.getfield 9, 3) := by decide +kernel
theorem dX4_add_21 : decode cX4_add 21 = .ok (.iload 5, 2) := by decide +kernel
theorem dX4_add_23 : decode cX4_add 23 = .ok (.iconst 0, 1) := by decide +kernel
theorem dX4_add_24 : decode cX4_add 24 = .ok (.iadd, 1) := by decide +kernel
theorem dX4_add_25 : decode cX4_add 25 = .ok (.iload_n 1, 1) := by decide +kernel
theorem dX4_add_26 : decode cX4_add 26 = .ok (.invokestatic 34, 3) := by decide +kernel
theorem dX4_add_29 : decode cX4_add 29 = .ok (.aload_n 0, 1) := by decide +kernel
theorem dX4_add_30 : decode cX4_add 30 = .ok (.getfield 9, 3) := by decide +kernel
theorem dX4_add_33 : decode cX4_add 33 = .ok (.iload 5, 2) := by decide +kernel
theorem dX4_add_35 : decode cX4_add 35 = .ok (.iconst 1, 1) := by decide +kernel
theorem dX4_add_36 : decode cX4_add 36 = .ok (.iadd, 1) := by decide +kernel
theorem dX4_add_37 : decode cX4_add 37 = .ok (.iload_n 2, 1) := by decide +kernel
theorem dX4_add_38 : decode cX4_add 38 = .ok (.invokestatic 34, 3) := by decide +kernel
theorem dX4_add_41 : decode cX4_add 41 = .ok (.aload_n 0, 1) := by decide +kernel
theorem dX4_add_42 : decode cX4_add 42 = .ok (.getfield 9, 3) := by decide +kernel
theorem dX4_add_45 : decode cX4_add 45 = .ok (.iload 5, 2) := by decide +kernel
theorem dX4_add_47 : decode cX4_add 47 = .ok (.iconst 2, 1) := by decide +kernel
theorem dX4_add_48 : decode cX4_add 48 = .ok (.iadd, 1) := by decide +kernel
theorem dX4_add_49 : decode cX4_add 49 = .ok (.iload_n 3, 1) := by decide +kernel
theorem dX4_add_50 : decode cX4_add 50 = .ok (.invokestatic 34, 3) := by decide +kernel
theorem dX4_add_53 : decode cX4_add 53 = .ok (.aload_n 0, 1) := by decide +kernel
theorem dX4_add_54 : decode cX4_add 54 = .ok (.getfield 9, 3) := by decide +kernel
theorem dX4_add_57 : decode cX4_add 57 = .ok (.iload 5, 2) := by decide +kernel
theorem dX4_add_59 : decode cX4_add 59 = .ok (.iconst 3, 1) := by decide +kernel
theorem dX4_add_60 : decode cX4_add 60 = .ok (.iadd, 1) := by decide +kernel
theorem dX4_add_61 : decode cX4_add 61 = .ok (.iload 4, 2) := by decide +kernel
theorem dX4_add_63 : decode cX4_add 63 = .ok (.invokestatic 34, 3) := by decide +kernel
theorem dX4_add_66 : decode cX4_add 66 = .ok (.aload_n 0, 1) := by decide +kernel
theorem dX4_add_67 : decode cX4_add 67 = .ok (.getfield 9, 3) := by decide +kernel
theorem dX4_add_70 : decode cX4_add 70 = .ok (.iload 5, 2) := by decide +kernel
theorem dX4_add_72 : decode cX4_add 72 = .ok (.iconst 4, 1) := by decide +kernel
theorem dX4_add_73 : decode cX4_add 73 = .ok (.iadd, 1) := by decide +kernel
theorem dX4_add_74 : decode cX4_add 74 = .ok (.aload_n 0, 1) := by decide +kernel
theorem dX4_add_75 : decode cX4_add 75 = .ok (.getfield 19, 3) := by decide +kernel
theorem dX4_add_78 : decode cX4_add 78 = .ok (.invokestatic 34, 3) := by decide +kernel
theorem dX4_add_81 : decode cX4_add 81 = .ok (.aload_n 0, 1) := by decide +kernel
theorem dX4_add_82 : decode cX4_add 82 = .ok (.dup, 1) := by decide +kernel
theorem dX4_add_83 : decode cX4_add 83 = .ok (.getfield 15, 3) := by decide +kernel
theorem dX4_add_86 : decode cX4_add 86 = .ok (.iconst 1, 1) := by decide +kernel
theorem dX4_add_87 : decode cX4_add 87 = .ok (.iadd, 1) := by decide +kernel
theorem dX4_add_88 : decode cX4_add 88 = .ok (.putfield 15, 3) := by decide +kernel
theorem dX4_removeOne_0 : decode cX4_removeOne 0 = .ok (.aload_n 0, 1) := by decide +kernel
theorem dX4_removeOne_1 : decode cX4_removeOne 1 = .ok (.iload_n 1, 1) := by decide +kernel
theorem dX4_removeOne_2 : decode cX4_removeOne 2 = .ok (.invokevirtual 30, 3) := by decide +kernel
theorem dX4_removeOne_5 : decode cX4_removeOne 5 = .ok (.ifCond .eq 53, 3) := by decide +kernel
theorem dX4_removeOne_58 : decode cX4_removeOne 58 = .ok (.return_, 1) := by decide +kernel
theorem dX4_removeOne_8 : decode cX4_removeOne 8 = .ok (.iload_n 1, 1) := by decide +kernel
theorem dX4_removeOne_9 : decode cX4_removeOne 9 = .ok (.iconst 5, 1) := by decide +kernel
theorem dX4_removeOne_10 : decode cX4_removeOne 10 = .ok (.imul, 1) := by decide +kernel
theorem dX4_removeOne_11 : decode cX4_removeOne 11 = .ok (.istore_n 2, 1) := by decide +kernel
theorem dX4_removeOne_12 : decode cX4_removeOne 12 = .ok (.iload_n 2, 1) := by decide +kernel
theorem dX4_removeOne_13 : decode cX4_removeOne 13 = .ok (.aload_n 0, 1) := by decide +kernel
theorem dX4_removeOne_14 : decode cX4_removeOne 14 = .ok (.getfield 15, 3) := by decide +kernel
theorem dX4_removeOne_17 : decode cX4_removeOne 17 = .ok (.iconst 1, 1) := by decide +kernel
theorem dX4_removeOne_18 : decode cX4_removeOne 18 = .ok (.isub, 1) := by decide +kernel
theorem dX4_removeOne_19 : decode cX4_removeOne 19 = .ok (.iconst 5, 1) := by decide +kernel
theorem dX4_removeOne_20 : decode cX4_removeOne 20 = .ok (.imul, 1) := by decide +kernel
theorem dX4_removeOne_21 : decode cX4_removeOne 21 = .ok (.if_icmp .ge 27, 3) := by decide +kernel
theorem dX4_removeOne_24 : decode cX4_removeOne 24 = .ok (.aload_n 0, 1) := by decide +kernel
theorem dX4_removeOne_25 : decode cX4_removeOne 25 = .ok (.getfield 9, 3) := by decide +kernel
theorem dX4_removeOne_28 : decode cX4_removeOne 28 = .ok (.iload_n 2, 1) := by decide +kernel
theorem dX4_removeOne_29 : decode cX4_removeOne 29 = .ok (.aload_n 0, 1) := by decide +kernel
theorem dX4_removeOne_30 : decode cX4_removeOne 30 = .ok (.getfield 9, 3) := by decide +kernel
theorem dX4_removeOne_33 : decode cX4_removeOne 33 = .ok (.iload_n 2, 1) := by decide +kernel
theorem dX4_removeOne_34 : decode cX4_removeOne 34 = .ok (.iconst 5, 1) := by decide +kernel
theorem dX4_removeOne_35 : decode cX4_removeOne 35 = .ok (.iadd, 1) := by decide +kernel
theorem dX4_removeOne_36 : decode cX4_removeOne 36 = .ok (.invokestatic 58, 3) := by decide +kernel
theorem dX4_removeOne_39 : decode cX4_removeOne 39 = .ok (.invokestatic 34, 3) := by decide +kernel
theorem dX4_removeOne_42 : decode cX4_removeOne 42 = .ok (.iinc 2 1, 3) := by decide +kernel
theorem dX4_removeOne_45 : decode cX4_removeOne 45 = .ok (.goto (-33), 3) := by decide +kernel
theorem dX4_removeOne_48 : decode cX4_removeOne 48 = .ok (.aload_n 0, 1) := by decide +kernel
theorem dX4_removeOne_49 : decode cX4_removeOne 49 = .ok (.dup, 1) := by decide +kernel
theorem dX4_removeOne_50 : decode cX4_removeOne 50 = .ok (.getfield 15, 3) := by decide +kernel
theorem dX4_removeOne_53 : decode cX4_removeOne 53 = .ok (.iconst 1, 1) := by decide +kernel
theorem dX4_removeOne_54 : decode cX4_removeOne 54 = .ok (.isub, 1) := by decide +kernel
theorem dX4_removeOne_55 : decode cX4_removeOne 55 = .ok (.putfield 15, 3) := by decide +kernel
theorem dX4_removeTwo_0 : decode cX4_removeTwo 0 = .ok (.aload_n 0, 1) := by decide +kernel
theorem dX4_removeTwo_1 : decode cX4_removeTwo 1 = .ok (.iload_n 1, 1) := by decide +kernel
theorem dX4_removeTwo_2 : decode cX4_removeTwo 2 = .ok (.iload_n 2, 1) := by decide +kernel
theorem dX4_removeTwo_3 : decode cX4_removeTwo 3 = .ok (.invokestatic 46, 3) := by decide +kernel
theorem kw532 : Cond.code yX4_removeOne cX4_removeOne 3 none ∈ Tg := mem_Tg (List.mem_append_right _ (List.mem_of_getElem? (i := 532) (by decide +kernel))) (by decide +kernel)
theorem dX4_removeTwo_6 : decode cX4_removeTwo 6 = .ok (.invokevirtual 51, 3) := by decide +kernel
theorem dX4_removeTwo_9 : decode cX4_removeTwo 9 = .ok (.aload_n 0, 1) := by decide +kernel
theorem dX4_removeTwo_10 : decode cX4_removeTwo 10 = .ok (.iload_n 1, 1) := by decide +kernel
theorem dX4_removeTwo_11 : decode cX4_removeTwo 11 = .ok (.iload_n 2, 1) := by decide +kernel
theorem dX4_removeTwo_12 : decode cX4_removeTwo 12 = .ok (.invokestatic 55, 3) := by decide +kernel
theorem dX4_removeTwo_15 : decode cX4_removeTwo 15 = .ok (.invokevirtual 51, 3) := by decide +kernel
theorem dX4_removeTwo_18 : decode cX4_removeTwo 18 = .ok (.return_, 1) := by decide +kernel
theorem dX4_driedBy_0 : decode cX4_driedBy 0 = .ok (.aload_n 0, 1) := by decide +kernel
theorem dX4_driedBy_1 : decode cX4_driedBy 1 = .ok (.iload_n 1, 1) := by decide +kernel
theorem dX4_driedBy_2 : decode cX4_driedBy 2 = .ok (.iconst 0, 1) := by decide +kernel
theorem dX4_driedBy_3 : decode cX4_driedBy 3 = .ok (.invokevirtual 38, 3) := by decide +kernel
theorem dX4_driedBy_6 : decode cX4_driedBy 6 = .ok (.iconst 1, 1) := by decide +kernel
theorem dX4_driedBy_7 : decode cX4_driedBy 7 = .ok (.if_icmp .ne 23, 3) := by decide +kernel
theorem dX4_driedBy_30 : decode cX4_driedBy 30 = .ok (.iconst 0, 1) := by decide +kernel
theorem dX4_driedBy_31 : decode cX4_driedBy 31 = .ok (.ireturn, 1) := by decide +kernel
theorem dX4_driedBy_10 : decode cX4_driedBy 10 = .ok (.bipush 30, 2) := by decide +kernel
theorem dX4_driedBy_12 : decode cX4_driedBy 12 = .ok (.iconst 0, 1) := by decide +kernel
theorem dX4_driedBy_13 : decode cX4_driedBy 13 = .ok (.iload_n 2, 1) := by decide +kernel
theorem dX4_driedBy_14 : decode cX4_driedBy 14 = .ok (.aload_n 0, 1) := by decide +kernel
theorem dX4_driedBy_15 : decode cX4_driedBy 15 = .ok (.iload_n 1, 1) := by decide +kernel
theorem dX4_driedBy_16 : decode cX4_driedBy 16 = .ok (.iconst 4, 1) := by decide +kernel
theorem dX4_driedBy_17 : decode cX4_driedBy 17 = .ok (.invokevirtual 38, 3) := by decide +kernel
theorem dX4_driedBy_20 : decode cX4_driedBy 20 = .ok (.isub, 1) := by decide +kernel
theorem dX4_driedBy_21 : decode cX4_driedBy 21 = .ok (.invokestatic 46, 3) := by decide +kernel
theorem dX4_driedBy_24 : decode cX4_driedBy 24 = .ok (.invokestatic 55, 3) := by decide +kernel
theorem dX4_driedBy_27 : decode cX4_driedBy 27 = .ok (.goto 4, 3) := by decide +kernel
theorem dX4_sizeOn_0 : decode cX4_sizeOn 0 = .ok (.aload_n 0, 1) := by decide +kernel
theorem dX4_sizeOn_1 : decode cX4_sizeOn 1 = .ok (.iload_n 1, 1) := by decide +kernel
theorem dX4_sizeOn_2 : decode cX4_sizeOn 2 = .ok (.iconst 2, 1) := by decide +kernel
theorem dX4_sizeOn_3 : decode cX4_sizeOn 3 = .ok (.invokevirtual 38, 3) := by decide +kernel
theorem dX4_sizeOn_6 : decode cX4_sizeOn 6 = .ok (.istore_n 3, 1) := by decide +kernel
theorem dX4_sizeOn_7 : decode cX4_sizeOn 7 = .ok (.iload_n 3, 1) := by decide +kernel
theorem dX4_sizeOn_8 : decode cX4_sizeOn 8 = .ok (.iload_n 3, 1) := by decide +kernel
theorem dX4_sizeOn_9 : decode cX4_sizeOn 9 = .ok (.aload_n 0, 1) := by decide +kernel
theorem dX4_sizeOn_10 : decode cX4_sizeOn 10 = .ok (.iload_n 1, 1) := by decide +kernel
theorem dX4_sizeOn_11 : decode cX4_sizeOn 11 = .ok (.iload_n 2, 1) := by decide +kernel
theorem kw467 : Cond.code yX4_driedBy cX4_driedBy 3 (some .int) ∈ Tg := mem_Tg (List.mem_append_right _ (List.mem_of_getElem? (i := 467) (by decide +kernel))) (by decide +kernel)
theorem dX4_sizeOn_12 : decode cX4_sizeOn 12 = .ok (.invokevirtual 62, 3) := by decide +kernel
theorem dX4_sizeOn_15 : decode cX4_sizeOn 15 = .ok (.imul, 1) := by decide +kernel
theorem dX4_sizeOn_16 : decode cX4_sizeOn 16 = .ok (.sipush 360, 3) := by decide +kernel
theorem dX4_sizeOn_19 : decode cX4_sizeOn 19 = .ok (.idiv, 1) := by decide +kernel
theorem dX4_sizeOn_20 : decode cX4_sizeOn 20 = .ok (.isub, 1) := by decide +kernel
theorem dX4_sizeOn_21 : decode cX4_sizeOn 21 = .ok (.ireturn, 1) := by decide +kernel
theorem dX4_weightOn_0 : decode cX4_weightOn 0 = .ok (.aload_n 0, 1) := by decide +kernel
theorem dX4_weightOn_1 : decode cX4_weightOn 1 = .ok (.iload_n 1, 1) := by decide +kernel
theorem dX4_weightOn_2 : decode cX4_weightOn 2 = .ok (.iconst 3, 1) := by decide +kernel
theorem dX4_weightOn_3 : decode cX4_weightOn 3 = .ok (.invokevirtual 38, 3) := by decide +kernel
theorem dX4_weightOn_6 : decode cX4_weightOn 6 = .ok (.istore_n 3, 1) := by decide +kernel
theorem dX4_weightOn_7 : decode cX4_weightOn 7 = .ok (.aload_n 0, 1) := by decide +kernel
theorem dX4_weightOn_8 : decode cX4_weightOn 8 = .ok (.iload_n 1, 1) := by decide +kernel
theorem dX4_weightOn_9 : decode cX4_weightOn 9 = .ok (.iconst 0, 1) := by decide +kernel
theorem dX4_weightOn_10 : decode cX4_weightOn 10 = .ok (.invokevirtual 38, 3) := by decide +kernel
theorem dX4_weightOn_13 : decode cX4_weightOn 13 = .ok (.iconst 3, 1) := by decide +kernel
theorem dX4_weightOn_14 : decode cX4_weightOn 14 = .ok (.if_icmp .ne 7, 3) := by decide +kernel
theorem dX4_weightOn_21 : decode cX4_weightOn 21 = .ok (.iconst 0, 1) := by decide +kernel
theorem dX4_weightOn_22 : decode cX4_weightOn 22 = .ok (.istore 4, 2) := by decide +kernel
theorem dX4_weightOn_24 : decode cX4_weightOn 24 = .ok (.iload_n 3, 1) := by decide +kernel
theorem dX4_weightOn_25 : decode cX4_weightOn 25 = .ok (.iload_n 3, 1) := by decide +kernel
theorem dX4_weightOn_26 : decode cX4_weightOn 26 = .ok (.aload_n 0, 1) := by decide +kernel
theorem dX4_weightOn_27 : decode cX4_weightOn 27 = .ok (.iload_n 1, 1) := by decide +kernel
theorem dX4_weightOn_28 : decode cX4_weightOn 28 = .ok (.iload_n 2, 1) := by decide +kernel
theorem dX4_weightOn_29 : decode cX4_weightOn 29 = .ok (.invokevirtual 62, 3) := by decide +kernel
theorem dX4_weightOn_32 : decode cX4_weightOn 32 = .ok (.imul, 1) := by decide +kernel
theorem dX4_weightOn_33 : decode cX4_weightOn 33 = .ok (.bipush 90, 2) := by decide +kernel
theorem dX4_weightOn_35 : decode cX4_weightOn 35 = .ok (.idiv, 1) := by decide +kernel
theorem dX4_weightOn_36 : decode cX4_weightOn 36 = .ok (.isub, 1) := by decide +kernel
theorem dX4_weightOn_37 : decode cX4_weightOn 37 = .ok (.iload 4, 2) := by decide +kernel
theorem dX4_weightOn_39 : decode cX4_weightOn 39 = .ok (.iadd, 1) := by decide +kernel
theorem dX4_weightOn_40 : decode cX4_weightOn 40 = .ok (.ireturn, 1) := by decide +kernel
theorem dX4_weightOn_17 : decode cX4_weightOn 17 = .ok (.iconst 2, 1) := by decide +kernel
theorem dX4_weightOn_18 : decode cX4_weightOn 18 = .ok (.goto 4, 3) := by decide +kernel
theorem dX4_areAlikeOn_0 : decode cX4_areAlikeOn 0 = .ok (.aload_n 0, 1) := by decide +kernel
theorem dX4_areAlikeOn_1 : decode cX4_areAlikeOn 1 = .ok (.iload_n 1, 1) := by decide +kernel
theorem dX4_areAlikeOn_2 : decode cX4_areAlikeOn 2 = .ok (.iconst 0, 1) := by decide +kernel
theorem dX4_areAlikeOn_3 : decode cX4_areAlikeOn 3 = .ok (.invokevirtual 42, 3) := by decide +kernel
theorem dX4_areAlikeOn_6 : decode cX4_areAlikeOn 6 = .ok (.ifCond .eq 76, 3) := by decide +kernel
theorem dX4_areAlikeOn_82 : decode cX4_areAlikeOn 82 = .ok (.iconst 0, 1) := by decide +kernel
theorem dX4_areAlikeOn_83 : decode cX4_areAlikeOn 83 = .ok (.ireturn, 1) := by decide +kernel
theorem dX4_areAlikeOn_9 : decode cX4_areAlikeOn 9 = .ok (.aload_n 0, 1) := by decide +kernel
theorem dX4_areAlikeOn_10 : decode cX4_areAlikeOn 10 = .ok (.iload_n 2, 1) := by decide +kernel
theorem dX4_areAlikeOn_11 : decode cX4_areAlikeOn 11 = .ok (.iconst 1, 1) := by decide +kernel
theorem dX4_areAlikeOn_12 : decode cX4_areAlikeOn 12 = .ok (.invokevirtual 42, 3) := by decide +kernel
theorem dX4_areAlikeOn_15 : decode cX4_areAlikeOn 15 = .ok (.ifCond .eq 67, 3) := by decide +kernel
theorem dX4_areAlikeOn_18 : decode cX4_areAlikeOn 18 = .ok (.aload_n 0, 1) := by decide +kernel
theorem dX4_areAlikeOn_19 : decode cX4_areAlikeOn 19 = .ok (.iload_n 1, 1) := by decide +kernel
theorem dX4_areAlikeOn_20 : decode cX4_areAlikeOn 20 = .ok (.iconst 0, 1) := by decide +kernel
theorem dX4_areAlikeOn_21 : decode cX4_areAlikeOn 21 = .ok (.invokevirtual 38, 3) := by decide +kernel
theorem dX4_areAlikeOn_24 : decode cX4_areAlikeOn 24 = .ok (.iconst 2, 1) := by decide +kernel
theorem dX4_areAlikeOn_25 : decode cX4_areAlikeOn 25 = .ok (.if_icmp .eq 57, 3) := by decide +kernel
theorem dX4_areAlikeOn_28 : decode cX4_areAlikeOn 28 = .ok (.aload_n 0, 1) := by decide +kernel
theorem dX4_areAlikeOn_29 : decode cX4_areAlikeOn 29 = .ok (.iload_n 2, 1) := by decide +kernel
theorem dX4_areAlikeOn_30 : decode cX4_areAlikeOn 30 = .ok (.iconst 0, 1) := by decide +kernel
theorem dX4_areAlikeOn_31 : decode cX4_areAlikeOn 31 = .ok (.invokevirtual 38, 3) := by decide +kernel
theorem dX4_areAlikeOn_34 : decode cX4_areAlikeOn 34 = .ok (.iconst 2, 1) := by decide +kernel
theorem dX4_areAlikeOn_35 : decode cX4_areAlikeOn 35 = .ok (.if_icmp .eq 47, 3) := by decide +kernel
theorem dX4_areAlikeOn_38 : decode cX4_areAlikeOn 38 = .ok (.aload_n 0, 1) := by decide +kernel
theorem dX4_areAlikeOn_39 : decode cX4_areAlikeOn 39 = .ok (.iload_n 1, 1) := by decide +kernel
theorem dX4_areAlikeOn_40 : decode cX4_areAlikeOn 40 = .ok (.iload_n 3, 1) := by decide +kernel
theorem kw459 : Cond.code yX4_sizeOn cX4_sizeOn 4 (some .int) ∈ Tg := mem_Tg (List.mem_append_right _ (List.mem_of_getElem? (i := 459) (by decide +kernel))) (by decide +kernel)
theorem dX4_areAlikeOn_41 : decode cX4_areAlikeOn 41 = .ok (.invokevirtual 65, 3) := by decide +kernel
theorem dX4_areAlikeOn_44 : decode cX4_areAlikeOn 44 = .ok (.aload_n 0, 1) := by decide +kernel
theorem dX4_areAlikeOn_45 : decode cX4_areAlikeOn 45 = .ok (.iload_n 2, 1) := by decide +kernel
theorem dX4_areAlikeOn_46 : decode cX4_areAlikeOn 46 = .ok (.iload_n 3, 1) := by decide +kernel
theorem dX4_areAlikeOn_47 : decode cX4_areAlikeOn 47 = .ok (.invokevirtual 65, 3) := by decide +kernel
theorem dX4_areAlikeOn_50 : decode cX4_areAlikeOn 50 = .ok (.isub, 1) := by decide +kernel
theorem dX4_areAlikeOn_51 : decode cX4_areAlikeOn 51 = .ok (.invokestatic 68, 3) := by decide +kernel
theorem dX4_areAlikeOn_54 : decode cX4_areAlikeOn 54 = .ok (.iconst 1, 1) := by decide +kernel
theorem dX4_areAlikeOn_55 : decode cX4_areAlikeOn 55 = .ok (.if_icmp .gt 27, 3) := by decide +kernel
theorem dX4_areAlikeOn_58 : decode cX4_areAlikeOn 58 = .ok (.aload_n 0, 1) := by decide +kernel
theorem dX4_areAlikeOn_59 : decode cX4_areAlikeOn 59 = .ok (.iload_n 1, 1) := by decide +kernel
theorem dX4_areAlikeOn_60 : decode cX4_areAlikeOn 60 = .ok (.iload_n 3, 1) := by decide +kernel
theorem kw473 : Cond.code yX4_weightOn cX4_weightOn 5 (some .int) ∈ Tg := mem_Tg (List.mem_append_right _ (List.mem_of_getElem? (i := 473) (by decide +kernel))) (by decide +kernel)
theorem dX4_areAlikeOn_61 : decode cX4_areAlikeOn 61 = .ok (.invokevirtual 72, 3) := by decide +kernel
theorem dX4_areAlikeOn_64 : decode cX4_areAlikeOn 64 = .ok (.aload_n 0, 1) := by decide +kernel
theorem dX4_areAlikeOn_65 : decode cX4_areAlikeOn 65 = .ok (.iload_n 2, 1) := by decide +kernel
theorem dX4_areAlikeOn_66 : decode cX4_areAlikeOn 66 = .ok (.iload_n 3, 1) := by decide +kernel
theorem dX4_areAlikeOn_67 : decode cX4_areAlikeOn 67 = .ok (.invokevirtual 72, 3) := by decide +kernel
theorem dX4_areAlikeOn_70 : decode cX4_areAlikeOn 70 = .ok (.isub, 1) := by decide +kernel
theorem dX4_areAlikeOn_71 : decode cX4_areAlikeOn 71 = .ok (.invokestatic 68, 3) := by decide +kernel
theorem dX4_areAlikeOn_74 : decode cX4_areAlikeOn 74 = .ok (.iconst 3, 1) := by decide +kernel
theorem dX4_areAlikeOn_75 : decode cX4_areAlikeOn 75 = .ok (.if_icmp .gt 7, 3) := by decide +kernel
theorem dX4_areAlikeOn_78 : decode cX4_areAlikeOn 78 = .ok (.iconst 1, 1) := by decide +kernel
theorem dX4_areAlikeOn_79 : decode cX4_areAlikeOn 79 = .ok (.goto 4, 3) := by decide +kernel
theorem dX4_matesOf_0 : decode cX4_matesOf 0 = .ok (.iconst 0, 1) := by decide +kernel
theorem dX4_matesOf_1 : decode cX4_matesOf 1 = .ok (.istore_n 2, 1) := by decide +kernel
theorem dX4_matesOf_2 : decode cX4_matesOf 2 = .ok (.iconst 0, 1) := by decide +kernel
theorem dX4_matesOf_3 : decode cX4_matesOf 3 = .ok (.istore_n 3, 1) := by decide +kernel
theorem dX4_matesOf_4 : decode cX4_matesOf 4 = .ok (.iload_n 3, 1) := by decide +kernel
theorem dX4_matesOf_5 : decode cX4_matesOf 5 = .ok (.aload_n 0, 1) := by decide +kernel
theorem dX4_matesOf_6 : decode cX4_matesOf 6 = .ok (.getfield 15, 3) := by decide +kernel
theorem dX4_matesOf_9 : decode cX4_matesOf 9 = .ok (.if_icmp .ge 41, 3) := by decide +kernel
theorem dX4_matesOf_12 : decode cX4_matesOf 12 = .ok (.aload_n 0, 1) := by decide +kernel
theorem dX4_matesOf_13 : decode cX4_matesOf 13 = .ok (.iload_n 1, 1) := by decide +kernel
theorem dX4_matesOf_14 : decode cX4_matesOf 14 = .ok (.iload_n 3, 1) := by decide +kernel
theorem dX4_matesOf_15 : decode cX4_matesOf 15 = .ok (.aload_n 0, 1) := by decide +kernel
theorem dX4_matesOf_16 : decode cX4_matesOf 16 = .ok (.getfield 19, 3) := by decide +kernel
theorem kw514 : Cond.code yX4_areAlikeOn cX4_areAlikeOn 4 (some .boolean) ∈ Tg := mem_Tg (List.mem_append_right _ (List.mem_of_getElem? (i := 514) (by decide +kernel))) (by decide +kernel)
theorem dX4_matesOf_19 : decode cX4_matesOf 19 = .ok (.invokevirtual 75, 3) := by decide +kernel
theorem dX4_matesOf_22 : decode cX4_matesOf 22 = .ok (.ifCond .ne 16, 3) := by decide +kernel
theorem dX4_matesOf_38 : decode cX4_matesOf 38 = .ok (.iload_n 2, 1) := by decide +kernel
theorem dX4_matesOf_39 : decode cX4_matesOf 39 = .ok (.iconst 1, 1) := by decide +kernel
theorem dX4_matesOf_40 : decode cX4_matesOf 40 = .ok (.iload_n 3, 1) := by decide +kernel
theorem dX4_matesOf_41 : decode cX4_matesOf 41 = .ok (.ishl, 1) := by decide +kernel
theorem dX4_matesOf_42 : decode cX4_matesOf 42 = .ok (.ior, 1) := by decide +kernel
theorem dX4_matesOf_43 : decode cX4_matesOf 43 = .ok (.istore_n 2, 1) := by decide +kernel
theorem dX4_matesOf_44 : decode cX4_matesOf 44 = .ok (.iinc 3 1, 3) := by decide +kernel
theorem dX4_matesOf_47 : decode cX4_matesOf 47 = .ok (.goto (-43), 3) := by decide +kernel
theorem dX4_matesOf_25 : decode cX4_matesOf 25 = .ok (.aload_n 0, 1) := by decide +kernel
theorem dX4_matesOf_26 : decode cX4_matesOf 26 = .ok (.iload_n 3, 1) := by decide +kernel
theorem dX4_matesOf_27 : decode cX4_matesOf 27 = .ok (.iload_n 1, 1) := by decide +kernel
theorem dX4_matesOf_28 : decode cX4_matesOf 28 = .ok (.aload_n 0, 1) := by decide +kernel
theorem dX4_matesOf_29 : decode cX4_matesOf 29 = .ok (.getfield 19, 3) := by decide +kernel
theorem dX4_matesOf_32 : decode cX4_matesOf 32 = .ok (.invokevirtual 75, 3) := by decide +kernel
theorem dX4_matesOf_35 : decode cX4_matesOf 35 = .ok (.ifCond .eq 9, 3) := by decide +kernel
theorem dX4_matesOf_50 : decode cX4_matesOf 50 = .ok (.iload_n 2, 1) := by decide +kernel
theorem dX4_matesOf_51 : decode cX4_matesOf 51 = .ok (.ireturn, 1) := by decide +kernel
theorem dX4_unholedFrom_0 : decode cX4_unholedFrom 0 = .ok (.iconst 0, 1) := by decide +kernel
theorem dX4_unholedFrom_1 : decode cX4_unholedFrom 1 = .ok (.istore_n 3, 1) := by decide +kernel
theorem dX4_unholedFrom_2 : decode cX4_unholedFrom 2 = .ok (.iconst 0, 1) := by decide +kernel
theorem dX4_unholedFrom_3 : decode cX4_unholedFrom 3 = .ok (.istore 4, 2) := by decide +kernel
theorem dX4_unholedFrom_5 : decode cX4_unholedFrom 5 = .ok (.iload 4, 2) := by decide +kernel
theorem dX4_unholedFrom_7 : decode cX4_unholedFrom 7 = .ok (.aload_n 0, 1) := by decide +kernel
theorem dX4_unholedFrom_8 : decode cX4_unholedFrom 8 = .ok (.getfield 15, 3) := by decide +kernel
theorem dX4_unholedFrom_11 : decode cX4_unholedFrom 11 = .ok (.if_icmp .ge 45, 3) := by decide +kernel
theorem dX4_unholedFrom_14 : decode cX4_unholedFrom 14 = .ok (.aload_n 0, 1) := by decide +kernel
theorem dX4_unholedFrom_15 : decode cX4_unholedFrom 15 = .ok (.iload 4, 2) := by decide +kernel
theorem dX4_unholedFrom_17 : decode cX4_unholedFrom 17 = .ok (.iconst 0, 1) := by decide +kernel
theorem dX4_unholedFrom_18 : decode cX4_unholedFrom 18 = .ok (.invokevirtual 38, 3) := by decide +kernel
theorem dX4_unholedFrom_21 : decode cX4_unholedFrom 21 = .ok (.iconst 2, 1) := by decide +kernel
theorem dX4_unholedFrom_22 : decode cX4_unholedFrom 22 = .ok (.if_icmp .eq 28, 3) := by decide +kernel
theorem dX4_unholedFrom_50 : decode cX4_unholedFrom 50 = .ok (.iinc 4 1, 3) := by decide +kernel
theorem dX4_unholedFrom_53 : decode cX4_unholedFrom 53 = .ok (.goto (-48), 3) := by decide +kernel
theorem dX4_unholedFrom_25 : decode cX4_unholedFrom 25 = .ok (.aload_n 0, 1) := by decide +kernel
theorem dX4_unholedFrom_26 : decode cX4_unholedFrom 26 = .ok (.iload 4, 2) := by decide +kernel
theorem dX4_unholedFrom_28 : decode cX4_unholedFrom 28 = .ok (.aload_n 0, 1) := by decide +kernel
theorem dX4_unholedFrom_29 : decode cX4_unholedFrom 29 = .ok (.getfield 19, 3) := by decide +kernel
theorem dX4_unholedFrom_32 : decode cX4_unholedFrom 32 = .ok (.invokevirtual 65, 3) := by decide +kernel
theorem dX4_unholedFrom_35 : decode cX4_unholedFrom 35 = .ok (.iload_n 1, 1) := by decide +kernel
theorem dX4_unholedFrom_36 : decode cX4_unholedFrom 36 = .ok (.iload_n 1, 1) := by decide +kernel
theorem dX4_unholedFrom_37 : decode cX4_unholedFrom 37 = .ok (.iload_n 2, 1) := by decide +kernel
theorem dX4_unholedFrom_38 : decode cX4_unholedFrom 38 = .ok (.iadd, 1) := by decide +kernel
theorem dX4_unholedFrom_39 : decode cX4_unholedFrom 39 = .ok (.iconst 1, 1) := by decide +kernel
theorem dX4_unholedFrom_40 : decode cX4_unholedFrom 40 = .ok (.isub, 1) := by decide +kernel
theorem dX4_unholedFrom_41 : decode cX4_unholedFrom 41 = .ok (.invokestatic 26, 3) := by decide +kernel
theorem dX4_unholedFrom_44 : decode cX4_unholedFrom 44 = .ok (.ifCond .eq 6, 3) := by decide +kernel
theorem dX4_unholedFrom_47 : decode cX4_unholedFrom 47 = .ok (.iinc 3 1, 3) := by decide +kernel
theorem dX4_unholedFrom_56 : decode cX4_unholedFrom 56 = .ok (.iload_n 3, 1) := by decide +kernel
theorem dX4_unholedFrom_57 : decode cX4_unholedFrom 57 = .ok (.ireturn, 1) := by decide +kernel
theorem fg_X4_15 : FG RX4 15 4 1 .int false := ⟨RX4, TX4, 3, tyX4, rfl, in4, by decide, tyX4_ok, nmX4, kw58, rfl, by decide +kernel⟩
theorem fg_X4_19 : FG RX4 19 4 2 .int false := ⟨RX4, TX4, 3, tyX4, rfl, in4, by decide, tyX4_ok, nmX4, kw63, rfl, by decide +kernel⟩
theorem fg_X4_9 : FG RX4 9 4 0 (.array .int) true := ⟨RX4, TX4, 3, tyX4, rfl, in4, by decide, tyX4_ok, nmX4, kw57, rfl, by decide +kernel⟩
theorem cn_X4_22 : CNw RX4 22 yX9_copyRow "LeftAndRight" 2 := ⟨by decide +kernel, kn19, kw374, kw1⟩
theorem cn_X4_26 : CNw RX4 26 yX9_within "LeftAndRight" 3 := ⟨by decide +kernel, kn21, kw337, kw1⟩
theorem cv_X4_30 : CVw RX4 30 RX4 yX4_holds 1 := ⟨by decide +kernel, kw519, kw452, kw453, kw4⟩
theorem cn_X4_34 : CNw RX4 34 yX9_put "LeftAndRight" 3 := ⟨by decide +kernel, kn16, kw319, kw1⟩
theorem cv_X4_38 : CVw RX4 38 RX4 yX4_cell 2 := ⟨by decide +kernel, kw460, kw461, kw462, kw4⟩
theorem cv_X4_42 : CVw RX4 42 RX4 yX4_isOfSide 2 := ⟨by decide +kernel, kw515, kw516, kw517, kw4⟩
theorem cn_X4_58 : CNw RX4 58 yX9_at "LeftAndRight" 2 := ⟨by decide +kernel, kn23, kw331, kw1⟩
theorem mh_X4_46 : MH RX4 46 Lib.Math.max.name Lib.Math.max.code 2 := ⟨kw468, kw170, kw9, kw171⟩
theorem cv_X4_51 : CVw RX4 51 RX4 yX4_removeOne 1 := ⟨by decide +kernel, kw529, kw531, ks10, kw4⟩
theorem mh_X4_55 : MH RX4 55 Lib.Math.min.name Lib.Math.min.code 2 := ⟨kw469, kw377, kw9, kw378⟩
theorem cv_X4_62 : CVw RX4 62 RX4 yX4_driedBy 2 := ⟨by decide +kernel, kw464, kw466, ks8, kw4⟩
theorem cv_X4_65 : CVw RX4 65 RX4 yX4_sizeOn 2 := ⟨by decide +kernel, kw520, kw457, kw458, kw4⟩
theorem mh_X4_68 : MH RX4 68 Lib.Math.abs.name Lib.Math.abs.code 1 := ⟨kw521, kw522, kw9, kw523⟩
theorem cv_X4_72 : CVw RX4 72 RX4 yX4_weightOn 2 := ⟨by decide +kernel, kw524, kw471, kw472, kw4⟩
theorem cv_X4_75 : CVw RX4 75 RX4 yX4_areAlikeOn 3 := ⟨by decide +kernel, kw558, kw512, kw513, kw4⟩
set_option maxHeartbeats 8000000 in
set_option maxRecDepth 100000 in
theorem c_X4_clear (l : Launch) (dC : Nat → ClassId) (dI : Nat → Nat → Nat) (cc : Nat → ClassId) (q0 q1 : Nat) (clogs : Int32) (day : Int32) (sz : Nat) (o_clogs : Int32) (o_day : Int32) (hu : f_X4_clear = some (o_clogs, o_day)) : Met l yX4_clear (mw yX4_clear cX4_clear 1 none) ({ frames := 0, cells := 0, slots := 0, locals := 0 } : Room) (va_Pc [.ref q0] (mP (dC, dI) (ts cc) sz [(q0, .inr (4, [.ref q1, .int clogs, .int day]))])) ((fun A => va_Qv (fun (w : Int32 × Int32) => w = (o_clogs, o_day)) (fun (w : Int32 × Int32) t => va_P (dC, dI) classes [(q0, .inr (4, [.ref q1, .int w.1, .int w.2]))] t.heap) A) (va_A [(q0, .inr (4, [.ref q1, .int clogs, .int day]))] sz)) 0 0 (va_A [(q0, .inr (4, [.ref q1, .int clogs, .int day]))] sz) := by
  refine met_go (Qc := fun A => va_Qv (fun (w : Int32 × Int32) => w = (o_clogs, o_day)) (fun (w : Int32 × Int32) t => va_P (dC, dI) classes [(q0, .inr (4, [.ref q1, .int w.1, .int w.2]))] t.heap) A) (by decide) (Nat.le_of_ble_eq_true rfl) ?_
  intro p e s m below meth c A ls H locs hC hr hlk hin hA hP hl _
  have hC : CX p m c cX4_clear 1 s ([.ref q0] : List Value).toArray RX4 (dC, dI) (ts cc) := hC
  have hx := hC.1.1
  have hb := hC.1.2
  have h := hu
  have hu0 := hu
  unfold f_X4_clear at h
  have hl : lv_has ls 1 [(0, .ref q0)] := hl
  refine lv_aload_n hx hb dX4_clear_0 rfl (lv_at hl 0 rfl) ?_
  refine lv_iconst (v := 0) hx hb dX4_clear_1 (by decide) ?_
  refine g_put hC hP fg_X4_15 0 rfl rfl rfl (Nat.le_of_ble_eq_true rfl) dX4_clear_2 (fun H locs hP => ?_)
  have hP : PD (dC, dI) A s.heap [(q0, .inr (4, [.ref q1, .int 0, .int day]))] H locs := hP
  refine lv_aload_n hx hb dX4_clear_5 rfl (lv_at hl 0 rfl) ?_
  refine lv_iconst (v := 0) hx hb dX4_clear_6 (by decide) ?_
  refine g_put hC hP fg_X4_19 0 rfl rfl rfl (Nat.le_of_ble_eq_true rfl) dX4_clear_7 (fun H locs hP => ?_)
  have hP : PD (dC, dI) A s.heap [(q0, .inr (4, [.ref q1, .int 0, .int 0]))] H locs := hP
  exact ret_v hC hr hlk hP dX4_clear_10 (0, 0) (Option.some.inj h) rfl
set_option maxHeartbeats 8000000 in
set_option maxRecDepth 100000 in
theorem c_X4_copy (l : Launch) (dC : Nat → ClassId) (dI : Nat → Nat → Nat) (cc : Nat → ClassId) (q0 q1 q2 q3 : Nat) (clogs : Int32) (day : Int32) (cells : (Nat → Int32)) (o1_clogs : Int32) (o1_day : Int32) (o1_cells : (Nat → Int32)) (sz : Nat) (o_cells : (Nat → Int32)) (o_clogs : Int32) (o_day : Int32) (hu : f_X4_copy cells o1_clogs o1_day o1_cells = some (o_cells, o_clogs, o_day)) : Met l yX4_copy (mw yX4_copy cX4_copy 2 none) ({ frames := 2, cells := 0, slots := 0, locals := 61 } : Room) (va_Pc [.ref q0, .ref q2] (mP (dC, dI) (ts cc) sz [(q0, .inr (4, [.ref q1, .int clogs, .int day])), (q1, .inl (cc 0, 50, .inl cells)), (q2, .inr (4, [.ref q3, .int o1_clogs, .int o1_day])), (q3, .inl (cc 0, 50, .inl o1_cells))])) ((fun A => va_Qv (fun (w : (Nat → Int32) × Int32 × Int32) => w = (o_cells, o_clogs, o_day)) (fun (w : (Nat → Int32) × Int32 × Int32) t => va_P (dC, dI) classes [(q0, .inr (4, [.ref q1, .int w.2.1, .int w.2.2])), (q1, .inl (cc 0, 50, .inl w.1)), (q2, .inr (4, [.ref q3, .int o1_clogs, .int o1_day])), (q3, .inl (cc 0, 50, .inl o1_cells))] t.heap) A) (va_A [(q0, .inr (4, [.ref q1, .int clogs, .int day])), (q1, .inl (cc 0, 50, .inl cells)), (q2, .inr (4, [.ref q3, .int o1_clogs, .int o1_day])), (q3, .inl (cc 0, 50, .inl o1_cells))] sz)) 0 0 (va_A [(q0, .inr (4, [.ref q1, .int clogs, .int day])), (q1, .inl (cc 0, 50, .inl cells)), (q2, .inr (4, [.ref q3, .int o1_clogs, .int o1_day])), (q3, .inl (cc 0, 50, .inl o1_cells))] sz) := by
  refine met_go (Qc := fun A => va_Qv (fun (w : (Nat → Int32) × Int32 × Int32) => w = (o_cells, o_clogs, o_day)) (fun (w : (Nat → Int32) × Int32 × Int32) t => va_P (dC, dI) classes [(q0, .inr (4, [.ref q1, .int w.2.1, .int w.2.2])), (q1, .inl (cc 0, 50, .inl w.1)), (q2, .inr (4, [.ref q3, .int o1_clogs, .int o1_day])), (q3, .inl (cc 0, 50, .inl o1_cells))] t.heap) A) (by decide) (Nat.le_of_ble_eq_true rfl) ?_
  intro p e s m below meth c A ls H locs hC hr hlk hin hA hP hl _
  have hC : CX p m c cX4_copy 2 s ([.ref q0, .ref q2] : List Value).toArray RX4 (dC, dI) (ts cc) := hC
  have hx := hC.1.1
  have hb := hC.1.2
  have h := hu
  have hu0 := hu
  unfold f_X4_copy at h
  have hl : lv_has ls 2 [(0, .ref q0), (1, .ref q2)] := hl
  refine lv_aload_n hx hb dX4_copy_0 rfl (lv_at hl 1 rfl) ?_
  refine lv_ifnull hx hb dX4_copy_1 ?_
  refine lv_aload_n hx hb dX4_copy_4 rfl (lv_at hl 1 rfl) ?_
  refine g_get hC hP fg_X4_9 2 rfl rfl dX4_copy_5 ?_
  refine lv_aload_n hx hb dX4_copy_8 rfl (lv_at hl 0 rfl) ?_
  refine g_get hC hP fg_X4_9 0 rfl rfl dX4_copy_9 ?_
  obtain ⟨w1, hu, h⟩ := bnd_h h
  refine kc_v (kN hC (c_X9_copyRow l dC dI cc q3 q1 50 50 o1_cells cells H.size w1 hu) cn_X4_22 kw375 rfl rfl ⟨(Nat.le_of_ble_eq_true rfl), (Nat.le_of_ble_eq_true rfl)⟩ hP [3, 1] rfl rfl (As := [.ref q3, .ref q1]) (rest := []) rfl rfl hl.1 (Nat.le_of_ble_eq_true rfl) dX4_copy_12 ⟨Nat.zero_le _, Nat.zero_le _⟩) hP hA [3, 1] rfl rfl (fun H locs hP => ?_)
  have hP : PD (dC, dI) A s.heap [(q0, .inr (4, [.ref q1, .int clogs, .int day])), (q1, .inl (cc 0, 50, .inl w1)), (q2, .inr (4, [.ref q3, .int o1_clogs, .int o1_day])), (q3, .inl (cc 0, 50, .inl o1_cells))] H locs := hP
  refine lv_aload_n hx hb dX4_copy_15 rfl (lv_at hl 0 rfl) ?_
  refine lv_aload_n hx hb dX4_copy_16 rfl (lv_at hl 1 rfl) ?_
  refine g_get hC hP fg_X4_15 2 rfl rfl dX4_copy_17 ?_
  refine g_put hC hP fg_X4_15 0 rfl rfl rfl (Nat.le_of_ble_eq_true rfl) dX4_copy_20 (fun H locs hP => ?_)
  have hP : PD (dC, dI) A s.heap [(q0, .inr (4, [.ref q1, .int o1_clogs, .int day])), (q1, .inl (cc 0, 50, .inl w1)), (q2, .inr (4, [.ref q3, .int o1_clogs, .int o1_day])), (q3, .inl (cc 0, 50, .inl o1_cells))] H locs := hP
  refine lv_aload_n hx hb dX4_copy_23 rfl (lv_at hl 0 rfl) ?_
  refine lv_aload_n hx hb dX4_copy_24 rfl (lv_at hl 1 rfl) ?_
  refine g_get hC hP fg_X4_19 2 rfl rfl dX4_copy_25 ?_
  refine g_put hC hP fg_X4_19 0 rfl rfl rfl (Nat.le_of_ble_eq_true rfl) dX4_copy_28 (fun H locs hP => ?_)
  have hP : PD (dC, dI) A s.heap [(q0, .inr (4, [.ref q1, .int o1_clogs, .int o1_day])), (q1, .inl (cc 0, 50, .inl w1)), (q2, .inr (4, [.ref q3, .int o1_clogs, .int o1_day])), (q3, .inl (cc 0, 50, .inl o1_cells))] H locs := hP
  exact ret_v hC hr hlk hP dX4_copy_31 (w1, o1_clogs, o1_day) (Option.some.inj h) rfl
set_option maxHeartbeats 8000000 in
set_option maxRecDepth 100000 in
theorem c_X4_holds (l : Launch) (dC : Nat → ClassId) (dI : Nat → Nat → Nat) (cc : Nat → ClassId) (q0 q1 : Nat) (clogs : Int32) (day : Int32) (x1 : Int32) (sz : Nat) (ret : Int32) (hu : f_X4_holds x1 clogs = some ret) : Met l yX4_holds (mw yX4_holds cX4_holds 2 (some .boolean)) ({ frames := 1, cells := 0, slots := 0, locals := 22 } : Room) (va_Pc [.ref q0, .int x1] (mP (dC, dI) (ts cc) sz [(q0, .inr (4, [.ref q1, .int clogs, .int day]))])) ((fun A => va_Qi (fun (r : Int32) (w : Unit) => narrow .boolean (.int r) = .int r ∧ (r = ret ∧ w = ())) (fun (w : Unit) t => va_P (dC, dI) classes [(q0, .inr (4, [.ref q1, .int clogs, .int day]))] t.heap) A) (va_A [(q0, .inr (4, [.ref q1, .int clogs, .int day]))] sz)) 0 0 (va_A [(q0, .inr (4, [.ref q1, .int clogs, .int day]))] sz) := by
  refine met_go (Qc := fun A => va_Qi (fun (r : Int32) (w : Unit) => narrow .boolean (.int r) = .int r ∧ (r = ret ∧ w = ())) (fun (w : Unit) t => va_P (dC, dI) classes [(q0, .inr (4, [.ref q1, .int clogs, .int day]))] t.heap) A) (by decide) (Nat.le_of_ble_eq_true rfl) ?_
  intro p e s m below meth c A ls H locs hC hr hlk hin hA hP hl _
  have hC : CX p m c cX4_holds 2 s ([.ref q0, .int x1] : List Value).toArray RX4 (dC, dI) (ts cc) := hC
  have hx := hC.1.1
  have hb := hC.1.2
  have h := hu
  have hu0 := hu
  unfold f_X4_holds at h
  have hl : lv_has ls 2 [(0, .ref q0), (1, .int x1)] := hl
  refine lv_iload_n hx hb dX4_holds_0 rfl (lv_at hl 1 rfl) ?_
  refine lv_iconst (v := 0) hx hb dX4_holds_1 (by decide) ?_
  refine lv_aload_n hx hb dX4_holds_2 rfl (lv_at hl 0 rfl) ?_
  refine g_get hC hP fg_X4_15 0 rfl rfl dX4_holds_3 ?_
  refine lv_iconst (v := 1) hx hb dX4_holds_6 (by decide) ?_
  refine lv_isub hx hb dX4_holds_7 ?_
  obtain ⟨r1, hu, h⟩ := bnd_h h
  refine kc_z (kN hC (c_X9_within l dC dI cc x1 0 (clogs - 1) H.size r1 hu) cn_X4_26 kw338 rfl rfl ⟨(Nat.le_of_ble_eq_true rfl), (Nat.le_of_ble_eq_true rfl)⟩ hP [] rfl rfl (As := [.int x1, .int 0, .int (clogs - 1)]) (rest := []) rfl rfl hl.1 (Nat.le_of_ble_eq_true rfl) dX4_holds_8 ⟨Nat.zero_le _, Nat.zero_le _⟩) hP hA [] rfl rfl (fun hz_r1 H locs hP => ?_)
  have hP : PD (dC, dI) A s.heap [(q0, .inr (4, [.ref q1, .int clogs, .int day]))] H locs := hP
  exact ret_z hC hr hz_r1 hlk hP dX4_holds_11 () (⟨Option.some.inj h, rfl⟩) rfl
set_option maxHeartbeats 8000000 in
set_option maxRecDepth 100000 in
theorem c_X4_cell (l : Launch) (dC : Nat → ClassId) (dI : Nat → Nat → Nat) (cc : Nat → ClassId) (q0 q1 : Nat) (clogs : Int32) (day : Int32) (cells : (Nat → Int32)) (x1 : Int32) (x2 : Int32) (sz : Nat) (ret : Int32) (hu : f_X4_cell x1 x2 clogs cells = some ret) : Met l yX4_cell (mw yX4_cell cX4_cell 4 (some .int)) ({ frames := 0, cells := 0, slots := 0, locals := 0 } : Room) (va_Pc [.ref q0, .int x1, .int x2] (mP (dC, dI) (ts cc) sz [(q0, .inr (4, [.ref q1, .int clogs, .int day])), (q1, .inl (cc 0, 50, .inl cells))])) ((fun A => va_Qi (fun (r : Int32) (w : Unit) => r = ret ∧ w = ()) (fun (w : Unit) t => va_P (dC, dI) classes [(q0, .inr (4, [.ref q1, .int clogs, .int day])), (q1, .inl (cc 0, 50, .inl cells))] t.heap) A) (va_A [(q0, .inr (4, [.ref q1, .int clogs, .int day])), (q1, .inl (cc 0, 50, .inl cells))] sz)) 0 0 (va_A [(q0, .inr (4, [.ref q1, .int clogs, .int day])), (q1, .inl (cc 0, 50, .inl cells))] sz) := by
  refine met_go (Qc := fun A => va_Qi (fun (r : Int32) (w : Unit) => r = ret ∧ w = ()) (fun (w : Unit) t => va_P (dC, dI) classes [(q0, .inr (4, [.ref q1, .int clogs, .int day])), (q1, .inl (cc 0, 50, .inl cells))] t.heap) A) (by decide) (Nat.le_of_ble_eq_true rfl) ?_
  intro p e s m below meth c A ls H locs hC hr hlk hin hA hP hl _
  have hC : CX p m c cX4_cell 4 s ([.ref q0, .int x1, .int x2] : List Value).toArray RX4 (dC, dI) (ts cc) := hC
  have hx := hC.1.1
  have hb := hC.1.2
  have h := hu
  have hu0 := hu
  unfold f_X4_cell at h
  have hl : lv_has ls 4 [(0, .ref q0), (1, .int x1), (2, .int x2)] := hl
  refine lv_iload_n hx hb dX4_cell_0 rfl (lv_at hl 1 rfl) ?_
  refine lv_if_lt (tgt := 21) hx hb dX4_cell_1 (by decide) (fun c1 => ?_) (fun c1 => ?_)
  · have h := if_t c1 h
    refine lv_iconst (v := 0) hx hb dX4_cell_21 (by decide) ?_
    exact ret_i hC hr hlk hP dX4_cell_22 () (⟨Option.some.inj h, rfl⟩) rfl
  · have h := if_f c1 h
    refine lv_iload_n hx hb dX4_cell_4 rfl (lv_at hl 1 rfl) ?_
    refine lv_aload_n hx hb dX4_cell_5 rfl (lv_at hl 0 rfl) ?_
    refine g_get hC hP fg_X4_15 0 rfl rfl dX4_cell_6 ?_
    refine lv_icmp_ge (tgt := 21) hx hb dX4_cell_9 (by decide) (fun c2 => ?_) (fun c2 => ?_)
    · have h := if_t c2 h
      refine lv_iconst (v := 0) hx hb dX4_cell_21 (by decide) ?_
      exact ret_i hC hr hlk hP dX4_cell_22 () (⟨Option.some.inj h, rfl⟩) rfl
    · have h := if_f c2 h
      refine lv_iload_n hx hb dX4_cell_12 rfl (lv_at hl 2 rfl) ?_
      refine lv_if_lt (tgt := 21) hx hb dX4_cell_13 (by decide) (fun c3 => ?_) (fun c3 => ?_)
      · have h := if_t c3 h
        refine lv_iconst (v := 0) hx hb dX4_cell_21 (by decide) ?_
        exact ret_i hC hr hlk hP dX4_cell_22 () (⟨Option.some.inj h, rfl⟩) rfl
      · have h := if_f c3 h
        refine lv_iload_n hx hb dX4_cell_16 rfl (lv_at hl 2 rfl) ?_
        refine lv_iconst (v := 5) hx hb dX4_cell_17 (by decide) ?_
        refine lv_icmp_lt (tgt := 23) hx hb dX4_cell_18 (by decide) (fun c4 => ?_) (fun c4 => ?_)
        · have h := if_t c4 h
          refine lv_iload_n hx hb dX4_cell_23 rfl (lv_at hl 1 rfl) ?_
          refine lv_iconst (v := 5) hx hb dX4_cell_24 (by decide) ?_
          refine lv_imul hx hb dX4_cell_25 ?_
          refine lv_iload_n hx hb dX4_cell_26 rfl (lv_at hl 2 rfl) ?_
          refine lv_iadd hx hb dX4_cell_27 ?_
          refine lv_istore_n (lv' := [(3, .int ((x1 * 5) + x2)), (0, .ref q0), (1, .int x1), (2, .int x2)]) hx hb dX4_cell_28 rfl hl (by decide) rfl (fun ls hl => ?_)
          refine lv_iload_n hx hb dX4_cell_29 rfl (lv_at hl 0 rfl) ?_
          refine lv_aload_n hx hb dX4_cell_30 rfl (lv_at hl 1 rfl) ?_
          refine g_get hC hP fg_X4_9 0 rfl rfl dX4_cell_31 ?_
          refine g_alen hC hP 1 0 rfl rfl (v := 50) rfl dX4_cell_34 ?_
          refine lv_icmp_ge (tgt := 47) hx hb dX4_cell_35 (by decide) (fun c5 => ?_) (fun c5 => ?_)
          · have h := if_t c5 h
            refine lv_iconst (v := 0) hx hb dX4_cell_47 (by decide) ?_
            exact ret_i hC hr hlk hP dX4_cell_48 () (⟨Option.some.inj h, rfl⟩) rfl
          · have h := if_f c5 h
            refine lv_aload_n hx hb dX4_cell_38 rfl (lv_at hl 1 rfl) ?_
            refine g_get hC hP fg_X4_9 0 rfl rfl dX4_cell_39 ?_
            refine lv_iload_n hx hb dX4_cell_42 rfl (lv_at hl 0 rfl) ?_
            obtain ⟨hin, h⟩ := rd_h h
            refine g_iald hC hP 1 0 rfl rfl hin dX4_cell_43 (fun v6 ev => ?_)
            have h := h v6 ev
            refine lv_goto (tgt := 48) hx hb dX4_cell_44 (by decide) ?_
            exact ret_i hC hr hlk hP dX4_cell_48 () (⟨Option.some.inj h, rfl⟩) rfl
        · have h := if_f c4 h
          refine lv_iconst (v := 0) hx hb dX4_cell_21 (by decide) ?_
          exact ret_i hC hr hlk hP dX4_cell_22 () (⟨Option.some.inj h, rfl⟩) rfl
set_option maxHeartbeats 8000000 in
set_option maxRecDepth 100000 in
theorem c_X4_pierce (l : Launch) (dC : Nat → ClassId) (dI : Nat → Nat → Nat) (cc : Nat → ClassId) (q0 q1 : Nat) (clogs : Int32) (day : Int32) (cells : (Nat → Int32)) (x1 : Int32) (sz : Nat) (o_cells : (Nat → Int32)) (hu : f_X4_pierce x1 clogs cells = some o_cells) : Met l yX4_pierce (mw yX4_pierce cX4_pierce 2 none) ({ frames := 2, cells := 0, slots := 0, locals := 43 } : Room) (va_Pc [.ref q0, .int x1] (mP (dC, dI) (ts cc) sz [(q0, .inr (4, [.ref q1, .int clogs, .int day])), (q1, .inl (cc 0, 50, .inl cells))])) ((fun A => va_Qv (fun (w : (Nat → Int32)) => w = o_cells) (fun (w : (Nat → Int32)) t => va_P (dC, dI) classes [(q0, .inr (4, [.ref q1, .int clogs, .int day])), (q1, .inl (cc 0, 50, .inl w))] t.heap) A) (va_A [(q0, .inr (4, [.ref q1, .int clogs, .int day])), (q1, .inl (cc 0, 50, .inl cells))] sz)) 0 0 (va_A [(q0, .inr (4, [.ref q1, .int clogs, .int day])), (q1, .inl (cc 0, 50, .inl cells))] sz) := by
  refine met_go (Qc := fun A => va_Qv (fun (w : (Nat → Int32)) => w = o_cells) (fun (w : (Nat → Int32)) t => va_P (dC, dI) classes [(q0, .inr (4, [.ref q1, .int clogs, .int day])), (q1, .inl (cc 0, 50, .inl w))] t.heap) A) (by decide) (Nat.le_of_ble_eq_true rfl) ?_
  intro p e s m below meth c A ls H locs hC hr hlk hin hA hP hl _
  have hC : CX p m c cX4_pierce 2 s ([.ref q0, .int x1] : List Value).toArray RX4 (dC, dI) (ts cc) := hC
  have hx := hC.1.1
  have hb := hC.1.2
  have h := hu
  have hu0 := hu
  unfold f_X4_pierce at h
  have hl : lv_has ls 2 [(0, .ref q0), (1, .int x1)] := hl
  refine lv_aload_n hx hb dX4_pierce_0 rfl (lv_at hl 0 rfl) ?_
  refine lv_iload_n hx hb dX4_pierce_1 rfl (lv_at hl 1 rfl) ?_
  obtain ⟨r1, hu, h⟩ := bnd_h h
  refine kc_z (kV hC (c_X4_holds l dC dI cc q0 q1 clogs day x1 H.size r1 hu) cv_X4_30 kw454 rfl rfl ⟨(Nat.le_of_ble_eq_true rfl), (Nat.le_of_ble_eq_true rfl)⟩ hP [0] rfl rfl rfl (q0 := 0) rfl (As := [.int x1]) (rest := []) rfl rfl hl.1 (Nat.le_of_ble_eq_true rfl) dX4_pierce_2 ⟨Nat.zero_le _, Nat.zero_le _⟩) hP hA [0] rfl rfl (fun hz_r1 H locs hP => ?_)
  have hP : PD (dC, dI) A s.heap [(q0, .inr (4, [.ref q1, .int clogs, .int day])), (q1, .inl (cc 0, 50, .inl cells))] H locs := hP
  refine lv_if_eq (tgt := 21) hx hb dX4_pierce_5 (by decide) (fun c2 => ?_) (fun c2 => ?_)
  · have h := if_t c2 h
    exact ret_v hC hr hlk hP dX4_pierce_21 cells (Option.some.inj h) rfl
  · have h := if_f c2 h
    refine lv_aload_n hx hb dX4_pierce_8 rfl (lv_at hl 0 rfl) ?_
    refine g_get hC hP fg_X4_9 0 rfl rfl dX4_pierce_9 ?_
    refine lv_iload_n hx hb dX4_pierce_12 rfl (lv_at hl 1 rfl) ?_
    refine lv_iconst (v := 5) hx hb dX4_pierce_13 (by decide) ?_
    refine lv_imul hx hb dX4_pierce_14 ?_
    refine lv_iconst (v := 0) hx hb dX4_pierce_15 (by decide) ?_
    refine lv_iadd hx hb dX4_pierce_16 ?_
    refine lv_iconst (v := 2) hx hb dX4_pierce_17 (by decide) ?_
    obtain ⟨w3, hu, h⟩ := bnd_h h
    refine kc_v (kN hC (c_X9_put l dC dI cc q1 50 cells ((x1 * 5) + 0) 2 H.size w3 hu) cn_X4_34 kw320 rfl rfl ⟨(Nat.le_of_ble_eq_true rfl), (Nat.le_of_ble_eq_true rfl)⟩ hP [1] rfl rfl (As := [.ref q1, .int ((x1 * 5) + 0), .int 2]) (rest := []) rfl rfl hl.1 (Nat.le_of_ble_eq_true rfl) dX4_pierce_18 ⟨Nat.zero_le _, Nat.zero_le _⟩) hP hA [1] rfl rfl (fun H locs hP => ?_)
    have hP : PD (dC, dI) A s.heap [(q0, .inr (4, [.ref q1, .int clogs, .int day])), (q1, .inl (cc 0, 50, .inl w3))] H locs := hP
    exact ret_v hC hr hlk hP dX4_pierce_21 w3 (Option.some.inj h) rfl
set_option maxHeartbeats 8000000 in
set_option maxRecDepth 100000 in
theorem c_X4_isOfSide (l : Launch) (dC : Nat → ClassId) (dI : Nat → Nat → Nat) (cc : Nat → ClassId) (q0 q1 : Nat) (clogs : Int32) (day : Int32) (cells : (Nat → Int32)) (x1 : Int32) (x2 : Int32) (sz : Nat) (ret : Int32) (hu : f_X4_isOfSide x1 x2 clogs cells = some ret) : Met l yX4_isOfSide (mw yX4_isOfSide cX4_isOfSide 3 (some .boolean)) ({ frames := 2, cells := 0, slots := 0, locals := 43 } : Room) (va_Pc [.ref q0, .int x1, .int x2] (mP (dC, dI) (ts cc) sz [(q0, .inr (4, [.ref q1, .int clogs, .int day])), (q1, .inl (cc 0, 50, .inl cells))])) ((fun A => va_Qi (fun (r : Int32) (w : Unit) => narrow .boolean (.int r) = .int r ∧ (r = ret ∧ w = ())) (fun (w : Unit) t => va_P (dC, dI) classes [(q0, .inr (4, [.ref q1, .int clogs, .int day])), (q1, .inl (cc 0, 50, .inl cells))] t.heap) A) (va_A [(q0, .inr (4, [.ref q1, .int clogs, .int day])), (q1, .inl (cc 0, 50, .inl cells))] sz)) 0 0 (va_A [(q0, .inr (4, [.ref q1, .int clogs, .int day])), (q1, .inl (cc 0, 50, .inl cells))] sz) := by
  refine met_go (Qc := fun A => va_Qi (fun (r : Int32) (w : Unit) => narrow .boolean (.int r) = .int r ∧ (r = ret ∧ w = ())) (fun (w : Unit) t => va_P (dC, dI) classes [(q0, .inr (4, [.ref q1, .int clogs, .int day])), (q1, .inl (cc 0, 50, .inl cells))] t.heap) A) (by decide) (Nat.le_of_ble_eq_true rfl) ?_
  intro p e s m below meth c A ls H locs hC hr hlk hin hA hP hl _
  have hC : CX p m c cX4_isOfSide 3 s ([.ref q0, .int x1, .int x2] : List Value).toArray RX4 (dC, dI) (ts cc) := hC
  have hx := hC.1.1
  have hb := hC.1.2
  have h := hu
  have hu0 := hu
  unfold f_X4_isOfSide at h
  have hl : lv_has ls 3 [(0, .ref q0), (1, .int x1), (2, .int x2)] := hl
  refine lv_aload_n hx hb dX4_isOfSide_0 rfl (lv_at hl 0 rfl) ?_
  refine lv_iload_n hx hb dX4_isOfSide_1 rfl (lv_at hl 1 rfl) ?_
  obtain ⟨r1, hu, h⟩ := bnd_h h
  refine kc_z (kV hC (c_X4_holds l dC dI cc q0 q1 clogs day x1 H.size r1 hu) cv_X4_30 kw454 rfl rfl ⟨(Nat.le_of_ble_eq_true rfl), (Nat.le_of_ble_eq_true rfl)⟩ hP [0] rfl rfl rfl (q0 := 0) rfl (As := [.int x1]) (rest := []) rfl rfl hl.1 (Nat.le_of_ble_eq_true rfl) dX4_isOfSide_2 ⟨Nat.zero_le _, Nat.zero_le _⟩) hP hA [0] rfl rfl (fun hz_r1 H locs hP => ?_)
  have hP : PD (dC, dI) A s.heap [(q0, .inr (4, [.ref q1, .int clogs, .int day])), (q1, .inl (cc 0, 50, .inl cells))] H locs := hP
  refine lv_if_eq (tgt := 22) hx hb dX4_isOfSide_5 (by decide) (fun c2 => ?_) (fun c2 => ?_)
  · have h := if_t c2 h
    refine lv_iconst (v := 0) hx hb dX4_isOfSide_22 (by decide) ?_
    exact ret_z hC hr rfl hlk hP dX4_isOfSide_23 () (⟨Option.some.inj h, rfl⟩) rfl
  · have h := if_f c2 h
    refine lv_aload_n hx hb dX4_isOfSide_8 rfl (lv_at hl 0 rfl) ?_
    refine lv_iload_n hx hb dX4_isOfSide_9 rfl (lv_at hl 1 rfl) ?_
    refine lv_iconst (v := 1) hx hb dX4_isOfSide_10 (by decide) ?_
    obtain ⟨r3, hu, h⟩ := bnd_h h
    refine kc_i (kV hC (c_X4_cell l dC dI cc q0 q1 clogs day cells x1 1 H.size r3 hu) cv_X4_38 kw463 rfl rfl ⟨(Nat.le_of_ble_eq_true rfl), (Nat.le_of_ble_eq_true rfl)⟩ hP [0, 1] rfl rfl rfl (q0 := 0) rfl (As := [.int x1, .int 1]) (rest := []) rfl rfl hl.1 (Nat.le_of_ble_eq_true rfl) dX4_isOfSide_11 ⟨Nat.zero_le _, Nat.zero_le _⟩) hP hA [0, 1] rfl rfl (fun H locs hP => ?_)
    have hP : PD (dC, dI) A s.heap [(q0, .inr (4, [.ref q1, .int clogs, .int day])), (q1, .inl (cc 0, 50, .inl cells))] H locs := hP
    refine lv_iload_n hx hb dX4_isOfSide_14 rfl (lv_at hl 2 rfl) ?_
    refine lv_icmp_ne (tgt := 22) hx hb dX4_isOfSide_15 (by decide) (fun c4 => ?_) (fun c4 => ?_)
    · have h := if_f c4 h
      refine lv_iconst (v := 0) hx hb dX4_isOfSide_22 (by decide) ?_
      exact ret_z hC hr rfl hlk hP dX4_isOfSide_23 () (⟨Option.some.inj h, rfl⟩) rfl
    · have h := if_t c4 h
      refine lv_iconst (v := 1) hx hb dX4_isOfSide_18 (by decide) ?_
      refine lv_goto (tgt := 23) hx hb dX4_isOfSide_19 (by decide) ?_
      exact ret_z hC hr rfl hlk hP dX4_isOfSide_23 () (⟨Option.some.inj h, rfl⟩) rfl
set_option maxHeartbeats 8000000 in
set_option maxRecDepth 100000 in
theorem c_X4_ofSide (l : Launch) (dC : Nat → ClassId) (dI : Nat → Nat → Nat) (cc : Nat → ClassId) (q0 q1 : Nat) (clogs : Int32) (day : Int32) (cells : (Nat → Int32)) (x1 : Int32) (sz : Nat) (ret : Int32) (hu : f_X4_ofSide x1 clogs cells = some ret) : Met l yX4_ofSide (mw yX4_ofSide cX4_ofSide 4 (some .int)) ({ frames := 3, cells := 0, slots := 0, locals := 65 } : Room) (va_Pc [.ref q0, .int x1] (mP (dC, dI) (ts cc) sz [(q0, .inr (4, [.ref q1, .int clogs, .int day])), (q1, .inl (cc 0, 50, .inl cells))])) ((fun A => va_Qi (fun (r : Int32) (w : Unit) => r = ret ∧ w = ()) (fun (w : Unit) t => va_P (dC, dI) classes [(q0, .inr (4, [.ref q1, .int clogs, .int day])), (q1, .inl (cc 0, 50, .inl cells))] t.heap) A) (va_A [(q0, .inr (4, [.ref q1, .int clogs, .int day])), (q1, .inl (cc 0, 50, .inl cells))] sz)) 0 0 (va_A [(q0, .inr (4, [.ref q1, .int clogs, .int day])), (q1, .inl (cc 0, 50, .inl cells))] sz) := by
  refine met_go (Qc := fun A => va_Qi (fun (r : Int32) (w : Unit) => r = ret ∧ w = ()) (fun (w : Unit) t => va_P (dC, dI) classes [(q0, .inr (4, [.ref q1, .int clogs, .int day])), (q1, .inl (cc 0, 50, .inl cells))] t.heap) A) (by decide) (Nat.le_of_ble_eq_true rfl) ?_
  intro p e s m below meth c A ls H locs hC hr hlk hin hA hP hl _
  have hC : CX p m c cX4_ofSide 4 s ([.ref q0, .int x1] : List Value).toArray RX4 (dC, dI) (ts cc) := hC
  have hx := hC.1.1
  have hb := hC.1.2
  have h := hu
  have hu0 := hu
  unfold f_X4_ofSide at h
  have hl : lv_has ls 4 [(0, .ref q0), (1, .int x1)] := hl
  refine W_abs (fun Z eZ => ?_)
  refine lv_iconst (v := 0) hx hb dX4_ofSide_0 (by decide) ?_
  refine lv_istore_n (lv' := [(2, .int 0), (0, .ref q0), (1, .int x1)]) hx hb dX4_ofSide_1 rfl hl (by decide) rfl (fun ls hl => ?_)
  refine lv_iconst (v := 0) hx hb dX4_ofSide_2 (by decide) ?_
  refine lv_istore_n (lv' := [(3, .int 0), (2, .int 0), (0, .ref q0), (1, .int x1)]) hx hb dX4_ofSide_3 rfl hl (by decide) rfl (fun ls hl => ?_)
  obtain ⟨⟨j1x, j2x⟩, hlp, h⟩ := bnd_h h
  have L1 : ∀ (n : Nat) (j1 : Int32) (j2 : Int32) (j1x : Int32) (j2x : Int32), lp (u2 (b_X4_ofSide_1 cells clogs x1)) n (j1, j2) = some (j1x, j2x) → ∀ (H : Heap) (locs : List Loc) (ls : Array Slot), PD (dC, dI) A s.heap [(q0, .inr (4, [.ref q1, .int clogs, .int day])), (q1, .inl (cc 0, 50, .inl cells))] H locs → lv_has ls 4 [(0, .ref q0), (1, .int x1), (2, .int j1), (3, .int j2)] → (∀ (H : Heap) (locs : List Loc) (ls : Array Slot), PD (dC, dI) A s.heap [(q0, .inr (4, [.ref q1, .int clogs, .int day])), (q1, .inl (cc 0, 50, .inl cells))] H locs → lv_has ls 4 [(0, .ref q0), (1, .int x1), (2, .int j1x), (3, .int j2x)] → W p l e ({ frames := 3, cells := 0, slots := 0, locals := 65 } : Room) s m ([.ref q0, .int x1] : List Value).toArray below meth c H locs 0 0 Z (F0 m 33 ls [])) → W p l e ({ frames := 3, cells := 0, slots := 0, locals := 65 } : Room) s m ([.ref q0, .int x1] : List Value).toArray below meth c H locs 0 0 Z (F0 m 4 ls []) := by
    intro n
    induction n with
    | zero => intro j1 j2 j1x j2x h; exact (lp_0 h).elim
    | succ n ih =>
      intro j1 j2 j1x j2x h H locs ls hP hl KK
      obtain ⟨y, h, hz⟩ := lp_h h
      refine lv_iload_n hx hb dX4_ofSide_4 rfl (lv_at hl 3 rfl) ?_
      refine lv_aload_n hx hb dX4_ofSide_5 rfl (lv_at hl 0 rfl) ?_
      refine g_get hC hP fg_X4_15 0 rfl rfl dX4_ofSide_6 ?_
      refine lv_icmp_ge (tgt := 33) hx hb dX4_ofSide_9 (by decide) (fun c3 => ?_) (fun c3 => ?_)
      · have h := if_t c3 h
        cases lp_e h hz
        exact KK H locs ls hP (lv_sub hl [0, 1, 2, 3] rfl)
      · have h := if_f c3 h
        refine lv_aload_n hx hb dX4_ofSide_12 rfl (lv_at hl 0 rfl) ?_
        refine lv_iload_n hx hb dX4_ofSide_13 rfl (lv_at hl 3 rfl) ?_
        refine lv_iload_n hx hb dX4_ofSide_14 rfl (lv_at hl 1 rfl) ?_
        obtain ⟨r4, hu, h⟩ := bnd_h h
        refine kc_z (kV hC (c_X4_isOfSide l dC dI cc q0 q1 clogs day cells j2 x1 H.size r4 hu) cv_X4_42 kw518 rfl rfl ⟨(Nat.le_of_ble_eq_true rfl), (Nat.le_of_ble_eq_true rfl)⟩ hP [0, 1] rfl rfl rfl (q0 := 0) rfl (As := [.int j2, .int x1]) (rest := []) rfl rfl hl.1 (Nat.le_of_ble_eq_true rfl) dX4_ofSide_15 ⟨Nat.zero_le _, Nat.zero_le _⟩) hP hA [0, 1] rfl rfl (fun hz_r4 H locs hP => ?_)
        have hP : PD (dC, dI) A s.heap [(q0, .inr (4, [.ref q1, .int clogs, .int day])), (q1, .inl (cc 0, 50, .inl cells))] H locs := hP
        refine lv_if_eq (tgt := 27) hx hb dX4_ofSide_18 (by decide) (fun c5 => ?_) (fun c5 => ?_)
        · have h := if_t c5 h
          refine lv_iinc (v := (j2 + 1)) (lv' := [(3, .int (j2 + 1)), (0, .ref q0), (1, .int x1), (2, .int j1)]) hx hb dX4_ofSide_27 hl (k := 3) rfl rfl (by decide) rfl (fun ls hl => ?_)
          refine lv_goto (tgt := 4) hx hb dX4_ofSide_30 (by decide) ?_
          exact ih _ _ _ _ (lp_n h hz) H locs ls hP (lv_sub hl [1, 2, 3, 0] rfl) KK
        · have h := if_f c5 h
          refine lv_iload_n hx hb dX4_ofSide_21 rfl (lv_at hl 2 rfl) ?_
          refine lv_iconst (v := 1) hx hb dX4_ofSide_22 (by decide) ?_
          refine lv_iload_n hx hb dX4_ofSide_23 rfl (lv_at hl 3 rfl) ?_
          refine lv_ishl hx hb dX4_ofSide_24 ?_
          refine lv_ior hx hb dX4_ofSide_25 ?_
          refine lv_istore_n (lv' := [(2, .int (j1 ||| (1 <<< (j2 &&& 31)))), (0, .ref q0), (1, .int x1), (3, .int j2)]) hx hb dX4_ofSide_26 rfl hl (by decide) rfl (fun ls hl => ?_)
          refine lv_iinc (v := (j2 + 1)) (lv' := [(3, .int (j2 + 1)), (2, .int (j1 ||| (1 <<< (j2 &&& 31)))), (0, .ref q0), (1, .int x1)]) hx hb dX4_ofSide_27 hl (k := 3) rfl rfl (by decide) rfl (fun ls hl => ?_)
          refine lv_goto (tgt := 4) hx hb dX4_ofSide_30 (by decide) ?_
          exact ih _ _ _ _ (lp_n h hz) H locs ls hP (lv_sub hl [2, 3, 1, 0] rfl) KK
  refine L1 FU _ _ j1x j2x hlp H locs ls hP (lv_sub hl [2, 3, 1, 0] rfl) (fun H locs ls hP hl => ?_)
  refine lv_iload_n hx hb dX4_ofSide_33 rfl (lv_at hl 2 rfl) ?_
  rw [eZ]
  exact ret_i hC hr hlk hP dX4_ofSide_34 () (⟨Option.some.inj h, rfl⟩) rfl
set_option maxHeartbeats 8000000 in
set_option maxRecDepth 100000 in
theorem c_X4_holedOnes (l : Launch) (dC : Nat → ClassId) (dI : Nat → Nat → Nat) (cc : Nat → ClassId) (q0 q1 : Nat) (clogs : Int32) (day : Int32) (cells : (Nat → Int32)) (sz : Nat) (ret : Int32) (hu : f_X4_holedOnes clogs cells = some ret) : Met l yX4_holedOnes (mw yX4_holedOnes cX4_holedOnes 3 (some .int)) ({ frames := 1, cells := 0, slots := 0, locals := 23 } : Room) (va_Pc [.ref q0] (mP (dC, dI) (ts cc) sz [(q0, .inr (4, [.ref q1, .int clogs, .int day])), (q1, .inl (cc 0, 50, .inl cells))])) ((fun A => va_Qi (fun (r : Int32) (w : Unit) => r = ret ∧ w = ()) (fun (w : Unit) t => va_P (dC, dI) classes [(q0, .inr (4, [.ref q1, .int clogs, .int day])), (q1, .inl (cc 0, 50, .inl cells))] t.heap) A) (va_A [(q0, .inr (4, [.ref q1, .int clogs, .int day])), (q1, .inl (cc 0, 50, .inl cells))] sz)) 0 0 (va_A [(q0, .inr (4, [.ref q1, .int clogs, .int day])), (q1, .inl (cc 0, 50, .inl cells))] sz) := by
  refine met_go (Qc := fun A => va_Qi (fun (r : Int32) (w : Unit) => r = ret ∧ w = ()) (fun (w : Unit) t => va_P (dC, dI) classes [(q0, .inr (4, [.ref q1, .int clogs, .int day])), (q1, .inl (cc 0, 50, .inl cells))] t.heap) A) (by decide) (Nat.le_of_ble_eq_true rfl) ?_
  intro p e s m below meth c A ls H locs hC hr hlk hin hA hP hl _
  have hC : CX p m c cX4_holedOnes 3 s ([.ref q0] : List Value).toArray RX4 (dC, dI) (ts cc) := hC
  have hx := hC.1.1
  have hb := hC.1.2
  have h := hu
  have hu0 := hu
  unfold f_X4_holedOnes at h
  have hl : lv_has ls 3 [(0, .ref q0)] := hl
  refine W_abs (fun Z eZ => ?_)
  refine lv_iconst (v := 0) hx hb dX4_holedOnes_0 (by decide) ?_
  refine lv_istore_n (lv' := [(1, .int 0), (0, .ref q0)]) hx hb dX4_holedOnes_1 rfl hl (by decide) rfl (fun ls hl => ?_)
  refine lv_iconst (v := 0) hx hb dX4_holedOnes_2 (by decide) ?_
  refine lv_istore_n (lv' := [(2, .int 0), (1, .int 0), (0, .ref q0)]) hx hb dX4_holedOnes_3 rfl hl (by decide) rfl (fun ls hl => ?_)
  obtain ⟨⟨j1x, j2x⟩, hlp, h⟩ := bnd_h h
  have L1 : ∀ (n : Nat) (j1 : Int32) (j2 : Int32) (j1x : Int32) (j2x : Int32), lp (u2 (b_X4_holedOnes_1 cells clogs)) n (j1, j2) = some (j1x, j2x) → ∀ (H : Heap) (locs : List Loc) (ls : Array Slot), PD (dC, dI) A s.heap [(q0, .inr (4, [.ref q1, .int clogs, .int day])), (q1, .inl (cc 0, 50, .inl cells))] H locs → lv_has ls 3 [(0, .ref q0), (1, .int j1), (2, .int j2)] → (∀ (H : Heap) (locs : List Loc) (ls : Array Slot), PD (dC, dI) A s.heap [(q0, .inr (4, [.ref q1, .int clogs, .int day])), (q1, .inl (cc 0, 50, .inl cells))] H locs → lv_has ls 3 [(0, .ref q0), (1, .int j1x), (2, .int j2x)] → W p l e ({ frames := 1, cells := 0, slots := 0, locals := 23 } : Room) s m ([.ref q0] : List Value).toArray below meth c H locs 0 0 Z (F0 m 31 ls [])) → W p l e ({ frames := 1, cells := 0, slots := 0, locals := 23 } : Room) s m ([.ref q0] : List Value).toArray below meth c H locs 0 0 Z (F0 m 4 ls []) := by
    intro n
    induction n with
    | zero => intro j1 j2 j1x j2x h; exact (lp_0 h).elim
    | succ n ih =>
      intro j1 j2 j1x j2x h H locs ls hP hl KK
      obtain ⟨y, h, hz⟩ := lp_h h
      refine lv_iload_n hx hb dX4_holedOnes_4 rfl (lv_at hl 2 rfl) ?_
      refine lv_aload_n hx hb dX4_holedOnes_5 rfl (lv_at hl 0 rfl) ?_
      refine g_get hC hP fg_X4_15 0 rfl rfl dX4_holedOnes_6 ?_
      refine lv_icmp_ge (tgt := 31) hx hb dX4_holedOnes_9 (by decide) (fun c3 => ?_) (fun c3 => ?_)
      · have h := if_t c3 h
        cases lp_e h hz
        exact KK H locs ls hP (lv_sub hl [0, 1, 2] rfl)
      · have h := if_f c3 h
        refine lv_aload_n hx hb dX4_holedOnes_12 rfl (lv_at hl 0 rfl) ?_
        refine lv_iload_n hx hb dX4_holedOnes_13 rfl (lv_at hl 2 rfl) ?_
        refine lv_iconst (v := 0) hx hb dX4_holedOnes_14 (by decide) ?_
        obtain ⟨r4, hu, h⟩ := bnd_h h
        refine kc_i (kV hC (c_X4_cell l dC dI cc q0 q1 clogs day cells j2 0 H.size r4 hu) cv_X4_38 kw463 rfl rfl ⟨(Nat.le_of_ble_eq_true rfl), (Nat.le_of_ble_eq_true rfl)⟩ hP [0, 1] rfl rfl rfl (q0 := 0) rfl (As := [.int j2, .int 0]) (rest := []) rfl rfl hl.1 (Nat.le_of_ble_eq_true rfl) dX4_holedOnes_15 ⟨Nat.zero_le _, Nat.zero_le _⟩) hP hA [0, 1] rfl rfl (fun H locs hP => ?_)
        have hP : PD (dC, dI) A s.heap [(q0, .inr (4, [.ref q1, .int clogs, .int day])), (q1, .inl (cc 0, 50, .inl cells))] H locs := hP
        refine lv_iconst (v := 2) hx hb dX4_holedOnes_18 (by decide) ?_
        refine lv_icmp_ne (tgt := 25) hx hb dX4_holedOnes_19 (by decide) (fun c5 => ?_) (fun c5 => ?_)
        · have h := if_f c5 h
          refine lv_iinc (v := (j2 + 1)) (lv' := [(2, .int (j2 + 1)), (0, .ref q0), (1, .int j1)]) hx hb dX4_holedOnes_25 hl (k := 2) rfl rfl (by decide) rfl (fun ls hl => ?_)
          refine lv_goto (tgt := 4) hx hb dX4_holedOnes_28 (by decide) ?_
          exact ih _ _ _ _ (lp_n h hz) H locs ls hP (lv_sub hl [1, 2, 0] rfl) KK
        · have h := if_t c5 h
          refine lv_iinc (v := (j1 + 1)) (lv' := [(1, .int (j1 + 1)), (0, .ref q0), (2, .int j2)]) hx hb dX4_holedOnes_22 hl (k := 1) rfl rfl (by decide) rfl (fun ls hl => ?_)
          refine lv_iinc (v := (j2 + 1)) (lv' := [(2, .int (j2 + 1)), (1, .int (j1 + 1)), (0, .ref q0)]) hx hb dX4_holedOnes_25 hl (k := 2) rfl rfl (by decide) rfl (fun ls hl => ?_)
          refine lv_goto (tgt := 4) hx hb dX4_holedOnes_28 (by decide) ?_
          exact ih _ _ _ _ (lp_n h hz) H locs ls hP (lv_sub hl [2, 1, 0] rfl) KK
  refine L1 FU _ _ j1x j2x hlp H locs ls hP (lv_sub hl [2, 1, 0] rfl) (fun H locs ls hP hl => ?_)
  refine lv_iload_n hx hb dX4_holedOnes_31 rfl (lv_at hl 1 rfl) ?_
  rw [eZ]
  exact ret_i hC hr hlk hP dX4_holedOnes_32 () (⟨Option.some.inj h, rfl⟩) rfl
set_option maxHeartbeats 8000000 in
set_option maxRecDepth 100000 in
theorem c_X4_add (l : Launch) (dC : Nat → ClassId) (dI : Nat → Nat → Nat) (cc : Nat → ClassId) (q0 q1 : Nat) (clogs : Int32) (day : Int32) (cells : (Nat → Int32)) (x1 : Int32) (x2 : Int32) (x3 : Int32) (x4 : Int32) (sz : Nat) (o_cells : (Nat → Int32)) (o_clogs : Int32) (hu : f_X4_add x1 x2 x3 x4 clogs day cells = some (o_cells, o_clogs)) : Met l yX4_add (mw yX4_add cX4_add 6 none) ({ frames := 1, cells := 0, slots := 0, locals := 22 } : Room) (va_Pc [.ref q0, .int x1, .int x2, .int x3, .int x4] (mP (dC, dI) (ts cc) sz [(q0, .inr (4, [.ref q1, .int clogs, .int day])), (q1, .inl (cc 0, 50, .inl cells))])) ((fun A => va_Qv (fun (w : (Nat → Int32) × Int32) => w = (o_cells, o_clogs)) (fun (w : (Nat → Int32) × Int32) t => va_P (dC, dI) classes [(q0, .inr (4, [.ref q1, .int w.2, .int day])), (q1, .inl (cc 0, 50, .inl w.1))] t.heap) A) (va_A [(q0, .inr (4, [.ref q1, .int clogs, .int day])), (q1, .inl (cc 0, 50, .inl cells))] sz)) 0 0 (va_A [(q0, .inr (4, [.ref q1, .int clogs, .int day])), (q1, .inl (cc 0, 50, .inl cells))] sz) := by
  refine met_go (Qc := fun A => va_Qv (fun (w : (Nat → Int32) × Int32) => w = (o_cells, o_clogs)) (fun (w : (Nat → Int32) × Int32) t => va_P (dC, dI) classes [(q0, .inr (4, [.ref q1, .int w.2, .int day])), (q1, .inl (cc 0, 50, .inl w.1))] t.heap) A) (by decide) (Nat.le_of_ble_eq_true rfl) ?_
  intro p e s m below meth c A ls H locs hC hr hlk hin hA hP hl _
  have hC : CX p m c cX4_add 6 s ([.ref q0, .int x1, .int x2, .int x3, .int x4] : List Value).toArray RX4 (dC, dI) (ts cc) := hC
  have hx := hC.1.1
  have hb := hC.1.2
  have h := hu
  have hu0 := hu
  unfold f_X4_add at h
  have hl : lv_has ls 6 [(0, .ref q0), (1, .int x1), (2, .int x2), (3, .int x3), (4, .int x4)] := hl
  refine lv_aload_n hx hb dX4_add_0 rfl (lv_at hl 0 rfl) ?_
  refine g_get hC hP fg_X4_15 0 rfl rfl dX4_add_1 ?_
  refine lv_bipush (v := 10) hx hb dX4_add_4 (by decide) ?_
  refine lv_icmp_ge (tgt := 91) hx hb dX4_add_6 (by decide) (fun c1 => ?_) (fun c1 => ?_)
  · have h := if_t c1 h
    exact ret_v hC hr hlk hP dX4_add_91 (cells, clogs) (Option.some.inj h) rfl
  · have h := if_f c1 h
    refine lv_aload_n hx hb dX4_add_9 rfl (lv_at hl 0 rfl) ?_
    refine g_get hC hP fg_X4_15 0 rfl rfl dX4_add_10 ?_
    refine lv_iconst (v := 5) hx hb dX4_add_13 (by decide) ?_
    refine lv_imul hx hb dX4_add_14 ?_
    refine lv_istore (lv' := [(5, .int (clogs * 5)), (0, .ref q0), (1, .int x1), (2, .int x2), (3, .int x3), (4, .int x4)]) hx hb dX4_add_15 hl (by decide) rfl (fun ls hl => ?_)
    refine lv_aload_n hx hb dX4_add_17 rfl (lv_at hl 1 rfl) ?_
    refine g_get hC hP fg_X4_9 0 rfl rfl dX4_add_18 ?_
    refine lv_iload hx hb dX4_add_21 (lv_at hl 0 rfl) ?_
    refine lv_iconst (v := 0) hx hb dX4_add_23 (by decide) ?_
    refine lv_iadd hx hb dX4_add_24 ?_
    refine lv_iload_n hx hb dX4_add_25 rfl (lv_at hl 2 rfl) ?_
    obtain ⟨w2, hu, h⟩ := bnd_h h
    refine kc_v (kN hC (c_X9_put l dC dI cc q1 50 cells ((clogs * 5) + 0) x1 H.size w2 hu) cn_X4_34 kw320 rfl rfl ⟨(Nat.le_of_ble_eq_true rfl), (Nat.le_of_ble_eq_true rfl)⟩ hP [1] rfl rfl (As := [.ref q1, .int ((clogs * 5) + 0), .int x1]) (rest := []) rfl rfl hl.1 (Nat.le_of_ble_eq_true rfl) dX4_add_26 ⟨Nat.zero_le _, Nat.zero_le _⟩) hP hA [1] rfl rfl (fun H locs hP => ?_)
    have hP : PD (dC, dI) A s.heap [(q0, .inr (4, [.ref q1, .int clogs, .int day])), (q1, .inl (cc 0, 50, .inl w2))] H locs := hP
    refine lv_aload_n hx hb dX4_add_29 rfl (lv_at hl 1 rfl) ?_
    refine g_get hC hP fg_X4_9 0 rfl rfl dX4_add_30 ?_
    refine lv_iload hx hb dX4_add_33 (lv_at hl 0 rfl) ?_
    refine lv_iconst (v := 1) hx hb dX4_add_35 (by decide) ?_
    refine lv_iadd hx hb dX4_add_36 ?_
    refine lv_iload_n hx hb dX4_add_37 rfl (lv_at hl 3 rfl) ?_
    obtain ⟨w3, hu, h⟩ := bnd_h h
    refine kc_v (kN hC (c_X9_put l dC dI cc q1 50 w2 ((clogs * 5) + 1) x2 H.size w3 hu) cn_X4_34 kw320 rfl rfl ⟨(Nat.le_of_ble_eq_true rfl), (Nat.le_of_ble_eq_true rfl)⟩ hP [1] rfl rfl (As := [.ref q1, .int ((clogs * 5) + 1), .int x2]) (rest := []) rfl rfl hl.1 (Nat.le_of_ble_eq_true rfl) dX4_add_38 ⟨Nat.zero_le _, Nat.zero_le _⟩) hP hA [1] rfl rfl (fun H locs hP => ?_)
    have hP : PD (dC, dI) A s.heap [(q0, .inr (4, [.ref q1, .int clogs, .int day])), (q1, .inl (cc 0, 50, .inl w3))] H locs := hP
    refine lv_aload_n hx hb dX4_add_41 rfl (lv_at hl 1 rfl) ?_
    refine g_get hC hP fg_X4_9 0 rfl rfl dX4_add_42 ?_
    refine lv_iload hx hb dX4_add_45 (lv_at hl 0 rfl) ?_
    refine lv_iconst (v := 2) hx hb dX4_add_47 (by decide) ?_
    refine lv_iadd hx hb dX4_add_48 ?_
    refine lv_iload_n hx hb dX4_add_49 rfl (lv_at hl 4 rfl) ?_
    obtain ⟨w4, hu, h⟩ := bnd_h h
    refine kc_v (kN hC (c_X9_put l dC dI cc q1 50 w3 ((clogs * 5) + 2) x3 H.size w4 hu) cn_X4_34 kw320 rfl rfl ⟨(Nat.le_of_ble_eq_true rfl), (Nat.le_of_ble_eq_true rfl)⟩ hP [1] rfl rfl (As := [.ref q1, .int ((clogs * 5) + 2), .int x3]) (rest := []) rfl rfl hl.1 (Nat.le_of_ble_eq_true rfl) dX4_add_50 ⟨Nat.zero_le _, Nat.zero_le _⟩) hP hA [1] rfl rfl (fun H locs hP => ?_)
    have hP : PD (dC, dI) A s.heap [(q0, .inr (4, [.ref q1, .int clogs, .int day])), (q1, .inl (cc 0, 50, .inl w4))] H locs := hP
    refine lv_aload_n hx hb dX4_add_53 rfl (lv_at hl 1 rfl) ?_
    refine g_get hC hP fg_X4_9 0 rfl rfl dX4_add_54 ?_
    refine lv_iload hx hb dX4_add_57 (lv_at hl 0 rfl) ?_
    refine lv_iconst (v := 3) hx hb dX4_add_59 (by decide) ?_
    refine lv_iadd hx hb dX4_add_60 ?_
    refine lv_iload hx hb dX4_add_61 (lv_at hl 5 rfl) ?_
    obtain ⟨w5, hu, h⟩ := bnd_h h
    refine kc_v (kN hC (c_X9_put l dC dI cc q1 50 w4 ((clogs * 5) + 3) x4 H.size w5 hu) cn_X4_34 kw320 rfl rfl ⟨(Nat.le_of_ble_eq_true rfl), (Nat.le_of_ble_eq_true rfl)⟩ hP [1] rfl rfl (As := [.ref q1, .int ((clogs * 5) + 3), .int x4]) (rest := []) rfl rfl hl.1 (Nat.le_of_ble_eq_true rfl) dX4_add_63 ⟨Nat.zero_le _, Nat.zero_le _⟩) hP hA [1] rfl rfl (fun H locs hP => ?_)
    have hP : PD (dC, dI) A s.heap [(q0, .inr (4, [.ref q1, .int clogs, .int day])), (q1, .inl (cc 0, 50, .inl w5))] H locs := hP
    refine lv_aload_n hx hb dX4_add_66 rfl (lv_at hl 1 rfl) ?_
    refine g_get hC hP fg_X4_9 0 rfl rfl dX4_add_67 ?_
    refine lv_iload hx hb dX4_add_70 (lv_at hl 0 rfl) ?_
    refine lv_iconst (v := 4) hx hb dX4_add_72 (by decide) ?_
    refine lv_iadd hx hb dX4_add_73 ?_
    refine lv_aload_n hx hb dX4_add_74 rfl (lv_at hl 1 rfl) ?_
    refine g_get hC hP fg_X4_19 0 rfl rfl dX4_add_75 ?_
    obtain ⟨w6, hu, h⟩ := bnd_h h
    refine kc_v (kN hC (c_X9_put l dC dI cc q1 50 w5 ((clogs * 5) + 4) day H.size w6 hu) cn_X4_34 kw320 rfl rfl ⟨(Nat.le_of_ble_eq_true rfl), (Nat.le_of_ble_eq_true rfl)⟩ hP [1] rfl rfl (As := [.ref q1, .int ((clogs * 5) + 4), .int day]) (rest := []) rfl rfl hl.1 (Nat.le_of_ble_eq_true rfl) dX4_add_78 ⟨Nat.zero_le _, Nat.zero_le _⟩) hP hA [1] rfl rfl (fun H locs hP => ?_)
    have hP : PD (dC, dI) A s.heap [(q0, .inr (4, [.ref q1, .int clogs, .int day])), (q1, .inl (cc 0, 50, .inl w6))] H locs := hP
    refine lv_aload_n hx hb dX4_add_81 rfl (lv_at hl 1 rfl) ?_
    refine lv_dup hx hb dX4_add_82 rfl ?_
    refine g_get hC hP fg_X4_15 0 rfl rfl dX4_add_83 ?_
    refine lv_iconst (v := 1) hx hb dX4_add_86 (by decide) ?_
    refine lv_iadd hx hb dX4_add_87 ?_
    refine g_put hC hP fg_X4_15 0 rfl rfl rfl (Nat.le_of_ble_eq_true rfl) dX4_add_88 (fun H locs hP => ?_)
    have hP : PD (dC, dI) A s.heap [(q0, .inr (4, [.ref q1, .int (clogs + 1), .int day])), (q1, .inl (cc 0, 50, .inl w6))] H locs := hP
    exact ret_v hC hr hlk hP dX4_add_91 (w6, (clogs + 1)) (Option.some.inj h) rfl
set_option maxHeartbeats 8000000 in
set_option maxRecDepth 100000 in
theorem c_X4_removeOne (l : Launch) (dC : Nat → ClassId) (dI : Nat → Nat → Nat) (cc : Nat → ClassId) (q0 q1 : Nat) (clogs : Int32) (day : Int32) (cells : (Nat → Int32)) (x1 : Int32) (sz : Nat) (o_cells : (Nat → Int32)) (o_clogs : Int32) (hu : f_X4_removeOne x1 clogs cells = some (o_cells, o_clogs)) : Met l yX4_removeOne (mw yX4_removeOne cX4_removeOne 3 none) ({ frames := 2, cells := 0, slots := 0, locals := 43 } : Room) (va_Pc [.ref q0, .int x1] (mP (dC, dI) (ts cc) sz [(q0, .inr (4, [.ref q1, .int clogs, .int day])), (q1, .inl (cc 0, 50, .inl cells))])) ((fun A => va_Qv (fun (w : (Nat → Int32) × Int32) => w = (o_cells, o_clogs)) (fun (w : (Nat → Int32) × Int32) t => va_P (dC, dI) classes [(q0, .inr (4, [.ref q1, .int w.2, .int day])), (q1, .inl (cc 0, 50, .inl w.1))] t.heap) A) (va_A [(q0, .inr (4, [.ref q1, .int clogs, .int day])), (q1, .inl (cc 0, 50, .inl cells))] sz)) 0 0 (va_A [(q0, .inr (4, [.ref q1, .int clogs, .int day])), (q1, .inl (cc 0, 50, .inl cells))] sz) := by
  refine met_go (Qc := fun A => va_Qv (fun (w : (Nat → Int32) × Int32) => w = (o_cells, o_clogs)) (fun (w : (Nat → Int32) × Int32) t => va_P (dC, dI) classes [(q0, .inr (4, [.ref q1, .int w.2, .int day])), (q1, .inl (cc 0, 50, .inl w.1))] t.heap) A) (by decide) (Nat.le_of_ble_eq_true rfl) ?_
  intro p e s m below meth c A ls H locs hC hr hlk hin hA hP hl _
  have hC : CX p m c cX4_removeOne 3 s ([.ref q0, .int x1] : List Value).toArray RX4 (dC, dI) (ts cc) := hC
  have hx := hC.1.1
  have hb := hC.1.2
  have h := hu
  have hu0 := hu
  unfold f_X4_removeOne at h
  have hl : lv_has ls 3 [(0, .ref q0), (1, .int x1)] := hl
  refine W_abs (fun Z eZ => ?_)
  refine lv_aload_n hx hb dX4_removeOne_0 rfl (lv_at hl 0 rfl) ?_
  refine lv_iload_n hx hb dX4_removeOne_1 rfl (lv_at hl 1 rfl) ?_
  obtain ⟨r1, hu, h⟩ := bnd_h h
  refine kc_z (kV hC (c_X4_holds l dC dI cc q0 q1 clogs day x1 H.size r1 hu) cv_X4_30 kw454 rfl rfl ⟨(Nat.le_of_ble_eq_true rfl), (Nat.le_of_ble_eq_true rfl)⟩ hP [0] rfl rfl rfl (q0 := 0) rfl (As := [.int x1]) (rest := []) rfl rfl hl.1 (Nat.le_of_ble_eq_true rfl) dX4_removeOne_2 ⟨Nat.zero_le _, Nat.zero_le _⟩) hP hA [0] rfl rfl (fun hz_r1 H locs hP => ?_)
  have hP : PD (dC, dI) A s.heap [(q0, .inr (4, [.ref q1, .int clogs, .int day])), (q1, .inl (cc 0, 50, .inl cells))] H locs := hP
  refine lv_if_eq (tgt := 58) hx hb dX4_removeOne_5 (by decide) (fun c2 => ?_) (fun c2 => ?_)
  · have h := if_t c2 h
    rw [eZ]
    exact ret_v hC hr hlk hP dX4_removeOne_58 (cells, clogs) (Option.some.inj h) rfl
  · have h := if_f c2 h
    refine lv_iload_n hx hb dX4_removeOne_8 rfl (lv_at hl 1 rfl) ?_
    refine lv_iconst (v := 5) hx hb dX4_removeOne_9 (by decide) ?_
    refine lv_imul hx hb dX4_removeOne_10 ?_
    refine lv_istore_n (lv' := [(2, .int (x1 * 5)), (0, .ref q0), (1, .int x1)]) hx hb dX4_removeOne_11 rfl hl (by decide) rfl (fun ls hl => ?_)
    obtain ⟨⟨j3x, w4x⟩, hlp, h⟩ := bnd_h h
    have L1 : ∀ (n : Nat) (j3 : Int32) (w4 : (Nat → Int32)) (j3x : Int32) (w4x : (Nat → Int32)), lp (u2 (b_X4_removeOne_1 clogs)) n (j3, w4) = some (j3x, w4x) → ∀ (H : Heap) (locs : List Loc) (ls : Array Slot), PD (dC, dI) A s.heap [(q0, .inr (4, [.ref q1, .int clogs, .int day])), (q1, .inl (cc 0, 50, .inl w4))] H locs → lv_has ls 3 [(0, .ref q0), (2, .int j3)] → (∀ (H : Heap) (locs : List Loc) (ls : Array Slot), PD (dC, dI) A s.heap [(q0, .inr (4, [.ref q1, .int clogs, .int day])), (q1, .inl (cc 0, 50, .inl w4x))] H locs → lv_has ls 3 [(0, .ref q0), (2, .int j3x)] → W p l e ({ frames := 2, cells := 0, slots := 0, locals := 43 } : Room) s m ([.ref q0, .int x1] : List Value).toArray below meth c H locs 0 0 Z (F0 m 48 ls [])) → W p l e ({ frames := 2, cells := 0, slots := 0, locals := 43 } : Room) s m ([.ref q0, .int x1] : List Value).toArray below meth c H locs 0 0 Z (F0 m 12 ls []) := by
      intro n
      induction n with
      | zero => intro j3 w4 j3x w4x h; exact (lp_0 h).elim
      | succ n ih =>
        intro j3 w4 j3x w4x h H locs ls hP hl KK
        obtain ⟨y, h, hz⟩ := lp_h h
        refine lv_iload_n hx hb dX4_removeOne_12 rfl (lv_at hl 1 rfl) ?_
        refine lv_aload_n hx hb dX4_removeOne_13 rfl (lv_at hl 0 rfl) ?_
        refine g_get hC hP fg_X4_15 0 rfl rfl dX4_removeOne_14 ?_
        refine lv_iconst (v := 1) hx hb dX4_removeOne_17 (by decide) ?_
        refine lv_isub hx hb dX4_removeOne_18 ?_
        refine lv_iconst (v := 5) hx hb dX4_removeOne_19 (by decide) ?_
        refine lv_imul hx hb dX4_removeOne_20 ?_
        refine lv_icmp_ge (tgt := 48) hx hb dX4_removeOne_21 (by decide) (fun c5 => ?_) (fun c5 => ?_)
        · have h := if_t c5 h
          cases lp_e h hz
          exact KK H locs ls hP (lv_sub hl [0, 1] rfl)
        · have h := if_f c5 h
          refine lv_aload_n hx hb dX4_removeOne_24 rfl (lv_at hl 0 rfl) ?_
          refine g_get hC hP fg_X4_9 0 rfl rfl dX4_removeOne_25 ?_
          refine lv_iload_n hx hb dX4_removeOne_28 rfl (lv_at hl 1 rfl) ?_
          refine lv_aload_n hx hb dX4_removeOne_29 rfl (lv_at hl 0 rfl) ?_
          refine g_get hC hP fg_X4_9 0 rfl rfl dX4_removeOne_30 ?_
          refine lv_iload_n hx hb dX4_removeOne_33 rfl (lv_at hl 1 rfl) ?_
          refine lv_iconst (v := 5) hx hb dX4_removeOne_34 (by decide) ?_
          refine lv_iadd hx hb dX4_removeOne_35 ?_
          obtain ⟨r6, hu, h⟩ := bnd_h h
          refine kc_i (kN hC (c_X9_at l dC dI cc q1 50 w4 (j3 + 5) H.size r6 hu) cn_X4_58 kw332 rfl rfl ⟨(Nat.le_of_ble_eq_true rfl), (Nat.le_of_ble_eq_true rfl)⟩ hP [1] rfl rfl (As := [.ref q1, .int (j3 + 5)]) (rest := [.int j3, .ref q1]) rfl rfl hl.1 (Nat.le_of_ble_eq_true rfl) dX4_removeOne_36 ⟨Nat.zero_le _, Nat.zero_le _⟩) hP hA [1] rfl rfl (fun H locs hP => ?_)
          have hP : PD (dC, dI) A s.heap [(q0, .inr (4, [.ref q1, .int clogs, .int day])), (q1, .inl (cc 0, 50, .inl w4))] H locs := hP
          obtain ⟨w7, hu, h⟩ := bnd_h h
          refine kc_v (kN hC (c_X9_put l dC dI cc q1 50 w4 j3 r6 H.size w7 hu) cn_X4_34 kw320 rfl rfl ⟨(Nat.le_of_ble_eq_true rfl), (Nat.le_of_ble_eq_true rfl)⟩ hP [1] rfl rfl (As := [.ref q1, .int j3, .int r6]) (rest := []) rfl rfl hl.1 (Nat.le_of_ble_eq_true rfl) dX4_removeOne_39 ⟨Nat.zero_le _, Nat.zero_le _⟩) hP hA [1] rfl rfl (fun H locs hP => ?_)
          have hP : PD (dC, dI) A s.heap [(q0, .inr (4, [.ref q1, .int clogs, .int day])), (q1, .inl (cc 0, 50, .inl w7))] H locs := hP
          refine lv_iinc (v := (j3 + 1)) (lv' := [(2, .int (j3 + 1)), (0, .ref q0)]) hx hb dX4_removeOne_42 hl (k := 1) rfl rfl (by decide) rfl (fun ls hl => ?_)
          refine lv_goto (tgt := 12) hx hb dX4_removeOne_45 (by decide) ?_
          exact ih _ _ _ _ (lp_n h hz) H locs ls hP (lv_sub hl [1, 0] rfl) KK
    refine L1 FU _ _ j3x w4x hlp H locs ls hP (lv_sub hl [1, 0] rfl) (fun H locs ls hP hl => ?_)
    refine lv_aload_n hx hb dX4_removeOne_48 rfl (lv_at hl 0 rfl) ?_
    refine lv_dup hx hb dX4_removeOne_49 rfl ?_
    refine g_get hC hP fg_X4_15 0 rfl rfl dX4_removeOne_50 ?_
    refine lv_iconst (v := 1) hx hb dX4_removeOne_53 (by decide) ?_
    refine lv_isub hx hb dX4_removeOne_54 ?_
    refine g_put hC hP fg_X4_15 0 rfl rfl rfl (Nat.le_of_ble_eq_true rfl) dX4_removeOne_55 (fun H locs hP => ?_)
    have hP : PD (dC, dI) A s.heap [(q0, .inr (4, [.ref q1, .int (clogs - 1), .int day])), (q1, .inl (cc 0, 50, .inl w4x))] H locs := hP
    rw [eZ]
    exact ret_v hC hr hlk hP dX4_removeOne_58 (w4x, (clogs - 1)) (Option.some.inj h) rfl
set_option maxHeartbeats 8000000 in
set_option maxRecDepth 100000 in
theorem c_X4_removeTwo (l : Launch) (dC : Nat → ClassId) (dI : Nat → Nat → Nat) (cc : Nat → ClassId) (q0 q1 : Nat) (clogs : Int32) (day : Int32) (cells : (Nat → Int32)) (x1 : Int32) (x2 : Int32) (sz : Nat) (o_cells : (Nat → Int32)) (o_clogs : Int32) (hu : f_X4_removeTwo x1 x2 clogs cells = some (o_cells, o_clogs)) : Met l yX4_removeTwo (mw yX4_removeTwo cX4_removeTwo 3 none) ({ frames := 3, cells := 0, slots := 0, locals := 65 } : Room) (va_Pc [.ref q0, .int x1, .int x2] (mP (dC, dI) (ts cc) sz [(q0, .inr (4, [.ref q1, .int clogs, .int day])), (q1, .inl (cc 0, 50, .inl cells))])) ((fun A => va_Qv (fun (w : (Nat → Int32) × Int32) => w = (o_cells, o_clogs)) (fun (w : (Nat → Int32) × Int32) t => va_P (dC, dI) classes [(q0, .inr (4, [.ref q1, .int w.2, .int day])), (q1, .inl (cc 0, 50, .inl w.1))] t.heap) A) (va_A [(q0, .inr (4, [.ref q1, .int clogs, .int day])), (q1, .inl (cc 0, 50, .inl cells))] sz)) 0 0 (va_A [(q0, .inr (4, [.ref q1, .int clogs, .int day])), (q1, .inl (cc 0, 50, .inl cells))] sz) := by
  refine met_go (Qc := fun A => va_Qv (fun (w : (Nat → Int32) × Int32) => w = (o_cells, o_clogs)) (fun (w : (Nat → Int32) × Int32) t => va_P (dC, dI) classes [(q0, .inr (4, [.ref q1, .int w.2, .int day])), (q1, .inl (cc 0, 50, .inl w.1))] t.heap) A) (by decide) (Nat.le_of_ble_eq_true rfl) ?_
  intro p e s m below meth c A ls H locs hC hr hlk hin hA hP hl _
  have hC : CX p m c cX4_removeTwo 3 s ([.ref q0, .int x1, .int x2] : List Value).toArray RX4 (dC, dI) (ts cc) := hC
  have hx := hC.1.1
  have hb := hC.1.2
  have h := hu
  have hu0 := hu
  unfold f_X4_removeTwo at h
  have hl : lv_has ls 3 [(0, .ref q0), (1, .int x1), (2, .int x2)] := hl
  refine lv_aload_n hx hb dX4_removeTwo_0 rfl (lv_at hl 0 rfl) ?_
  refine lv_iload_n hx hb dX4_removeTwo_1 rfl (lv_at hl 1 rfl) ?_
  refine lv_iload_n hx hb dX4_removeTwo_2 rfl (lv_at hl 2 rfl) ?_
  refine g_max hC hl.1 mh_X4_46 (Nat.le_of_ble_eq_true rfl) (Nat.le_of_ble_eq_true rfl) (Nat.zero_le _) (Nat.zero_le _) dX4_removeTwo_3 ?_
  refine lv_topi (fun v1 ev => ?_)
  have h := nm_h ev h
  obtain ⟨⟨w2, w3⟩, hu, h⟩ := bnd_h h
  refine kc_v (kV hC (c_X4_removeOne l dC dI cc q0 q1 clogs day cells v1 H.size w2 w3 hu) cv_X4_51 kw532 rfl rfl ⟨(Nat.le_of_ble_eq_true rfl), (Nat.le_of_ble_eq_true rfl)⟩ hP [0, 1] rfl rfl rfl (q0 := 0) rfl (As := [.int v1]) (rest := []) rfl rfl hl.1 (Nat.le_of_ble_eq_true rfl) dX4_removeTwo_6 ⟨Nat.zero_le _, Nat.zero_le _⟩) hP hA [0, 1] rfl rfl (fun H locs hP => ?_)
  have hP : PD (dC, dI) A s.heap [(q0, .inr (4, [.ref q1, .int w3, .int day])), (q1, .inl (cc 0, 50, .inl w2))] H locs := hP
  refine lv_aload_n hx hb dX4_removeTwo_9 rfl (lv_at hl 0 rfl) ?_
  refine lv_iload_n hx hb dX4_removeTwo_10 rfl (lv_at hl 1 rfl) ?_
  refine lv_iload_n hx hb dX4_removeTwo_11 rfl (lv_at hl 2 rfl) ?_
  refine g_min hC hl.1 mh_X4_55 (Nat.le_of_ble_eq_true rfl) (Nat.le_of_ble_eq_true rfl) (Nat.zero_le _) (Nat.zero_le _) dX4_removeTwo_12 ?_
  refine lv_topi (fun v4 ev => ?_)
  have h := nm_h ev h
  obtain ⟨⟨w5, w6⟩, hu, h⟩ := bnd_h h
  refine kc_v (kV hC (c_X4_removeOne l dC dI cc q0 q1 w3 day w2 v4 H.size w5 w6 hu) cv_X4_51 kw532 rfl rfl ⟨(Nat.le_of_ble_eq_true rfl), (Nat.le_of_ble_eq_true rfl)⟩ hP [0, 1] rfl rfl rfl (q0 := 0) rfl (As := [.int v4]) (rest := []) rfl rfl hl.1 (Nat.le_of_ble_eq_true rfl) dX4_removeTwo_15 ⟨Nat.zero_le _, Nat.zero_le _⟩) hP hA [0, 1] rfl rfl (fun H locs hP => ?_)
  have hP : PD (dC, dI) A s.heap [(q0, .inr (4, [.ref q1, .int w6, .int day])), (q1, .inl (cc 0, 50, .inl w5))] H locs := hP
  exact ret_v hC hr hlk hP dX4_removeTwo_18 (w5, w6) (Option.some.inj h) rfl
set_option maxHeartbeats 8000000 in
set_option maxRecDepth 100000 in
theorem c_X4_driedBy (l : Launch) (dC : Nat → ClassId) (dI : Nat → Nat → Nat) (cc : Nat → ClassId) (q0 q1 : Nat) (clogs : Int32) (day : Int32) (cells : (Nat → Int32)) (x1 : Int32) (x2 : Int32) (sz : Nat) (ret : Int32) (hu : f_X4_driedBy x1 x2 clogs cells = some ret) : Met l yX4_driedBy (mw yX4_driedBy cX4_driedBy 3 (some .int)) ({ frames := 1, cells := 0, slots := 0, locals := 23 } : Room) (va_Pc [.ref q0, .int x1, .int x2] (mP (dC, dI) (ts cc) sz [(q0, .inr (4, [.ref q1, .int clogs, .int day])), (q1, .inl (cc 0, 50, .inl cells))])) ((fun A => va_Qi (fun (r : Int32) (w : Unit) => r = ret ∧ w = ()) (fun (w : Unit) t => va_P (dC, dI) classes [(q0, .inr (4, [.ref q1, .int clogs, .int day])), (q1, .inl (cc 0, 50, .inl cells))] t.heap) A) (va_A [(q0, .inr (4, [.ref q1, .int clogs, .int day])), (q1, .inl (cc 0, 50, .inl cells))] sz)) 0 0 (va_A [(q0, .inr (4, [.ref q1, .int clogs, .int day])), (q1, .inl (cc 0, 50, .inl cells))] sz) := by
  refine met_go (Qc := fun A => va_Qi (fun (r : Int32) (w : Unit) => r = ret ∧ w = ()) (fun (w : Unit) t => va_P (dC, dI) classes [(q0, .inr (4, [.ref q1, .int clogs, .int day])), (q1, .inl (cc 0, 50, .inl cells))] t.heap) A) (by decide) (Nat.le_of_ble_eq_true rfl) ?_
  intro p e s m below meth c A ls H locs hC hr hlk hin hA hP hl _
  have hC : CX p m c cX4_driedBy 3 s ([.ref q0, .int x1, .int x2] : List Value).toArray RX4 (dC, dI) (ts cc) := hC
  have hx := hC.1.1
  have hb := hC.1.2
  have h := hu
  have hu0 := hu
  unfold f_X4_driedBy at h
  have hl : lv_has ls 3 [(0, .ref q0), (1, .int x1), (2, .int x2)] := hl
  refine lv_aload_n hx hb dX4_driedBy_0 rfl (lv_at hl 0 rfl) ?_
  refine lv_iload_n hx hb dX4_driedBy_1 rfl (lv_at hl 1 rfl) ?_
  refine lv_iconst (v := 0) hx hb dX4_driedBy_2 (by decide) ?_
  obtain ⟨r1, hu, h⟩ := bnd_h h
  refine kc_i (kV hC (c_X4_cell l dC dI cc q0 q1 clogs day cells x1 0 H.size r1 hu) cv_X4_38 kw463 rfl rfl ⟨(Nat.le_of_ble_eq_true rfl), (Nat.le_of_ble_eq_true rfl)⟩ hP [0, 1] rfl rfl rfl (q0 := 0) rfl (As := [.int x1, .int 0]) (rest := []) rfl rfl hl.1 (Nat.le_of_ble_eq_true rfl) dX4_driedBy_3 ⟨Nat.zero_le _, Nat.zero_le _⟩) hP hA [0, 1] rfl rfl (fun H locs hP => ?_)
  have hP : PD (dC, dI) A s.heap [(q0, .inr (4, [.ref q1, .int clogs, .int day])), (q1, .inl (cc 0, 50, .inl cells))] H locs := hP
  refine lv_iconst (v := 1) hx hb dX4_driedBy_6 (by decide) ?_
  refine lv_icmp_ne (tgt := 30) hx hb dX4_driedBy_7 (by decide) (fun c2 => ?_) (fun c2 => ?_)
  · have h := if_f c2 h
    refine lv_iconst (v := 0) hx hb dX4_driedBy_30 (by decide) ?_
    exact ret_i hC hr hlk hP dX4_driedBy_31 () (⟨Option.some.inj h, rfl⟩) rfl
  · have h := if_t c2 h
    refine lv_bipush (v := 30) hx hb dX4_driedBy_10 (by decide) ?_
    refine lv_iconst (v := 0) hx hb dX4_driedBy_12 (by decide) ?_
    refine lv_iload_n hx hb dX4_driedBy_13 rfl (lv_at hl 2 rfl) ?_
    refine lv_aload_n hx hb dX4_driedBy_14 rfl (lv_at hl 0 rfl) ?_
    refine lv_iload_n hx hb dX4_driedBy_15 rfl (lv_at hl 1 rfl) ?_
    refine lv_iconst (v := 4) hx hb dX4_driedBy_16 (by decide) ?_
    obtain ⟨r3, hu, h⟩ := bnd_h h
    refine kc_i (kV hC (c_X4_cell l dC dI cc q0 q1 clogs day cells x1 4 H.size r3 hu) cv_X4_38 kw463 rfl rfl ⟨(Nat.le_of_ble_eq_true rfl), (Nat.le_of_ble_eq_true rfl)⟩ hP [0, 1] rfl rfl rfl (q0 := 0) rfl (As := [.int x1, .int 4]) (rest := [.int x2, .int 0, .int 30]) rfl rfl hl.1 (Nat.le_of_ble_eq_true rfl) dX4_driedBy_17 ⟨Nat.zero_le _, Nat.zero_le _⟩) hP hA [0, 1] rfl rfl (fun H locs hP => ?_)
    have hP : PD (dC, dI) A s.heap [(q0, .inr (4, [.ref q1, .int clogs, .int day])), (q1, .inl (cc 0, 50, .inl cells))] H locs := hP
    refine lv_isub hx hb dX4_driedBy_20 ?_
    refine g_max hC hl.1 mh_X4_46 (Nat.le_of_ble_eq_true rfl) (Nat.le_of_ble_eq_true rfl) (Nat.zero_le _) (Nat.zero_le _) dX4_driedBy_21 ?_
    refine lv_topi (fun v4 ev => ?_)
    have h := nm_h ev h
    refine g_min hC hl.1 mh_X4_55 (Nat.le_of_ble_eq_true rfl) (Nat.le_of_ble_eq_true rfl) (Nat.zero_le _) (Nat.zero_le _) dX4_driedBy_24 ?_
    refine lv_topi (fun v5 ev => ?_)
    have h := nm_h ev h
    refine lv_goto (tgt := 31) hx hb dX4_driedBy_27 (by decide) ?_
    exact ret_i hC hr hlk hP dX4_driedBy_31 () (⟨Option.some.inj h, rfl⟩) rfl
set_option maxHeartbeats 8000000 in
set_option maxRecDepth 100000 in
theorem c_X4_sizeOn (l : Launch) (dC : Nat → ClassId) (dI : Nat → Nat → Nat) (cc : Nat → ClassId) (q0 q1 : Nat) (clogs : Int32) (day : Int32) (cells : (Nat → Int32)) (x1 : Int32) (x2 : Int32) (sz : Nat) (ret : Int32) (hu : f_X4_sizeOn x1 x2 clogs cells = some ret) : Met l yX4_sizeOn (mw yX4_sizeOn cX4_sizeOn 4 (some .int)) ({ frames := 2, cells := 0, slots := 0, locals := 45 } : Room) (va_Pc [.ref q0, .int x1, .int x2] (mP (dC, dI) (ts cc) sz [(q0, .inr (4, [.ref q1, .int clogs, .int day])), (q1, .inl (cc 0, 50, .inl cells))])) ((fun A => va_Qi (fun (r : Int32) (w : Unit) => r = ret ∧ w = ()) (fun (w : Unit) t => va_P (dC, dI) classes [(q0, .inr (4, [.ref q1, .int clogs, .int day])), (q1, .inl (cc 0, 50, .inl cells))] t.heap) A) (va_A [(q0, .inr (4, [.ref q1, .int clogs, .int day])), (q1, .inl (cc 0, 50, .inl cells))] sz)) 0 0 (va_A [(q0, .inr (4, [.ref q1, .int clogs, .int day])), (q1, .inl (cc 0, 50, .inl cells))] sz) := by
  refine met_go (Qc := fun A => va_Qi (fun (r : Int32) (w : Unit) => r = ret ∧ w = ()) (fun (w : Unit) t => va_P (dC, dI) classes [(q0, .inr (4, [.ref q1, .int clogs, .int day])), (q1, .inl (cc 0, 50, .inl cells))] t.heap) A) (by decide) (Nat.le_of_ble_eq_true rfl) ?_
  intro p e s m below meth c A ls H locs hC hr hlk hin hA hP hl _
  have hC : CX p m c cX4_sizeOn 4 s ([.ref q0, .int x1, .int x2] : List Value).toArray RX4 (dC, dI) (ts cc) := hC
  have hx := hC.1.1
  have hb := hC.1.2
  have h := hu
  have hu0 := hu
  unfold f_X4_sizeOn at h
  have hl : lv_has ls 4 [(0, .ref q0), (1, .int x1), (2, .int x2)] := hl
  refine lv_aload_n hx hb dX4_sizeOn_0 rfl (lv_at hl 0 rfl) ?_
  refine lv_iload_n hx hb dX4_sizeOn_1 rfl (lv_at hl 1 rfl) ?_
  refine lv_iconst (v := 2) hx hb dX4_sizeOn_2 (by decide) ?_
  obtain ⟨r1, hu, h⟩ := bnd_h h
  refine kc_i (kV hC (c_X4_cell l dC dI cc q0 q1 clogs day cells x1 2 H.size r1 hu) cv_X4_38 kw463 rfl rfl ⟨(Nat.le_of_ble_eq_true rfl), (Nat.le_of_ble_eq_true rfl)⟩ hP [0, 1] rfl rfl rfl (q0 := 0) rfl (As := [.int x1, .int 2]) (rest := []) rfl rfl hl.1 (Nat.le_of_ble_eq_true rfl) dX4_sizeOn_3 ⟨Nat.zero_le _, Nat.zero_le _⟩) hP hA [0, 1] rfl rfl (fun H locs hP => ?_)
  have hP : PD (dC, dI) A s.heap [(q0, .inr (4, [.ref q1, .int clogs, .int day])), (q1, .inl (cc 0, 50, .inl cells))] H locs := hP
  refine lv_istore_n (lv' := [(3, .int r1), (0, .ref q0), (1, .int x1), (2, .int x2)]) hx hb dX4_sizeOn_6 rfl hl (by decide) rfl (fun ls hl => ?_)
  refine lv_iload_n hx hb dX4_sizeOn_7 rfl (lv_at hl 0 rfl) ?_
  refine lv_iload_n hx hb dX4_sizeOn_8 rfl (lv_at hl 0 rfl) ?_
  refine lv_aload_n hx hb dX4_sizeOn_9 rfl (lv_at hl 1 rfl) ?_
  refine lv_iload_n hx hb dX4_sizeOn_10 rfl (lv_at hl 2 rfl) ?_
  refine lv_iload_n hx hb dX4_sizeOn_11 rfl (lv_at hl 3 rfl) ?_
  obtain ⟨r2, hu, h⟩ := bnd_h h
  refine kc_i (kV hC (c_X4_driedBy l dC dI cc q0 q1 clogs day cells x1 x2 H.size r2 hu) cv_X4_62 kw467 rfl rfl ⟨(Nat.le_of_ble_eq_true rfl), (Nat.le_of_ble_eq_true rfl)⟩ hP [0, 1] rfl rfl rfl (q0 := 0) rfl (As := [.int x1, .int x2]) (rest := [.int r1, .int r1]) rfl rfl hl.1 (Nat.le_of_ble_eq_true rfl) dX4_sizeOn_12 ⟨Nat.zero_le _, Nat.zero_le _⟩) hP hA [0, 1] rfl rfl (fun H locs hP => ?_)
  have hP : PD (dC, dI) A s.heap [(q0, .inr (4, [.ref q1, .int clogs, .int day])), (q1, .inl (cc 0, 50, .inl cells))] H locs := hP
  refine lv_imul hx hb dX4_sizeOn_15 ?_
  refine lv_sipush (v := 360) hx hb dX4_sizeOn_16 (by decide) ?_
  refine lv_idiv hx hb dX4_sizeOn_19 (by decide) ?_
  refine lv_isub hx hb dX4_sizeOn_20 ?_
  exact ret_i hC hr hlk hP dX4_sizeOn_21 () (⟨Option.some.inj h, rfl⟩) rfl
set_option maxHeartbeats 8000000 in
set_option maxRecDepth 100000 in
theorem c_X4_weightOn (l : Launch) (dC : Nat → ClassId) (dI : Nat → Nat → Nat) (cc : Nat → ClassId) (q0 q1 : Nat) (clogs : Int32) (day : Int32) (cells : (Nat → Int32)) (x1 : Int32) (x2 : Int32) (sz : Nat) (ret : Int32) (hu : f_X4_weightOn x1 x2 clogs cells = some ret) : Met l yX4_weightOn (mw yX4_weightOn cX4_weightOn 5 (some .int)) ({ frames := 2, cells := 0, slots := 0, locals := 45 } : Room) (va_Pc [.ref q0, .int x1, .int x2] (mP (dC, dI) (ts cc) sz [(q0, .inr (4, [.ref q1, .int clogs, .int day])), (q1, .inl (cc 0, 50, .inl cells))])) ((fun A => va_Qi (fun (r : Int32) (w : Unit) => r = ret ∧ w = ()) (fun (w : Unit) t => va_P (dC, dI) classes [(q0, .inr (4, [.ref q1, .int clogs, .int day])), (q1, .inl (cc 0, 50, .inl cells))] t.heap) A) (va_A [(q0, .inr (4, [.ref q1, .int clogs, .int day])), (q1, .inl (cc 0, 50, .inl cells))] sz)) 0 0 (va_A [(q0, .inr (4, [.ref q1, .int clogs, .int day])), (q1, .inl (cc 0, 50, .inl cells))] sz) := by
  refine met_go (Qc := fun A => va_Qi (fun (r : Int32) (w : Unit) => r = ret ∧ w = ()) (fun (w : Unit) t => va_P (dC, dI) classes [(q0, .inr (4, [.ref q1, .int clogs, .int day])), (q1, .inl (cc 0, 50, .inl cells))] t.heap) A) (by decide) (Nat.le_of_ble_eq_true rfl) ?_
  intro p e s m below meth c A ls H locs hC hr hlk hin hA hP hl _
  have hC : CX p m c cX4_weightOn 5 s ([.ref q0, .int x1, .int x2] : List Value).toArray RX4 (dC, dI) (ts cc) := hC
  have hx := hC.1.1
  have hb := hC.1.2
  have h := hu
  have hu0 := hu
  unfold f_X4_weightOn at h
  have hl : lv_has ls 5 [(0, .ref q0), (1, .int x1), (2, .int x2)] := hl
  refine lv_aload_n hx hb dX4_weightOn_0 rfl (lv_at hl 0 rfl) ?_
  refine lv_iload_n hx hb dX4_weightOn_1 rfl (lv_at hl 1 rfl) ?_
  refine lv_iconst (v := 3) hx hb dX4_weightOn_2 (by decide) ?_
  obtain ⟨r1, hu, h⟩ := bnd_h h
  refine kc_i (kV hC (c_X4_cell l dC dI cc q0 q1 clogs day cells x1 3 H.size r1 hu) cv_X4_38 kw463 rfl rfl ⟨(Nat.le_of_ble_eq_true rfl), (Nat.le_of_ble_eq_true rfl)⟩ hP [0, 1] rfl rfl rfl (q0 := 0) rfl (As := [.int x1, .int 3]) (rest := []) rfl rfl hl.1 (Nat.le_of_ble_eq_true rfl) dX4_weightOn_3 ⟨Nat.zero_le _, Nat.zero_le _⟩) hP hA [0, 1] rfl rfl (fun H locs hP => ?_)
  have hP : PD (dC, dI) A s.heap [(q0, .inr (4, [.ref q1, .int clogs, .int day])), (q1, .inl (cc 0, 50, .inl cells))] H locs := hP
  refine lv_istore_n (lv' := [(3, .int r1), (0, .ref q0), (1, .int x1), (2, .int x2)]) hx hb dX4_weightOn_6 rfl hl (by decide) rfl (fun ls hl => ?_)
  refine lv_aload_n hx hb dX4_weightOn_7 rfl (lv_at hl 1 rfl) ?_
  refine lv_iload_n hx hb dX4_weightOn_8 rfl (lv_at hl 2 rfl) ?_
  refine lv_iconst (v := 0) hx hb dX4_weightOn_9 (by decide) ?_
  obtain ⟨r2, hu, h⟩ := bnd_h h
  refine kc_i (kV hC (c_X4_cell l dC dI cc q0 q1 clogs day cells x1 0 H.size r2 hu) cv_X4_38 kw463 rfl rfl ⟨(Nat.le_of_ble_eq_true rfl), (Nat.le_of_ble_eq_true rfl)⟩ hP [0, 1] rfl rfl rfl (q0 := 0) rfl (As := [.int x1, .int 0]) (rest := []) rfl rfl hl.1 (Nat.le_of_ble_eq_true rfl) dX4_weightOn_10 ⟨Nat.zero_le _, Nat.zero_le _⟩) hP hA [0, 1] rfl rfl (fun H locs hP => ?_)
  have hP : PD (dC, dI) A s.heap [(q0, .inr (4, [.ref q1, .int clogs, .int day])), (q1, .inl (cc 0, 50, .inl cells))] H locs := hP
  refine lv_iconst (v := 3) hx hb dX4_weightOn_13 (by decide) ?_
  refine lv_icmp_ne (tgt := 21) hx hb dX4_weightOn_14 (by decide) (fun c3 => ?_) (fun c3 => ?_)
  · have h := if_f c3 h
    refine lv_iconst (v := 0) hx hb dX4_weightOn_21 (by decide) ?_
    refine lv_istore (lv' := [(4, .int 0), (3, .int r1), (0, .ref q0), (1, .int x1), (2, .int x2)]) hx hb dX4_weightOn_22 hl (by decide) rfl (fun ls hl => ?_)
    refine lv_iload_n hx hb dX4_weightOn_24 rfl (lv_at hl 1 rfl) ?_
    refine lv_iload_n hx hb dX4_weightOn_25 rfl (lv_at hl 1 rfl) ?_
    refine lv_aload_n hx hb dX4_weightOn_26 rfl (lv_at hl 2 rfl) ?_
    refine lv_iload_n hx hb dX4_weightOn_27 rfl (lv_at hl 3 rfl) ?_
    refine lv_iload_n hx hb dX4_weightOn_28 rfl (lv_at hl 4 rfl) ?_
    obtain ⟨r4, hu, h⟩ := bnd_h h
    refine kc_i (kV hC (c_X4_driedBy l dC dI cc q0 q1 clogs day cells x1 x2 H.size r4 hu) cv_X4_62 kw467 rfl rfl ⟨(Nat.le_of_ble_eq_true rfl), (Nat.le_of_ble_eq_true rfl)⟩ hP [0, 1] rfl rfl rfl (q0 := 0) rfl (As := [.int x1, .int x2]) (rest := [.int r1, .int r1]) rfl rfl hl.1 (Nat.le_of_ble_eq_true rfl) dX4_weightOn_29 ⟨Nat.zero_le _, Nat.zero_le _⟩) hP hA [0, 1] rfl rfl (fun H locs hP => ?_)
    have hP : PD (dC, dI) A s.heap [(q0, .inr (4, [.ref q1, .int clogs, .int day])), (q1, .inl (cc 0, 50, .inl cells))] H locs := hP
    refine lv_imul hx hb dX4_weightOn_32 ?_
    refine lv_bipush (v := 90) hx hb dX4_weightOn_33 (by decide) ?_
    refine lv_idiv hx hb dX4_weightOn_35 (by decide) ?_
    refine lv_isub hx hb dX4_weightOn_36 ?_
    refine lv_iload hx hb dX4_weightOn_37 (lv_at hl 0 rfl) ?_
    refine lv_iadd hx hb dX4_weightOn_39 ?_
    exact ret_i hC hr hlk hP dX4_weightOn_40 () (⟨Option.some.inj h, rfl⟩) rfl
  · have h := if_t c3 h
    refine lv_iconst (v := 2) hx hb dX4_weightOn_17 (by decide) ?_
    refine lv_goto (tgt := 22) hx hb dX4_weightOn_18 (by decide) ?_
    refine lv_istore (lv' := [(4, .int 2), (3, .int r1), (0, .ref q0), (1, .int x1), (2, .int x2)]) hx hb dX4_weightOn_22 hl (by decide) rfl (fun ls hl => ?_)
    refine lv_iload_n hx hb dX4_weightOn_24 rfl (lv_at hl 1 rfl) ?_
    refine lv_iload_n hx hb dX4_weightOn_25 rfl (lv_at hl 1 rfl) ?_
    refine lv_aload_n hx hb dX4_weightOn_26 rfl (lv_at hl 2 rfl) ?_
    refine lv_iload_n hx hb dX4_weightOn_27 rfl (lv_at hl 3 rfl) ?_
    refine lv_iload_n hx hb dX4_weightOn_28 rfl (lv_at hl 4 rfl) ?_
    obtain ⟨r5, hu, h⟩ := bnd_h h
    refine kc_i (kV hC (c_X4_driedBy l dC dI cc q0 q1 clogs day cells x1 x2 H.size r5 hu) cv_X4_62 kw467 rfl rfl ⟨(Nat.le_of_ble_eq_true rfl), (Nat.le_of_ble_eq_true rfl)⟩ hP [0, 1] rfl rfl rfl (q0 := 0) rfl (As := [.int x1, .int x2]) (rest := [.int r1, .int r1]) rfl rfl hl.1 (Nat.le_of_ble_eq_true rfl) dX4_weightOn_29 ⟨Nat.zero_le _, Nat.zero_le _⟩) hP hA [0, 1] rfl rfl (fun H locs hP => ?_)
    have hP : PD (dC, dI) A s.heap [(q0, .inr (4, [.ref q1, .int clogs, .int day])), (q1, .inl (cc 0, 50, .inl cells))] H locs := hP
    refine lv_imul hx hb dX4_weightOn_32 ?_
    refine lv_bipush (v := 90) hx hb dX4_weightOn_33 (by decide) ?_
    refine lv_idiv hx hb dX4_weightOn_35 (by decide) ?_
    refine lv_isub hx hb dX4_weightOn_36 ?_
    refine lv_iload hx hb dX4_weightOn_37 (lv_at hl 0 rfl) ?_
    refine lv_iadd hx hb dX4_weightOn_39 ?_
    exact ret_i hC hr hlk hP dX4_weightOn_40 () (⟨Option.some.inj h, rfl⟩) rfl
set_option maxHeartbeats 8000000 in
set_option maxRecDepth 100000 in
theorem c_X4_areAlikeOn (l : Launch) (dC : Nat → ClassId) (dI : Nat → Nat → Nat) (cc : Nat → ClassId) (q0 q1 : Nat) (clogs : Int32) (day : Int32) (cells : (Nat → Int32)) (x1 : Int32) (x2 : Int32) (x3 : Int32) (sz : Nat) (ret : Int32) (hu : f_X4_areAlikeOn x1 x2 x3 clogs cells = some ret) : Met l yX4_areAlikeOn (mw yX4_areAlikeOn cX4_areAlikeOn 4 (some .boolean)) ({ frames := 3, cells := 0, slots := 0, locals := 69 } : Room) (va_Pc [.ref q0, .int x1, .int x2, .int x3] (mP (dC, dI) (ts cc) sz [(q0, .inr (4, [.ref q1, .int clogs, .int day])), (q1, .inl (cc 0, 50, .inl cells))])) ((fun A => va_Qi (fun (r : Int32) (w : Unit) => narrow .boolean (.int r) = .int r ∧ (r = ret ∧ w = ())) (fun (w : Unit) t => va_P (dC, dI) classes [(q0, .inr (4, [.ref q1, .int clogs, .int day])), (q1, .inl (cc 0, 50, .inl cells))] t.heap) A) (va_A [(q0, .inr (4, [.ref q1, .int clogs, .int day])), (q1, .inl (cc 0, 50, .inl cells))] sz)) 0 0 (va_A [(q0, .inr (4, [.ref q1, .int clogs, .int day])), (q1, .inl (cc 0, 50, .inl cells))] sz) := by
  refine met_go (Qc := fun A => va_Qi (fun (r : Int32) (w : Unit) => narrow .boolean (.int r) = .int r ∧ (r = ret ∧ w = ())) (fun (w : Unit) t => va_P (dC, dI) classes [(q0, .inr (4, [.ref q1, .int clogs, .int day])), (q1, .inl (cc 0, 50, .inl cells))] t.heap) A) (by decide) (Nat.le_of_ble_eq_true rfl) ?_
  intro p e s m below meth c A ls H locs hC hr hlk hin hA hP hl _
  have hC : CX p m c cX4_areAlikeOn 4 s ([.ref q0, .int x1, .int x2, .int x3] : List Value).toArray RX4 (dC, dI) (ts cc) := hC
  have hx := hC.1.1
  have hb := hC.1.2
  have h := hu
  have hu0 := hu
  unfold f_X4_areAlikeOn at h
  have hl : lv_has ls 4 [(0, .ref q0), (1, .int x1), (2, .int x2), (3, .int x3)] := hl
  refine lv_aload_n hx hb dX4_areAlikeOn_0 rfl (lv_at hl 0 rfl) ?_
  refine lv_iload_n hx hb dX4_areAlikeOn_1 rfl (lv_at hl 1 rfl) ?_
  refine lv_iconst (v := 0) hx hb dX4_areAlikeOn_2 (by decide) ?_
  obtain ⟨r1, hu, h⟩ := bnd_h h
  refine kc_z (kV hC (c_X4_isOfSide l dC dI cc q0 q1 clogs day cells x1 0 H.size r1 hu) cv_X4_42 kw518 rfl rfl ⟨(Nat.le_of_ble_eq_true rfl), (Nat.le_of_ble_eq_true rfl)⟩ hP [0, 1] rfl rfl rfl (q0 := 0) rfl (As := [.int x1, .int 0]) (rest := []) rfl rfl hl.1 (Nat.le_of_ble_eq_true rfl) dX4_areAlikeOn_3 ⟨Nat.zero_le _, Nat.zero_le _⟩) hP hA [0, 1] rfl rfl (fun hz_r1 H locs hP => ?_)
  have hP : PD (dC, dI) A s.heap [(q0, .inr (4, [.ref q1, .int clogs, .int day])), (q1, .inl (cc 0, 50, .inl cells))] H locs := hP
  refine lv_if_eq (tgt := 82) hx hb dX4_areAlikeOn_6 (by decide) (fun c2 => ?_) (fun c2 => ?_)
  · have h := if_t c2 h
    refine lv_iconst (v := 0) hx hb dX4_areAlikeOn_82 (by decide) ?_
    exact ret_z hC hr rfl hlk hP dX4_areAlikeOn_83 () (⟨Option.some.inj h, rfl⟩) rfl
  · have h := if_f c2 h
    refine lv_aload_n hx hb dX4_areAlikeOn_9 rfl (lv_at hl 0 rfl) ?_
    refine lv_iload_n hx hb dX4_areAlikeOn_10 rfl (lv_at hl 2 rfl) ?_
    refine lv_iconst (v := 1) hx hb dX4_areAlikeOn_11 (by decide) ?_
    obtain ⟨r3, hu, h⟩ := bnd_h h
    refine kc_z (kV hC (c_X4_isOfSide l dC dI cc q0 q1 clogs day cells x2 1 H.size r3 hu) cv_X4_42 kw518 rfl rfl ⟨(Nat.le_of_ble_eq_true rfl), (Nat.le_of_ble_eq_true rfl)⟩ hP [0, 1] rfl rfl rfl (q0 := 0) rfl (As := [.int x2, .int 1]) (rest := []) rfl rfl hl.1 (Nat.le_of_ble_eq_true rfl) dX4_areAlikeOn_12 ⟨Nat.zero_le _, Nat.zero_le _⟩) hP hA [0, 1] rfl rfl (fun hz_r3 H locs hP => ?_)
    have hP : PD (dC, dI) A s.heap [(q0, .inr (4, [.ref q1, .int clogs, .int day])), (q1, .inl (cc 0, 50, .inl cells))] H locs := hP
    refine lv_if_eq (tgt := 82) hx hb dX4_areAlikeOn_15 (by decide) (fun c4 => ?_) (fun c4 => ?_)
    · have h := if_t c4 h
      refine lv_iconst (v := 0) hx hb dX4_areAlikeOn_82 (by decide) ?_
      exact ret_z hC hr rfl hlk hP dX4_areAlikeOn_83 () (⟨Option.some.inj h, rfl⟩) rfl
    · have h := if_f c4 h
      refine lv_aload_n hx hb dX4_areAlikeOn_18 rfl (lv_at hl 0 rfl) ?_
      refine lv_iload_n hx hb dX4_areAlikeOn_19 rfl (lv_at hl 1 rfl) ?_
      refine lv_iconst (v := 0) hx hb dX4_areAlikeOn_20 (by decide) ?_
      obtain ⟨r5, hu, h⟩ := bnd_h h
      refine kc_i (kV hC (c_X4_cell l dC dI cc q0 q1 clogs day cells x1 0 H.size r5 hu) cv_X4_38 kw463 rfl rfl ⟨(Nat.le_of_ble_eq_true rfl), (Nat.le_of_ble_eq_true rfl)⟩ hP [0, 1] rfl rfl rfl (q0 := 0) rfl (As := [.int x1, .int 0]) (rest := []) rfl rfl hl.1 (Nat.le_of_ble_eq_true rfl) dX4_areAlikeOn_21 ⟨Nat.zero_le _, Nat.zero_le _⟩) hP hA [0, 1] rfl rfl (fun H locs hP => ?_)
      have hP : PD (dC, dI) A s.heap [(q0, .inr (4, [.ref q1, .int clogs, .int day])), (q1, .inl (cc 0, 50, .inl cells))] H locs := hP
      refine lv_iconst (v := 2) hx hb dX4_areAlikeOn_24 (by decide) ?_
      refine lv_icmp_eq (tgt := 82) hx hb dX4_areAlikeOn_25 (by decide) (fun c6 => ?_) (fun c6 => ?_)
      · have h := if_t c6 h
        refine lv_iconst (v := 0) hx hb dX4_areAlikeOn_82 (by decide) ?_
        exact ret_z hC hr rfl hlk hP dX4_areAlikeOn_83 () (⟨Option.some.inj h, rfl⟩) rfl
      · have h := if_f c6 h
        refine lv_aload_n hx hb dX4_areAlikeOn_28 rfl (lv_at hl 0 rfl) ?_
        refine lv_iload_n hx hb dX4_areAlikeOn_29 rfl (lv_at hl 2 rfl) ?_
        refine lv_iconst (v := 0) hx hb dX4_areAlikeOn_30 (by decide) ?_
        obtain ⟨r7, hu, h⟩ := bnd_h h
        refine kc_i (kV hC (c_X4_cell l dC dI cc q0 q1 clogs day cells x2 0 H.size r7 hu) cv_X4_38 kw463 rfl rfl ⟨(Nat.le_of_ble_eq_true rfl), (Nat.le_of_ble_eq_true rfl)⟩ hP [0, 1] rfl rfl rfl (q0 := 0) rfl (As := [.int x2, .int 0]) (rest := []) rfl rfl hl.1 (Nat.le_of_ble_eq_true rfl) dX4_areAlikeOn_31 ⟨Nat.zero_le _, Nat.zero_le _⟩) hP hA [0, 1] rfl rfl (fun H locs hP => ?_)
        have hP : PD (dC, dI) A s.heap [(q0, .inr (4, [.ref q1, .int clogs, .int day])), (q1, .inl (cc 0, 50, .inl cells))] H locs := hP
        refine lv_iconst (v := 2) hx hb dX4_areAlikeOn_34 (by decide) ?_
        refine lv_icmp_eq (tgt := 82) hx hb dX4_areAlikeOn_35 (by decide) (fun c8 => ?_) (fun c8 => ?_)
        · have h := if_t c8 h
          refine lv_iconst (v := 0) hx hb dX4_areAlikeOn_82 (by decide) ?_
          exact ret_z hC hr rfl hlk hP dX4_areAlikeOn_83 () (⟨Option.some.inj h, rfl⟩) rfl
        · have h := if_f c8 h
          refine lv_aload_n hx hb dX4_areAlikeOn_38 rfl (lv_at hl 0 rfl) ?_
          refine lv_iload_n hx hb dX4_areAlikeOn_39 rfl (lv_at hl 1 rfl) ?_
          refine lv_iload_n hx hb dX4_areAlikeOn_40 rfl (lv_at hl 3 rfl) ?_
          obtain ⟨r9, hu, h⟩ := bnd_h h
          refine kc_i (kV hC (c_X4_sizeOn l dC dI cc q0 q1 clogs day cells x1 x3 H.size r9 hu) cv_X4_65 kw459 rfl rfl ⟨(Nat.le_of_ble_eq_true rfl), (Nat.le_of_ble_eq_true rfl)⟩ hP [0, 1] rfl rfl rfl (q0 := 0) rfl (As := [.int x1, .int x3]) (rest := []) rfl rfl hl.1 (Nat.le_of_ble_eq_true rfl) dX4_areAlikeOn_41 ⟨Nat.zero_le _, Nat.zero_le _⟩) hP hA [0, 1] rfl rfl (fun H locs hP => ?_)
          have hP : PD (dC, dI) A s.heap [(q0, .inr (4, [.ref q1, .int clogs, .int day])), (q1, .inl (cc 0, 50, .inl cells))] H locs := hP
          refine lv_aload_n hx hb dX4_areAlikeOn_44 rfl (lv_at hl 0 rfl) ?_
          refine lv_iload_n hx hb dX4_areAlikeOn_45 rfl (lv_at hl 2 rfl) ?_
          refine lv_iload_n hx hb dX4_areAlikeOn_46 rfl (lv_at hl 3 rfl) ?_
          obtain ⟨r10, hu, h⟩ := bnd_h h
          refine kc_i (kV hC (c_X4_sizeOn l dC dI cc q0 q1 clogs day cells x2 x3 H.size r10 hu) cv_X4_65 kw459 rfl rfl ⟨(Nat.le_of_ble_eq_true rfl), (Nat.le_of_ble_eq_true rfl)⟩ hP [0, 1] rfl rfl rfl (q0 := 0) rfl (As := [.int x2, .int x3]) (rest := [.int r9]) rfl rfl hl.1 (Nat.le_of_ble_eq_true rfl) dX4_areAlikeOn_47 ⟨Nat.zero_le _, Nat.zero_le _⟩) hP hA [0, 1] rfl rfl (fun H locs hP => ?_)
          have hP : PD (dC, dI) A s.heap [(q0, .inr (4, [.ref q1, .int clogs, .int day])), (q1, .inl (cc 0, 50, .inl cells))] H locs := hP
          refine lv_isub hx hb dX4_areAlikeOn_50 ?_
          refine g_abs hC hl.1 mh_X4_68 (Nat.le_of_ble_eq_true rfl) (Nat.le_of_ble_eq_true rfl) (Nat.zero_le _) (Nat.zero_le _) dX4_areAlikeOn_51 ?_
          refine lv_topi (fun v11 ev => ?_)
          have h := nm_h ev h
          refine lv_iconst (v := 1) hx hb dX4_areAlikeOn_54 (by decide) ?_
          refine lv_icmp_gt (tgt := 82) hx hb dX4_areAlikeOn_55 (by decide) (fun c12 => ?_) (fun c12 => ?_)
          · have h := if_t c12 h
            refine lv_iconst (v := 0) hx hb dX4_areAlikeOn_82 (by decide) ?_
            exact ret_z hC hr rfl hlk hP dX4_areAlikeOn_83 () (⟨Option.some.inj h, rfl⟩) rfl
          · have h := if_f c12 h
            refine lv_aload_n hx hb dX4_areAlikeOn_58 rfl (lv_at hl 0 rfl) ?_
            refine lv_iload_n hx hb dX4_areAlikeOn_59 rfl (lv_at hl 1 rfl) ?_
            refine lv_iload_n hx hb dX4_areAlikeOn_60 rfl (lv_at hl 3 rfl) ?_
            obtain ⟨r13, hu, h⟩ := bnd_h h
            refine kc_i (kV hC (c_X4_weightOn l dC dI cc q0 q1 clogs day cells x1 x3 H.size r13 hu) cv_X4_72 kw473 rfl rfl ⟨(Nat.le_of_ble_eq_true rfl), (Nat.le_of_ble_eq_true rfl)⟩ hP [0, 1] rfl rfl rfl (q0 := 0) rfl (As := [.int x1, .int x3]) (rest := []) rfl rfl hl.1 (Nat.le_of_ble_eq_true rfl) dX4_areAlikeOn_61 ⟨Nat.zero_le _, Nat.zero_le _⟩) hP hA [0, 1] rfl rfl (fun H locs hP => ?_)
            have hP : PD (dC, dI) A s.heap [(q0, .inr (4, [.ref q1, .int clogs, .int day])), (q1, .inl (cc 0, 50, .inl cells))] H locs := hP
            refine lv_aload_n hx hb dX4_areAlikeOn_64 rfl (lv_at hl 0 rfl) ?_
            refine lv_iload_n hx hb dX4_areAlikeOn_65 rfl (lv_at hl 2 rfl) ?_
            refine lv_iload_n hx hb dX4_areAlikeOn_66 rfl (lv_at hl 3 rfl) ?_
            obtain ⟨r14, hu, h⟩ := bnd_h h
            refine kc_i (kV hC (c_X4_weightOn l dC dI cc q0 q1 clogs day cells x2 x3 H.size r14 hu) cv_X4_72 kw473 rfl rfl ⟨(Nat.le_of_ble_eq_true rfl), (Nat.le_of_ble_eq_true rfl)⟩ hP [0, 1] rfl rfl rfl (q0 := 0) rfl (As := [.int x2, .int x3]) (rest := [.int r13]) rfl rfl hl.1 (Nat.le_of_ble_eq_true rfl) dX4_areAlikeOn_67 ⟨Nat.zero_le _, Nat.zero_le _⟩) hP hA [0, 1] rfl rfl (fun H locs hP => ?_)
            have hP : PD (dC, dI) A s.heap [(q0, .inr (4, [.ref q1, .int clogs, .int day])), (q1, .inl (cc 0, 50, .inl cells))] H locs := hP
            refine lv_isub hx hb dX4_areAlikeOn_70 ?_
            refine g_abs hC hl.1 mh_X4_68 (Nat.le_of_ble_eq_true rfl) (Nat.le_of_ble_eq_true rfl) (Nat.zero_le _) (Nat.zero_le _) dX4_areAlikeOn_71 ?_
            refine lv_topi (fun v15 ev => ?_)
            have h := nm_h ev h
            refine lv_iconst (v := 3) hx hb dX4_areAlikeOn_74 (by decide) ?_
            refine lv_icmp_gt (tgt := 82) hx hb dX4_areAlikeOn_75 (by decide) (fun c16 => ?_) (fun c16 => ?_)
            · have h := if_t c16 h
              refine lv_iconst (v := 0) hx hb dX4_areAlikeOn_82 (by decide) ?_
              exact ret_z hC hr rfl hlk hP dX4_areAlikeOn_83 () (⟨Option.some.inj h, rfl⟩) rfl
            · have h := if_f c16 h
              refine lv_iconst (v := 1) hx hb dX4_areAlikeOn_78 (by decide) ?_
              refine lv_goto (tgt := 83) hx hb dX4_areAlikeOn_79 (by decide) ?_
              exact ret_z hC hr rfl hlk hP dX4_areAlikeOn_83 () (⟨Option.some.inj h, rfl⟩) rfl
set_option maxHeartbeats 8000000 in
set_option maxRecDepth 100000 in
theorem c_X4_matesOf (l : Launch) (dC : Nat → ClassId) (dI : Nat → Nat → Nat) (cc : Nat → ClassId) (q0 q1 : Nat) (clogs : Int32) (day : Int32) (cells : (Nat → Int32)) (x1 : Int32) (sz : Nat) (ret : Int32) (hu : f_X4_matesOf x1 clogs day cells = some ret) : Met l yX4_matesOf (mw yX4_matesOf cX4_matesOf 4 (some .int)) ({ frames := 4, cells := 0, slots := 0, locals := 92 } : Room) (va_Pc [.ref q0, .int x1] (mP (dC, dI) (ts cc) sz [(q0, .inr (4, [.ref q1, .int clogs, .int day])), (q1, .inl (cc 0, 50, .inl cells))])) ((fun A => va_Qi (fun (r : Int32) (w : Unit) => r = ret ∧ w = ()) (fun (w : Unit) t => va_P (dC, dI) classes [(q0, .inr (4, [.ref q1, .int clogs, .int day])), (q1, .inl (cc 0, 50, .inl cells))] t.heap) A) (va_A [(q0, .inr (4, [.ref q1, .int clogs, .int day])), (q1, .inl (cc 0, 50, .inl cells))] sz)) 0 0 (va_A [(q0, .inr (4, [.ref q1, .int clogs, .int day])), (q1, .inl (cc 0, 50, .inl cells))] sz) := by
  refine met_go (Qc := fun A => va_Qi (fun (r : Int32) (w : Unit) => r = ret ∧ w = ()) (fun (w : Unit) t => va_P (dC, dI) classes [(q0, .inr (4, [.ref q1, .int clogs, .int day])), (q1, .inl (cc 0, 50, .inl cells))] t.heap) A) (by decide) (Nat.le_of_ble_eq_true rfl) ?_
  intro p e s m below meth c A ls H locs hC hr hlk hin hA hP hl _
  have hC : CX p m c cX4_matesOf 4 s ([.ref q0, .int x1] : List Value).toArray RX4 (dC, dI) (ts cc) := hC
  have hx := hC.1.1
  have hb := hC.1.2
  have h := hu
  have hu0 := hu
  unfold f_X4_matesOf at h
  have hl : lv_has ls 4 [(0, .ref q0), (1, .int x1)] := hl
  refine W_abs (fun Z eZ => ?_)
  refine lv_iconst (v := 0) hx hb dX4_matesOf_0 (by decide) ?_
  refine lv_istore_n (lv' := [(2, .int 0), (0, .ref q0), (1, .int x1)]) hx hb dX4_matesOf_1 rfl hl (by decide) rfl (fun ls hl => ?_)
  refine lv_iconst (v := 0) hx hb dX4_matesOf_2 (by decide) ?_
  refine lv_istore_n (lv' := [(3, .int 0), (2, .int 0), (0, .ref q0), (1, .int x1)]) hx hb dX4_matesOf_3 rfl hl (by decide) rfl (fun ls hl => ?_)
  obtain ⟨⟨j1x, j2x⟩, hlp, h⟩ := bnd_h h
  have L1 : ∀ (n : Nat) (j1 : Int32) (j2 : Int32) (j1x : Int32) (j2x : Int32), lp (u2 (b_X4_matesOf_1 cells clogs day x1)) n (j1, j2) = some (j1x, j2x) → ∀ (H : Heap) (locs : List Loc) (ls : Array Slot), PD (dC, dI) A s.heap [(q0, .inr (4, [.ref q1, .int clogs, .int day])), (q1, .inl (cc 0, 50, .inl cells))] H locs → lv_has ls 4 [(0, .ref q0), (1, .int x1), (2, .int j1), (3, .int j2)] → (∀ (H : Heap) (locs : List Loc) (ls : Array Slot), PD (dC, dI) A s.heap [(q0, .inr (4, [.ref q1, .int clogs, .int day])), (q1, .inl (cc 0, 50, .inl cells))] H locs → lv_has ls 4 [(0, .ref q0), (1, .int x1), (2, .int j1x), (3, .int j2x)] → W p l e ({ frames := 4, cells := 0, slots := 0, locals := 92 } : Room) s m ([.ref q0, .int x1] : List Value).toArray below meth c H locs 0 0 Z (F0 m 50 ls [])) → W p l e ({ frames := 4, cells := 0, slots := 0, locals := 92 } : Room) s m ([.ref q0, .int x1] : List Value).toArray below meth c H locs 0 0 Z (F0 m 4 ls []) := by
    intro n
    induction n with
    | zero => intro j1 j2 j1x j2x h; exact (lp_0 h).elim
    | succ n ih =>
      intro j1 j2 j1x j2x h H locs ls hP hl KK
      obtain ⟨y, h, hz⟩ := lp_h h
      refine lv_iload_n hx hb dX4_matesOf_4 rfl (lv_at hl 3 rfl) ?_
      refine lv_aload_n hx hb dX4_matesOf_5 rfl (lv_at hl 0 rfl) ?_
      refine g_get hC hP fg_X4_15 0 rfl rfl dX4_matesOf_6 ?_
      refine lv_icmp_ge (tgt := 50) hx hb dX4_matesOf_9 (by decide) (fun c3 => ?_) (fun c3 => ?_)
      · have h := if_t c3 h
        cases lp_e h hz
        exact KK H locs ls hP (lv_sub hl [0, 1, 2, 3] rfl)
      · have h := if_f c3 h
        refine lv_aload_n hx hb dX4_matesOf_12 rfl (lv_at hl 0 rfl) ?_
        refine lv_iload_n hx hb dX4_matesOf_13 rfl (lv_at hl 1 rfl) ?_
        refine lv_iload_n hx hb dX4_matesOf_14 rfl (lv_at hl 3 rfl) ?_
        refine lv_aload_n hx hb dX4_matesOf_15 rfl (lv_at hl 0 rfl) ?_
        refine g_get hC hP fg_X4_19 0 rfl rfl dX4_matesOf_16 ?_
        obtain ⟨r4, hu, h⟩ := bnd_h h
        refine kc_z (kV hC (c_X4_areAlikeOn l dC dI cc q0 q1 clogs day cells x1 j2 day H.size r4 hu) cv_X4_75 kw514 rfl rfl ⟨(Nat.le_of_ble_eq_true rfl), (Nat.le_of_ble_eq_true rfl)⟩ hP [0, 1] rfl rfl rfl (q0 := 0) rfl (As := [.int x1, .int j2, .int day]) (rest := []) rfl rfl hl.1 (Nat.le_of_ble_eq_true rfl) dX4_matesOf_19 ⟨Nat.zero_le _, Nat.zero_le _⟩) hP hA [0, 1] rfl rfl (fun hz_r4 H locs hP => ?_)
        have hP : PD (dC, dI) A s.heap [(q0, .inr (4, [.ref q1, .int clogs, .int day])), (q1, .inl (cc 0, 50, .inl cells))] H locs := hP
        refine lv_if_ne (tgt := 38) hx hb dX4_matesOf_22 (by decide) (fun c5 => ?_) (fun c5 => ?_)
        · have h := if_f c5 h
          refine lv_iload_n hx hb dX4_matesOf_38 rfl (lv_at hl 2 rfl) ?_
          refine lv_iconst (v := 1) hx hb dX4_matesOf_39 (by decide) ?_
          refine lv_iload_n hx hb dX4_matesOf_40 rfl (lv_at hl 3 rfl) ?_
          refine lv_ishl hx hb dX4_matesOf_41 ?_
          refine lv_ior hx hb dX4_matesOf_42 ?_
          refine lv_istore_n (lv' := [(2, .int (j1 ||| (1 <<< (j2 &&& 31)))), (0, .ref q0), (1, .int x1), (3, .int j2)]) hx hb dX4_matesOf_43 rfl hl (by decide) rfl (fun ls hl => ?_)
          refine lv_iinc (v := (j2 + 1)) (lv' := [(3, .int (j2 + 1)), (2, .int (j1 ||| (1 <<< (j2 &&& 31)))), (0, .ref q0), (1, .int x1)]) hx hb dX4_matesOf_44 hl (k := 3) rfl rfl (by decide) rfl (fun ls hl => ?_)
          refine lv_goto (tgt := 4) hx hb dX4_matesOf_47 (by decide) ?_
          exact ih _ _ _ _ (lp_n h hz) H locs ls hP (lv_sub hl [2, 3, 1, 0] rfl) KK
        · have h := if_t c5 h
          refine lv_aload_n hx hb dX4_matesOf_25 rfl (lv_at hl 0 rfl) ?_
          refine lv_iload_n hx hb dX4_matesOf_26 rfl (lv_at hl 3 rfl) ?_
          refine lv_iload_n hx hb dX4_matesOf_27 rfl (lv_at hl 1 rfl) ?_
          refine lv_aload_n hx hb dX4_matesOf_28 rfl (lv_at hl 0 rfl) ?_
          refine g_get hC hP fg_X4_19 0 rfl rfl dX4_matesOf_29 ?_
          obtain ⟨r6, hu, h⟩ := bnd_h h
          refine kc_z (kV hC (c_X4_areAlikeOn l dC dI cc q0 q1 clogs day cells j2 x1 day H.size r6 hu) cv_X4_75 kw514 rfl rfl ⟨(Nat.le_of_ble_eq_true rfl), (Nat.le_of_ble_eq_true rfl)⟩ hP [0, 1] rfl rfl rfl (q0 := 0) rfl (As := [.int j2, .int x1, .int day]) (rest := []) rfl rfl hl.1 (Nat.le_of_ble_eq_true rfl) dX4_matesOf_32 ⟨Nat.zero_le _, Nat.zero_le _⟩) hP hA [0, 1] rfl rfl (fun hz_r6 H locs hP => ?_)
          have hP : PD (dC, dI) A s.heap [(q0, .inr (4, [.ref q1, .int clogs, .int day])), (q1, .inl (cc 0, 50, .inl cells))] H locs := hP
          refine lv_if_eq (tgt := 44) hx hb dX4_matesOf_35 (by decide) (fun c7 => ?_) (fun c7 => ?_)
          · have h := if_t c7 h
            refine lv_iinc (v := (j2 + 1)) (lv' := [(3, .int (j2 + 1)), (0, .ref q0), (1, .int x1), (2, .int j1)]) hx hb dX4_matesOf_44 hl (k := 3) rfl rfl (by decide) rfl (fun ls hl => ?_)
            refine lv_goto (tgt := 4) hx hb dX4_matesOf_47 (by decide) ?_
            exact ih _ _ _ _ (lp_n h hz) H locs ls hP (lv_sub hl [1, 2, 3, 0] rfl) KK
          · have h := if_f c7 h
            refine lv_iload_n hx hb dX4_matesOf_38 rfl (lv_at hl 2 rfl) ?_
            refine lv_iconst (v := 1) hx hb dX4_matesOf_39 (by decide) ?_
            refine lv_iload_n hx hb dX4_matesOf_40 rfl (lv_at hl 3 rfl) ?_
            refine lv_ishl hx hb dX4_matesOf_41 ?_
            refine lv_ior hx hb dX4_matesOf_42 ?_
            refine lv_istore_n (lv' := [(2, .int (j1 ||| (1 <<< (j2 &&& 31)))), (0, .ref q0), (1, .int x1), (3, .int j2)]) hx hb dX4_matesOf_43 rfl hl (by decide) rfl (fun ls hl => ?_)
            refine lv_iinc (v := (j2 + 1)) (lv' := [(3, .int (j2 + 1)), (2, .int (j1 ||| (1 <<< (j2 &&& 31)))), (0, .ref q0), (1, .int x1)]) hx hb dX4_matesOf_44 hl (k := 3) rfl rfl (by decide) rfl (fun ls hl => ?_)
            refine lv_goto (tgt := 4) hx hb dX4_matesOf_47 (by decide) ?_
            exact ih _ _ _ _ (lp_n h hz) H locs ls hP (lv_sub hl [2, 3, 1, 0] rfl) KK
  refine L1 FU _ _ j1x j2x hlp H locs ls hP (lv_sub hl [2, 3, 1, 0] rfl) (fun H locs ls hP hl => ?_)
  refine lv_iload_n hx hb dX4_matesOf_50 rfl (lv_at hl 2 rfl) ?_
  rw [eZ]
  exact ret_i hC hr hlk hP dX4_matesOf_51 () (⟨Option.some.inj h, rfl⟩) rfl
set_option maxHeartbeats 8000000 in
set_option maxRecDepth 100000 in
theorem c_X4_unholedFrom (l : Launch) (dC : Nat → ClassId) (dI : Nat → Nat → Nat) (cc : Nat → ClassId) (q0 q1 : Nat) (clogs : Int32) (day : Int32) (cells : (Nat → Int32)) (x1 : Int32) (x2 : Int32) (sz : Nat) (ret : Int32) (hu : f_X4_unholedFrom x1 x2 clogs day cells = some ret) : Met l yX4_unholedFrom (mw yX4_unholedFrom cX4_unholedFrom 5 (some .int)) ({ frames := 3, cells := 0, slots := 0, locals := 68 } : Room) (va_Pc [.ref q0, .int x1, .int x2] (mP (dC, dI) (ts cc) sz [(q0, .inr (4, [.ref q1, .int clogs, .int day])), (q1, .inl (cc 0, 50, .inl cells))])) ((fun A => va_Qi (fun (r : Int32) (w : Unit) => r = ret ∧ w = ()) (fun (w : Unit) t => va_P (dC, dI) classes [(q0, .inr (4, [.ref q1, .int clogs, .int day])), (q1, .inl (cc 0, 50, .inl cells))] t.heap) A) (va_A [(q0, .inr (4, [.ref q1, .int clogs, .int day])), (q1, .inl (cc 0, 50, .inl cells))] sz)) 0 0 (va_A [(q0, .inr (4, [.ref q1, .int clogs, .int day])), (q1, .inl (cc 0, 50, .inl cells))] sz) := by
  refine met_go (Qc := fun A => va_Qi (fun (r : Int32) (w : Unit) => r = ret ∧ w = ()) (fun (w : Unit) t => va_P (dC, dI) classes [(q0, .inr (4, [.ref q1, .int clogs, .int day])), (q1, .inl (cc 0, 50, .inl cells))] t.heap) A) (by decide) (Nat.le_of_ble_eq_true rfl) ?_
  intro p e s m below meth c A ls H locs hC hr hlk hin hA hP hl _
  have hC : CX p m c cX4_unholedFrom 5 s ([.ref q0, .int x1, .int x2] : List Value).toArray RX4 (dC, dI) (ts cc) := hC
  have hx := hC.1.1
  have hb := hC.1.2
  have h := hu
  have hu0 := hu
  unfold f_X4_unholedFrom at h
  have hl : lv_has ls 5 [(0, .ref q0), (1, .int x1), (2, .int x2)] := hl
  refine W_abs (fun Z eZ => ?_)
  refine lv_iconst (v := 0) hx hb dX4_unholedFrom_0 (by decide) ?_
  refine lv_istore_n (lv' := [(3, .int 0), (0, .ref q0), (1, .int x1), (2, .int x2)]) hx hb dX4_unholedFrom_1 rfl hl (by decide) rfl (fun ls hl => ?_)
  refine lv_iconst (v := 0) hx hb dX4_unholedFrom_2 (by decide) ?_
  refine lv_istore (lv' := [(4, .int 0), (3, .int 0), (0, .ref q0), (1, .int x1), (2, .int x2)]) hx hb dX4_unholedFrom_3 hl (by decide) rfl (fun ls hl => ?_)
  obtain ⟨⟨j1x, j2x⟩, hlp, h⟩ := bnd_h h
  have L1 : ∀ (n : Nat) (j1 : Int32) (j2 : Int32) (j1x : Int32) (j2x : Int32), lp (u2 (b_X4_unholedFrom_1 cells clogs day x1 x2)) n (j1, j2) = some (j1x, j2x) → ∀ (H : Heap) (locs : List Loc) (ls : Array Slot), PD (dC, dI) A s.heap [(q0, .inr (4, [.ref q1, .int clogs, .int day])), (q1, .inl (cc 0, 50, .inl cells))] H locs → lv_has ls 5 [(0, .ref q0), (1, .int x1), (2, .int x2), (3, .int j1), (4, .int j2)] → (∀ (H : Heap) (locs : List Loc) (ls : Array Slot), PD (dC, dI) A s.heap [(q0, .inr (4, [.ref q1, .int clogs, .int day])), (q1, .inl (cc 0, 50, .inl cells))] H locs → lv_has ls 5 [(0, .ref q0), (1, .int x1), (2, .int x2), (3, .int j1x), (4, .int j2x)] → W p l e ({ frames := 3, cells := 0, slots := 0, locals := 68 } : Room) s m ([.ref q0, .int x1, .int x2] : List Value).toArray below meth c H locs 0 0 Z (F0 m 56 ls [])) → W p l e ({ frames := 3, cells := 0, slots := 0, locals := 68 } : Room) s m ([.ref q0, .int x1, .int x2] : List Value).toArray below meth c H locs 0 0 Z (F0 m 5 ls []) := by
    intro n
    induction n with
    | zero => intro j1 j2 j1x j2x h; exact (lp_0 h).elim
    | succ n ih =>
      intro j1 j2 j1x j2x h H locs ls hP hl KK
      obtain ⟨y, h, hz⟩ := lp_h h
      refine lv_iload hx hb dX4_unholedFrom_5 (lv_at hl 4 rfl) ?_
      refine lv_aload_n hx hb dX4_unholedFrom_7 rfl (lv_at hl 0 rfl) ?_
      refine g_get hC hP fg_X4_15 0 rfl rfl dX4_unholedFrom_8 ?_
      refine lv_icmp_ge (tgt := 56) hx hb dX4_unholedFrom_11 (by decide) (fun c3 => ?_) (fun c3 => ?_)
      · have h := if_t c3 h
        cases lp_e h hz
        exact KK H locs ls hP (lv_sub hl [0, 1, 2, 3, 4] rfl)
      · have h := if_f c3 h
        refine lv_aload_n hx hb dX4_unholedFrom_14 rfl (lv_at hl 0 rfl) ?_
        refine lv_iload hx hb dX4_unholedFrom_15 (lv_at hl 4 rfl) ?_
        refine lv_iconst (v := 0) hx hb dX4_unholedFrom_17 (by decide) ?_
        obtain ⟨r4, hu, h⟩ := bnd_h h
        refine kc_i (kV hC (c_X4_cell l dC dI cc q0 q1 clogs day cells j2 0 H.size r4 hu) cv_X4_38 kw463 rfl rfl ⟨(Nat.le_of_ble_eq_true rfl), (Nat.le_of_ble_eq_true rfl)⟩ hP [0, 1] rfl rfl rfl (q0 := 0) rfl (As := [.int j2, .int 0]) (rest := []) rfl rfl hl.1 (Nat.le_of_ble_eq_true rfl) dX4_unholedFrom_18 ⟨Nat.zero_le _, Nat.zero_le _⟩) hP hA [0, 1] rfl rfl (fun H locs hP => ?_)
        have hP : PD (dC, dI) A s.heap [(q0, .inr (4, [.ref q1, .int clogs, .int day])), (q1, .inl (cc 0, 50, .inl cells))] H locs := hP
        refine lv_iconst (v := 2) hx hb dX4_unholedFrom_21 (by decide) ?_
        refine lv_icmp_eq (tgt := 50) hx hb dX4_unholedFrom_22 (by decide) (fun c5 => ?_) (fun c5 => ?_)
        · have h := if_t c5 h
          refine lv_iinc (v := (j2 + 1)) (lv' := [(4, .int (j2 + 1)), (0, .ref q0), (1, .int x1), (2, .int x2), (3, .int j1)]) hx hb dX4_unholedFrom_50 hl (k := 4) rfl rfl (by decide) rfl (fun ls hl => ?_)
          refine lv_goto (tgt := 5) hx hb dX4_unholedFrom_53 (by decide) ?_
          exact ih _ _ _ _ (lp_n h hz) H locs ls hP (lv_sub hl [1, 2, 3, 4, 0] rfl) KK
        · have h := if_f c5 h
          refine lv_aload_n hx hb dX4_unholedFrom_25 rfl (lv_at hl 0 rfl) ?_
          refine lv_iload hx hb dX4_unholedFrom_26 (lv_at hl 4 rfl) ?_
          refine lv_aload_n hx hb dX4_unholedFrom_28 rfl (lv_at hl 0 rfl) ?_
          refine g_get hC hP fg_X4_19 0 rfl rfl dX4_unholedFrom_29 ?_
          obtain ⟨r6, hu, h⟩ := bnd_h h
          refine kc_i (kV hC (c_X4_sizeOn l dC dI cc q0 q1 clogs day cells j2 day H.size r6 hu) cv_X4_65 kw459 rfl rfl ⟨(Nat.le_of_ble_eq_true rfl), (Nat.le_of_ble_eq_true rfl)⟩ hP [0, 1] rfl rfl rfl (q0 := 0) rfl (As := [.int j2, .int day]) (rest := []) rfl rfl hl.1 (Nat.le_of_ble_eq_true rfl) dX4_unholedFrom_32 ⟨Nat.zero_le _, Nat.zero_le _⟩) hP hA [0, 1] rfl rfl (fun H locs hP => ?_)
          have hP : PD (dC, dI) A s.heap [(q0, .inr (4, [.ref q1, .int clogs, .int day])), (q1, .inl (cc 0, 50, .inl cells))] H locs := hP
          refine lv_iload_n hx hb dX4_unholedFrom_35 rfl (lv_at hl 1 rfl) ?_
          refine lv_iload_n hx hb dX4_unholedFrom_36 rfl (lv_at hl 1 rfl) ?_
          refine lv_iload_n hx hb dX4_unholedFrom_37 rfl (lv_at hl 2 rfl) ?_
          refine lv_iadd hx hb dX4_unholedFrom_38 ?_
          refine lv_iconst (v := 1) hx hb dX4_unholedFrom_39 (by decide) ?_
          refine lv_isub hx hb dX4_unholedFrom_40 ?_
          obtain ⟨r7, hu, h⟩ := bnd_h h
          refine kc_z (kN hC (c_X9_within l dC dI cc r6 x1 ((x1 + x2) - 1) H.size r7 hu) cn_X4_26 kw338 rfl rfl ⟨(Nat.le_of_ble_eq_true rfl), (Nat.le_of_ble_eq_true rfl)⟩ hP [] rfl rfl (As := [.int r6, .int x1, .int ((x1 + x2) - 1)]) (rest := []) rfl rfl hl.1 (Nat.le_of_ble_eq_true rfl) dX4_unholedFrom_41 ⟨Nat.zero_le _, Nat.zero_le _⟩) hP hA [] rfl rfl (fun hz_r7 H locs hP => ?_)
          have hP : PD (dC, dI) A s.heap [(q0, .inr (4, [.ref q1, .int clogs, .int day])), (q1, .inl (cc 0, 50, .inl cells))] H locs := hP
          refine lv_if_eq (tgt := 50) hx hb dX4_unholedFrom_44 (by decide) (fun c8 => ?_) (fun c8 => ?_)
          · have h := if_t c8 h
            refine lv_iinc (v := (j2 + 1)) (lv' := [(4, .int (j2 + 1)), (0, .ref q0), (1, .int x1), (2, .int x2), (3, .int j1)]) hx hb dX4_unholedFrom_50 hl (k := 4) rfl rfl (by decide) rfl (fun ls hl => ?_)
            refine lv_goto (tgt := 5) hx hb dX4_unholedFrom_53 (by decide) ?_
            exact ih _ _ _ _ (lp_n h hz) H locs ls hP (lv_sub hl [1, 2, 3, 4, 0] rfl) KK
          · have h := if_f c8 h
            refine lv_iinc (v := (j1 + 1)) (lv' := [(3, .int (j1 + 1)), (0, .ref q0), (1, .int x1), (2, .int x2), (4, .int j2)]) hx hb dX4_unholedFrom_47 hl (k := 3) rfl rfl (by decide) rfl (fun ls hl => ?_)
            refine lv_iinc (v := (j2 + 1)) (lv' := [(4, .int (j2 + 1)), (3, .int (j1 + 1)), (0, .ref q0), (1, .int x1), (2, .int x2)]) hx hb dX4_unholedFrom_50 hl (k := 4) rfl rfl (by decide) rfl (fun ls hl => ?_)
            refine lv_goto (tgt := 5) hx hb dX4_unholedFrom_53 (by decide) ?_
            exact ih _ _ _ _ (lp_n h hz) H locs ls hP (lv_sub hl [2, 3, 4, 1, 0] rfl) KK
  refine L1 FU _ _ j1x j2x hlp H locs ls hP (lv_sub hl [2, 3, 4, 1, 0] rfl) (fun H locs ls hP hl => ?_)
  refine lv_iload_n hx hb dX4_unholedFrom_56 rfl (lv_at hl 3 rfl) ?_
  rw [eZ]
  exact ret_i hC hr hlk hP dX4_unholedFrom_57 () (⟨Option.some.inj h, rfl⟩) rfl
