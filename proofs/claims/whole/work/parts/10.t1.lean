theorem in4 : ∀ w ∈ u_ws RX4 TX4 3, w ∈ Tg := by decide +kernel
theorem kw58 : Cond.fieldLink RX4 15 "LeftAndRight$Shelf" "clogs" "I" ∈ Tg := mem_Tg (List.mem_append_right _ (List.mem_of_getElem? (i := 58) (by decide +kernel))) (by decide +kernel)
theorem kn21 : (RX4, 26, yX9_within, "LeftAndRight") ∈ NSt := List.mem_of_getElem? (i := 21) rfl
theorem kw337 : Cond.static yX9_within ∈ Tg := mem_Tg (List.mem_append_right _ (List.mem_of_getElem? (i := 337) (by decide +kernel))) (by decide +kernel)
theorem kw1 : Cond.initialized RX9 ∈ Tg := mem_Tg (List.mem_append_right _ (List.mem_of_getElem? (i := 1) (by decide +kernel))) (by decide +kernel)
theorem kw57 : Cond.fieldLink RX4 9 "LeftAndRight$Shelf" "cells" "[I" ∈ Tg := mem_Tg (List.mem_append_right _ (List.mem_of_getElem? (i := 57) (by decide +kernel))) (by decide +kernel)
theorem kw460 : Cond.methodLink RX4 38 yX4_cell ∈ Tg := mem_Tg (List.mem_append_right _ (List.mem_of_getElem? (i := 460) (by decide +kernel))) (by decide +kernel)
theorem kw461 : Cond.instanceMethod yX4_cell ∈ Tg := mem_Tg (List.mem_append_right _ (List.mem_of_getElem? (i := 461) (by decide +kernel))) (by decide +kernel)
theorem kw462 : Cond.selects RX4 yX4_cell yX4_cell ∈ Tg := mem_Tg (List.mem_append_right _ (List.mem_of_getElem? (i := 462) (by decide +kernel))) (by decide +kernel)
theorem kw4 : Cond.initialized RX4 ∈ Tg := mem_Tg (List.mem_append_right _ (List.mem_of_getElem? (i := 4) (by decide +kernel))) (by decide +kernel)
theorem kw468 : Cond.methodLink RX4 46 Lib.Math.max.name ∈ Tg := mem_Tg (List.mem_append_right _ (List.mem_of_getElem? (i := 468) (by decide +kernel))) (by decide +kernel)
theorem kw170 : Cond.static Lib.Math.max.name ∈ Tg := mem_Tg (List.mem_append_right _ (List.mem_of_getElem? (i := 170) (by decide +kernel))) (by decide +kernel)
theorem kw9 : Cond.initialized RJ9 ∈ Tg := mem_Tg (List.mem_append_right _ (List.mem_of_getElem? (i := 9) (by decide +kernel))) (by decide +kernel)
theorem kw171 : Cond.code Lib.Math.max.name Lib.Math.max.code 2 (some .int) ∈ Tg := mem_Tg (List.mem_append_right _ (List.mem_of_getElem? (i := 171) (by decide +kernel))) (by decide +kernel)
theorem kw469 : Cond.methodLink RX4 55 Lib.Math.min.name ∈ Tg := mem_Tg (List.mem_append_right _ (List.mem_of_getElem? (i := 469) (by decide +kernel))) (by decide +kernel)
theorem kw377 : Cond.static Lib.Math.min.name ∈ Tg := mem_Tg (List.mem_append_right _ (List.mem_of_getElem? (i := 377) (by decide +kernel))) (by decide +kernel)
theorem kw378 : Cond.code Lib.Math.min.name Lib.Math.min.code 2 (some .int) ∈ Tg := mem_Tg (List.mem_append_right _ (List.mem_of_getElem? (i := 378) (by decide +kernel))) (by decide +kernel)
theorem kw464 : Cond.methodLink RX4 62 yX4_driedBy ∈ Tg := mem_Tg (List.mem_append_right _ (List.mem_of_getElem? (i := 464) (by decide +kernel))) (by decide +kernel)
theorem kw466 : Cond.instanceMethod yX4_driedBy ∈ Tg := mem_Tg (List.mem_append_right _ (List.mem_of_getElem? (i := 466) (by decide +kernel))) (by decide +kernel)
theorem ks8 : Cond.selects RX4 yX4_driedBy yX4_driedBy ∈ Tg := mem_Tg (List.mem_append_left _ (List.mem_of_getElem? (i := 8) (by decide +kernel))) (by decide +kernel)
theorem kw519 : Cond.methodLink RX4 30 yX4_holds ∈ Tg := mem_Tg (List.mem_append_right _ (List.mem_of_getElem? (i := 519) (by decide +kernel))) (by decide +kernel)
theorem kw452 : Cond.instanceMethod yX4_holds ∈ Tg := mem_Tg (List.mem_append_right _ (List.mem_of_getElem? (i := 452) (by decide +kernel))) (by decide +kernel)
theorem kw453 : Cond.selects RX4 yX4_holds yX4_holds ∈ Tg := mem_Tg (List.mem_append_right _ (List.mem_of_getElem? (i := 453) (by decide +kernel))) (by decide +kernel)
theorem kw515 : Cond.methodLink RX4 42 yX4_isOfSide ∈ Tg := mem_Tg (List.mem_append_right _ (List.mem_of_getElem? (i := 515) (by decide +kernel))) (by decide +kernel)
theorem kw516 : Cond.instanceMethod yX4_isOfSide ∈ Tg := mem_Tg (List.mem_append_right _ (List.mem_of_getElem? (i := 516) (by decide +kernel))) (by decide +kernel)
theorem kw517 : Cond.selects RX4 yX4_isOfSide yX4_isOfSide ∈ Tg := mem_Tg (List.mem_append_right _ (List.mem_of_getElem? (i := 517) (by decide +kernel))) (by decide +kernel)
theorem dX9_within_0 : decode cX9_within 0 = .ok (.iload_n 0, 1) := by decide +kernel
theorem dX9_within_1 : decode cX9_within 1 = .ok (.iload_n 1, 1) := by decide +kernel
theorem dX9_within_2 : decode cX9_within 2 = .ok (.if_icmp .lt 12, 3) := by decide +kernel
theorem dX9_within_14 : decode cX9_within 14 = .ok (.iconst 0, 1) := by decide +kernel
theorem dX9_within_15 : decode cX9_within 15 = .ok (.ireturn, 1) := by decide +kernel
theorem dX9_within_5 : decode cX9_within 5 = .ok (.iload_n 0, 1) := by decide +kernel
theorem dX9_within_6 : decode cX9_within 6 = .ok (.iload_n 2, 1) := by decide +kernel
theorem dX9_within_7 : decode cX9_within 7 = .ok (.if_icmp .gt 7, 3) := by decide +kernel
theorem dX9_within_10 : decode cX9_within 10 = .ok (.iconst 1, 1) := by decide +kernel
theorem dX9_within_11 : decode cX9_within 11 = .ok (.goto 4, 3) := by decide +kernel
theorem dX4_holds_0 : decode cX4_holds 0 = .ok (.iload_n 1, 1) := by decide +kernel
theorem dX4_holds_1 : decode cX4_holds 1 = .ok (.iconst 0, 1) := by decide +kernel
theorem dX4_holds_2 : decode cX4_holds 2 = .ok (.aload_n 0, 1) := by decide +kernel
theorem dX4_holds_3 : decode cX4_holds 3 = .ok (.getfield 15, 3) := by decide +kernel
theorem dX4_holds_6 : decode cX4_holds 6 = .ok (.iconst 1, 1) := by decide +kernel
theorem dX4_holds_7 : decode cX4_holds 7 = .ok (.isub, 1) := by decide +kernel
theorem kw338 : Cond.code yX9_within cX9_within 3 (some .boolean) ∈ Tg := mem_Tg (List.mem_append_right _ (List.mem_of_getElem? (i := 338) (by decide +kernel))) (by decide +kernel)
theorem dX4_holds_8 : decode cX4_holds 8 = .ok (.invokestatic 26, 3) := by decide +kernel
theorem dX4_holds_11 : decode cX4_holds 11 = .ok (.ireturn, 1) := by decide +kernel
theorem dX4_cell_0 : decode cX4_cell 0 = .ok (.iload_n 1, 1) := by decide +kernel
theorem dX4_cell_1 : decode cX4_cell 1 = .ok (.ifCond .lt 20, 3) := by decide +kernel
theorem dX4_cell_21 : decode cX4_cell 21 = .ok (.iconst 0, 1) := by decide +kernel
theorem dX4_cell_22 : decode cX4_cell 22 = .ok (.ireturn, 1) := by decide +kernel
theorem dX4_cell_4 : decode cX4_cell 4 = .ok (.iload_n 1, 1) := by decide +kernel
theorem dX4_cell_5 : decode cX4_cell 5 = .ok (.aload_n 0, 1) := by decide +kernel
theorem dX4_cell_6 : decode cX4_cell 6 = .ok (.getfield 15, 3) := by decide +kernel
theorem dX4_cell_9 : decode cX4_cell 9 = .ok (.if_icmp .ge 12, 3) := by decide +kernel
theorem dX4_cell_12 : decode cX4_cell 12 = .ok (.iload_n 2, 1) := by decide +kernel
theorem dX4_cell_13 : decode cX4_cell 13 = .ok (.ifCond .lt 8, 3) := by decide +kernel
theorem dX4_cell_16 : decode cX4_cell 16 = .ok (.iload_n 2, 1) := by decide +kernel
theorem dX4_cell_17 : decode cX4_cell 17 = .ok (.iconst 5, 1) := by decide +kernel
theorem dX4_cell_18 : decode cX4_cell 18 = .ok (.if_icmp .lt 5, 3) := by decide +kernel
theorem dX4_cell_23 : decode cX4_cell 23 = .ok (.iload_n 1, 1) := by decide +kernel
theorem dX4_cell_24 : decode cX4_cell 24 = .ok (.iconst 5, 1) := by decide +kernel
theorem dX4_cell_25 : decode cX4_cell 25 = .ok (.imul, 1) := by decide +kernel
theorem dX4_cell_26 : decode cX4_cell 26 = .ok (.iload_n 2, 1) := by decide +kernel
theorem dX4_cell_27 : decode cX4_cell 27 = .ok (.iadd, 1) := by decide +kernel
theorem dX4_cell_28 : decode cX4_cell 28 = .ok (.istore_n 3, 1) := by decide +kernel
theorem dX4_cell_29 : decode cX4_cell 29 = .ok (.iload_n 3, 1) := by decide +kernel
theorem dX4_cell_30 : decode cX4_cell 30 = .ok (.aload_n 0, 1) := by decide +kernel
theorem dX4_cell_31 : decode cX4_cell 31 = .ok (.getfield 9, 3) := by decide +kernel
theorem dX4_cell_34 : decode cX4_cell 34 = .ok (.arraylength, 1) := by decide +kernel
theorem dX4_cell_35 : decode cX4_cell 35 = .ok (.if_icmp .ge 12, 3) := by decide +kernel
theorem dX4_cell_47 : decode cX4_cell 47 = .ok (.iconst 0, 1) := by decide +kernel
theorem dX4_cell_48 : decode cX4_cell 48 = .ok (.ireturn, 1) := by decide +kernel
theorem dX4_cell_38 : decode cX4_cell 38 = .ok (.aload_n 0, 1) := by decide +kernel
theorem dX4_cell_39 : decode cX4_cell 39 = .ok (.getfield 9, 3) := by decide +kernel
theorem dX4_cell_42 : decode cX4_cell 42 = .ok (.iload_n 3, 1) := by decide +kernel
theorem dX4_cell_43 : decode cX4_cell 43 = .ok (.iaload, 1) := by decide +kernel
theorem dX4_cell_44 : decode cX4_cell 44 = .ok (.goto 4, 3) := by decide +kernel
theorem dX4_driedBy_0 : decode cX4_driedBy 0 = .ok (.aload_n 0, 1) := by decide +kernel
theorem dX4_driedBy_1 : decode cX4_driedBy 1 = .ok (.iload_n 1, 1) := by decide +kernel
theorem dX4_driedBy_2 : decode cX4_driedBy 2 = .ok (.iconst 0, 1) := by decide +kernel
theorem kw463 : Cond.code yX4_cell cX4_cell 4 (some .int) ∈ Tg := mem_Tg (List.mem_append_right _ (List.mem_of_getElem? (i := 463) (by decide +kernel))) (by decide +kernel)
theorem dX4_driedBy_3 : decode cX4_driedBy 3 = .ok (.invokevirtual 38, 3) := by decide +kernel
theorem dX4_driedBy_6 : decode cX4_driedBy 6 = .ok (.iconst 1, 1) := by decide +kernel
theorem dX4_driedBy_7 : decode cX4_driedBy 7 = .ok (.if_icmp .ne 23, 3) := by decide +kernel
theorem dX4_driedBy_30 : decode cX4_driedBy 30 = .ok (.iconst 0, 1) := by decide +kernel
theorem dX4_driedBy_31 : decode cX4_driedBy 31 = .ok (.ireturn, 1) := by decide +kernel
theorem dX4_driedBy_10 : decode cX4_driedBy 10 = .ok (.bipush 30, 2) := by decide +kernel
theorem dX4_driedBy_12 : decode cX4_driedBy 12 = .ok (.iconst 0, 1) := by decide +kernel
theorem dX4_driedBy_13 : decode cX4_driedBy 13 = .ok (.iload_n 2, 1) := by decide +kernel
theorem dX4_driedBy_14 : decode cX4_driedBy 14 = .ok (.aload_n 0, 1) := by decide +kernel
theorem dX4_driedBy_15 : decode cX4_driedBy 15 = .ok (.iload_n 1, 1) := by decide +kernel
theorem dX4_driedBy_16 : decode cX4_driedBy 16 = .ok (.iconst 4, 1) := by decide +kernel
theorem dX4_driedBy_17 : decode cX4_driedBy 17 = .ok (.invokevirtual 38, 3) := by decide +kernel
theorem dX4_driedBy_20 : decode cX4_driedBy 20 = .ok (.isub, 1) := by decide +kernel
theorem dX4_driedBy_21 : decode cX4_driedBy 21 = .ok (.invokestatic 46, 3) := by decide +kernel
theorem dX4_driedBy_24 : decode cX4_driedBy 24 = .ok (.invokestatic 55, 3) := by decide +kernel
theorem dX4_driedBy_27 : decode cX4_driedBy 27 = .ok (.goto 4, 3) := by decide +kernel
theorem dX4_sizeOn_0 : decode cX4_sizeOn 0 = .ok (.aload_n 0, 1) := by decide +kernel
theorem dX4_sizeOn_1 : decode cX4_sizeOn 1 = .ok (.iload_n 1, 1) := by decide +kernel
theorem dX4_sizeOn_2 : decode cX4_sizeOn 2 = .ok (.iconst 2, 1) := by decide +kernel
theorem dX4_sizeOn_3 : decode cX4_sizeOn 3 = .ok (.invokevirtual 38, 3) := by decide +kernel
theorem dX4_sizeOn_6 : decode cX4_sizeOn 6 = .ok (.istore_n 3, 1) := by decide +kernel
theorem dX4_sizeOn_7 : decode cX4_sizeOn 7 = .ok (.iload_n 3, 1) := by decide +kernel
theorem dX4_sizeOn_8 : decode cX4_sizeOn 8 = .ok (.iload_n 3, 1) := by decide +kernel
theorem dX4_sizeOn_9 : decode cX4_sizeOn 9 = .ok (.aload_n 0, 1) := by decide +kernel
theorem dX4_sizeOn_10 : decode cX4_sizeOn 10 = .ok (.iload_n 1, 1) := by decide +kernel
theorem dX4_sizeOn_11 : decode cX4_sizeOn 11 = .ok (.iload_n 2, 1) := by decide +kernel
theorem kw467 : Cond.code yX4_driedBy cX4_driedBy 3 (some .int) ∈ Tg := mem_Tg (List.mem_append_right _ (List.mem_of_getElem? (i := 467) (by decide +kernel))) (by decide +kernel)
theorem dX4_sizeOn_12 : decode cX4_sizeOn 12 = .ok (.invokevirtual 62, 3) := by decide +kernel
theorem dX4_sizeOn_15 : decode cX4_sizeOn 15 = .ok (.imul, 1) := by decide +kernel
theorem dX4_sizeOn_16 : decode cX4_sizeOn 16 = .ok (.sipush 360, 3) := by decide +kernel
theorem dX4_sizeOn_19 : decode cX4_sizeOn 19 = .ok (.idiv, 1) := by decide +kernel
theorem dX4_sizeOn_20 : decode cX4_sizeOn 20 = .ok (.isub, 1) := by decide +kernel
theorem dX4_sizeOn_21 : decode cX4_sizeOn 21 = .ok (.ireturn, 1) := by decide +kernel
theorem dX4_isOfSide_0 : decode cX4_isOfSide 0 = .ok (.aload_n 0, 1) := by decide +kernel
theorem dX4_isOfSide_1 : decode cX4_isOfSide 1 = .ok (.iload_n 1, 1) := by decide +kernel
theorem kw454 : Cond.code yX4_holds cX4_holds 2 (some .boolean) ∈ Tg := mem_Tg (List.mem_append_right _ (List.mem_of_getElem? (i := 454) (by decide +kernel))) (by decide +kernel)
theorem dX4_isOfSide_2 : decode cX4_isOfSide 2 = .ok (.invokevirtual 30, 3) := by decide +kernel
theorem dX4_isOfSide_5 : decode cX4_isOfSide 5 = .ok (.ifCond .eq 17, 3) := by decide +kernel
theorem dX4_isOfSide_22 : decode cX4_isOfSide 22 = .ok (.iconst 0, 1) := by decide +kernel
theorem dX4_isOfSide_23 : decode cX4_isOfSide 23 = .ok (.ireturn, 1) := by decide +kernel
theorem dX4_isOfSide_8 : decode cX4_isOfSide 8 = .ok (.aload_n 0, 1) := by decide +kernel
theorem dX4_isOfSide_9 : decode cX4_isOfSide 9 = .ok (.iload_n 1, 1) := by decide +kernel
theorem dX4_isOfSide_10 : decode cX4_isOfSide 10 = .ok (.iconst 1, 1) := by decide +kernel
theorem dX4_isOfSide_11 : decode cX4_isOfSide 11 = .ok (.invokevirtual 38, 3) := by decide +kernel
theorem dX4_isOfSide_14 : decode cX4_isOfSide 14 = .ok (.iload_n 2, 1) := by decide +kernel
theorem dX4_isOfSide_15 : decode cX4_isOfSide 15 = .ok (.if_icmp .ne 7, 3) := by decide +kernel
theorem dX4_isOfSide_18 : decode cX4_isOfSide 18 = .ok (.iconst 1, 1) := by decide +kernel
theorem dX4_isOfSide_19 : decode cX4_isOfSide 19 = .ok (.goto 4, 3) := by decide +kernel
theorem dX4_ofSide_0 : decode cX4_ofSide 0 = .ok (.iconst 0, 1) := by decide +kernel
theorem dX4_ofSide_1 : decode cX4_ofSide 1 = .ok (.istore_n 2, 1) := by decide +kernel
theorem dX4_ofSide_2 : decode cX4_ofSide 2 = .ok (.iconst 0, 1) := by decide +kernel
theorem dX4_ofSide_3 : decode cX4_ofSide 3 = .ok (.istore_n 3, 1) := by decide +kernel
theorem dX4_ofSide_4 : decode cX4_ofSide 4 = .ok (.iload_n 3, 1) := by decide +kernel
theorem dX4_ofSide_5 : decode cX4_ofSide 5 = .ok (.aload_n 0, 1) := by decide +kernel
theorem dX4_ofSide_6 : decode cX4_ofSide 6 = .ok (.getfield 15, 3) := by decide +kernel
theorem dX4_ofSide_9 : decode cX4_ofSide 9 = .ok (.if_icmp .ge 24, 3) := by decide +kernel
theorem dX4_ofSide_12 : decode cX4_ofSide 12 = .ok (.aload_n 0, 1) := by decide +kernel
theorem dX4_ofSide_13 : decode cX4_ofSide 13 = .ok (.iload_n 3, 1) := by decide +kernel
theorem dX4_ofSide_14 : decode cX4_ofSide 14 = .ok (.iload_n 1, 1) := by decide +kernel
theorem kw518 : Cond.code yX4_isOfSide cX4_isOfSide 3 (some .boolean) ∈ Tg := mem_Tg (List.mem_append_right _ (List.mem_of_getElem? (i := 518) (by decide +kernel))) (by decide +kernel)
theorem dX4_ofSide_15 : decode cX4_ofSide 15 = .ok (.invokevirtual 42, 3) := by decide +kernel
theorem dX4_ofSide_18 : decode cX4_ofSide 18 = .ok (.ifCond .eq 9, 3) := by decide +kernel
theorem dX4_ofSide_27 : decode cX4_ofSide 27 = .ok (.iinc 3 1, 3) := by decide +kernel
theorem dX4_ofSide_30 : decode cX4_ofSide 30 = .ok (.goto (-26), 3) := by decide +kernel
theorem dX4_ofSide_21 : decode cX4_ofSide 21 = .ok (.iload_n 2, 1) := by decide +kernel
theorem dX4_ofSide_22 : decode cX4_ofSide 22 = .ok (.iconst 1, 1) := by decide +kernel
theorem dX4_ofSide_23 : decode cX4_ofSide 23 = .ok (.iload_n 3, 1) := by decide +kernel
theorem dX4_ofSide_24 : decode cX4_ofSide 24 = .ok (.ishl, 1) := by decide +kernel
theorem dX4_ofSide_25 : decode cX4_ofSide 25 = .ok (.ior, 1) := by decide +kernel
theorem dX4_ofSide_26 : decode cX4_ofSide 26 = .ok (.istore_n 2, 1) := by decide +kernel
theorem dX4_ofSide_33 : decode cX4_ofSide 33 = .ok (.iload_n 2, 1) := by decide +kernel
theorem dX4_ofSide_34 : decode cX4_ofSide 34 = .ok (.ireturn, 1) := by decide +kernel
theorem fg_X4_15 : FG RX4 15 4 1 .int false := ⟨RX4, TX4, 3, tyX4, rfl, in4, by decide, tyX4_ok, nmX4, kw58, rfl, by decide +kernel, fun _ => rfl⟩
theorem cn_X4_26 : CNw RX4 26 yX9_within "LeftAndRight" 3 := ⟨by decide +kernel, kn21, kw337, kw1⟩
theorem fg_X4_9 : FG RX4 9 4 0 (.array .int) true := ⟨RX4, TX4, 3, tyX4, rfl, in4, by decide, tyX4_ok, nmX4, kw57, rfl, by decide +kernel, fun _ => rfl⟩
theorem cv_X4_38 : CVw RX4 38 RX4 yX4_cell 2 := ⟨by decide +kernel, kw460, kw461, kw462, kw4⟩
theorem mh_X4_46 : MH RX4 46 Lib.Math.max.name Lib.Math.max.code 2 := ⟨kw468, kw170, kw9, kw171⟩
theorem mh_X4_55 : MH RX4 55 Lib.Math.min.name Lib.Math.min.code 2 := ⟨kw469, kw377, kw9, kw378⟩
theorem cv_X4_62 : CVw RX4 62 RX4 yX4_driedBy 2 := ⟨by decide +kernel, kw464, kw466, ks8, kw4⟩
theorem cv_X4_30 : CVw RX4 30 RX4 yX4_holds 1 := ⟨by decide +kernel, kw519, kw452, kw453, kw4⟩
theorem cv_X4_42 : CVw RX4 42 RX4 yX4_isOfSide 2 := ⟨by decide +kernel, kw515, kw516, kw517, kw4⟩
def f_X9_within (x1 : Int32) (x2 : Int32) (x3 : Int32) : Option (Int32) :=
  if x1 < x2 then (some 0) else
  if x3 < x1 then (some 0) else
  some 1
set_option maxHeartbeats 8000000 in
set_option maxRecDepth 100000 in
theorem c_X9_within (l : Launch) (dC : Nat → ClassId) (dI : Nat → Nat → Nat) (cc : Nat → ClassId) (x1 : Int32) (x2 : Int32) (x3 : Int32) (sz : Nat) (ret : Int32) (hu : f_X9_within x1 x2 x3 = some ret) : Met l yX9_within (mw yX9_within cX9_within 3 (some .boolean)) ({ frames := 0, cells := 0, slots := 0, locals := 0 } : Room) (va_Pc [.int x1, .int x2, .int x3] (mP (dC, dI) (ts cc) sz [])) ((fun A => va_Qi (fun (r : Int32) (w : Unit) => narrow .boolean (.int r) = .int r ∧ (r = ret ∧ w = ())) (fun (w : Unit) t => va_P (dC, dI) classes [] t.heap) A) (va_A [] sz)) 0 0 (va_A [] sz) := by
  refine met_go (Qc := fun A => va_Qi (fun (r : Int32) (w : Unit) => narrow .boolean (.int r) = .int r ∧ (r = ret ∧ w = ())) (fun (w : Unit) t => va_P (dC, dI) classes [] t.heap) A) (by decide) (Nat.le_of_ble_eq_true rfl) ?_
  intro p e s m below meth c A ls H locs hC hr hlk hin hA hP hl _
  have hC : CX p m c cX9_within 3 s ([.int x1, .int x2, .int x3] : List Value).toArray RX9 (dC, dI) (ts cc) := hC
  have hx := hC.1.1
  have hb := hC.1.2
  have h := hu
  unfold f_X9_within at h
  have hl : lv_has ls 3 [(0, .int x1), (1, .int x2), (2, .int x3)] := hl
  refine lv_iload_n hx hb dX9_within_0 rfl (lv_at hl 0 rfl) ?_
  refine lv_iload_n hx hb dX9_within_1 rfl (lv_at hl 1 rfl) ?_
  refine lv_icmp_lt (tgt := 14) hx hb dX9_within_2 (by decide) (fun c1 => ?_) (fun c1 => ?_)
  · have h := if_t c1 h
    refine lv_iconst (v := 0) hx hb dX9_within_14 (by decide) ?_
    exact ret_z hC hr rfl hlk hP dX9_within_15 () (⟨Option.some.inj h, rfl⟩) rfl
  · have h := if_f c1 h
    refine lv_iload_n hx hb dX9_within_5 rfl (lv_at hl 0 rfl) ?_
    refine lv_iload_n hx hb dX9_within_6 rfl (lv_at hl 2 rfl) ?_
    refine lv_icmp_gt (tgt := 14) hx hb dX9_within_7 (by decide) (fun c2 => ?_) (fun c2 => ?_)
    · have h := if_t c2 h
      refine lv_iconst (v := 0) hx hb dX9_within_14 (by decide) ?_
      exact ret_z hC hr rfl hlk hP dX9_within_15 () (⟨Option.some.inj h, rfl⟩) rfl
    · have h := if_f c2 h
      refine lv_iconst (v := 1) hx hb dX9_within_10 (by decide) ?_
      refine lv_goto (tgt := 15) hx hb dX9_within_11 (by decide) ?_
      exact ret_z hC hr rfl hlk hP dX9_within_15 () (⟨Option.some.inj h, rfl⟩) rfl
def f_X4_holds (x1 : Int32) (clogs : Int32) : Option (Int32) :=
  bnd (f_X9_within x1 0 (clogs - 1)) <|  fun r1 =>
  some r1
set_option maxHeartbeats 8000000 in
set_option maxRecDepth 100000 in
theorem c_X4_holds (l : Launch) (dC : Nat → ClassId) (dI : Nat → Nat → Nat) (cc : Nat → ClassId) (q0 q1 : Nat) (clogs : Int32) (day : Int32) (x1 : Int32) (sz : Nat) (ret : Int32) (hu : f_X4_holds x1 clogs = some ret) : Met l yX4_holds (mw yX4_holds cX4_holds 2 (some .boolean)) ({ frames := 1, cells := 0, slots := 0, locals := 22 } : Room) (va_Pc [.ref q0, .int x1] (mP (dC, dI) (ts cc) sz [(q0, .inr (4, [.ref q1, .int clogs, .int day]))])) ((fun A => va_Qi (fun (r : Int32) (w : Unit) => narrow .boolean (.int r) = .int r ∧ (r = ret ∧ w = ())) (fun (w : Unit) t => va_P (dC, dI) classes [(q0, .inr (4, [.ref q1, .int clogs, .int day]))] t.heap) A) (va_A [(q0, .inr (4, [.ref q1, .int clogs, .int day]))] sz)) 0 0 (va_A [(q0, .inr (4, [.ref q1, .int clogs, .int day]))] sz) := by
  refine met_go (Qc := fun A => va_Qi (fun (r : Int32) (w : Unit) => narrow .boolean (.int r) = .int r ∧ (r = ret ∧ w = ())) (fun (w : Unit) t => va_P (dC, dI) classes [(q0, .inr (4, [.ref q1, .int clogs, .int day]))] t.heap) A) (by decide) (Nat.le_of_ble_eq_true rfl) ?_
  intro p e s m below meth c A ls H locs hC hr hlk hin hA hP hl _
  have hC : CX p m c cX4_holds 2 s ([.ref q0, .int x1] : List Value).toArray RX4 (dC, dI) (ts cc) := hC
  have hx := hC.1.1
  have hb := hC.1.2
  have h := hu
  unfold f_X4_holds at h
  have hl : lv_has ls 2 [(0, .ref q0), (1, .int x1)] := hl
  refine lv_iload_n hx hb dX4_holds_0 rfl (lv_at hl 1 rfl) ?_
  refine lv_iconst (v := 0) hx hb dX4_holds_1 (by decide) ?_
  refine lv_aload_n hx hb dX4_holds_2 rfl (lv_at hl 0 rfl) ?_
  refine g_get hC hP fg_X4_15 0 rfl rfl dX4_holds_3 ?_
  refine lv_iconst (v := 1) hx hb dX4_holds_6 (by decide) ?_
  refine lv_isub hx hb dX4_holds_7 ?_
  obtain ⟨r1, hu, h⟩ := bnd_h h
  refine kc_z (kN hC (c_X9_within l dC dI cc x1 0 (clogs - 1) H.size r1 hu) cn_X4_26 kw338 rfl rfl ⟨(Nat.le_of_ble_eq_true rfl), (Nat.le_of_ble_eq_true rfl)⟩ hP [] rfl rfl (As := [.int x1, .int 0, .int (clogs - 1)]) (rest := []) rfl rfl hl.1 (Nat.le_of_ble_eq_true rfl) dX4_holds_8 ⟨Nat.zero_le _, Nat.zero_le _⟩) hP hA [] rfl rfl (fun hz_r1 H locs hP => ?_)
  have hP : PD (dC, dI) A s.heap [(q0, .inr (4, [.ref q1, .int clogs, .int day]))] H locs := hP
  exact ret_z hC hr hz_r1 hlk hP dX4_holds_11 () (⟨Option.some.inj h, rfl⟩) rfl
def f_X4_cell (x1 : Int32) (x2 : Int32) (clogs : Int32) (cells : (Nat → Int32)) : Option (Int32) :=
  if x1 < 0 then (some 0) else
  if clogs ≤ x1 then (some 0) else
  if x2 < 0 then (some 0) else
  if x2 < 5 then (if 50 ≤ ((x1 * 5) + x2) then (some 0) else
  bnd (rd 50 cells ((x1 * 5) + x2)) fun v6 =>
  some v6) else
  some 0
set_option maxHeartbeats 8000000 in
set_option maxRecDepth 100000 in
theorem c_X4_cell (l : Launch) (dC : Nat → ClassId) (dI : Nat → Nat → Nat) (cc : Nat → ClassId) (q0 q1 : Nat) (clogs : Int32) (day : Int32) (cells : (Nat → Int32)) (x1 : Int32) (x2 : Int32) (sz : Nat) (ret : Int32) (hu : f_X4_cell x1 x2 clogs cells = some ret) : Met l yX4_cell (mw yX4_cell cX4_cell 4 (some .int)) ({ frames := 0, cells := 0, slots := 0, locals := 0 } : Room) (va_Pc [.ref q0, .int x1, .int x2] (mP (dC, dI) (ts cc) sz [(q0, .inr (4, [.ref q1, .int clogs, .int day])), (q1, .inl (cc 0, 50, .inl cells))])) ((fun A => va_Qi (fun (r : Int32) (w : Unit) => r = ret ∧ w = ()) (fun (w : Unit) t => va_P (dC, dI) classes [(q0, .inr (4, [.ref q1, .int clogs, .int day])), (q1, .inl (cc 0, 50, .inl cells))] t.heap) A) (va_A [(q0, .inr (4, [.ref q1, .int clogs, .int day])), (q1, .inl (cc 0, 50, .inl cells))] sz)) 0 0 (va_A [(q0, .inr (4, [.ref q1, .int clogs, .int day])), (q1, .inl (cc 0, 50, .inl cells))] sz) := by
  refine met_go (Qc := fun A => va_Qi (fun (r : Int32) (w : Unit) => r = ret ∧ w = ()) (fun (w : Unit) t => va_P (dC, dI) classes [(q0, .inr (4, [.ref q1, .int clogs, .int day])), (q1, .inl (cc 0, 50, .inl cells))] t.heap) A) (by decide) (Nat.le_of_ble_eq_true rfl) ?_
  intro p e s m below meth c A ls H locs hC hr hlk hin hA hP hl _
  have hC : CX p m c cX4_cell 4 s ([.ref q0, .int x1, .int x2] : List Value).toArray RX4 (dC, dI) (ts cc) := hC
  have hx := hC.1.1
  have hb := hC.1.2
  have h := hu
  unfold f_X4_cell at h
  have hl : lv_has ls 4 [(0, .ref q0), (1, .int x1), (2, .int x2)] := hl
  refine lv_iload_n hx hb dX4_cell_0 rfl (lv_at hl 1 rfl) ?_
  refine lv_if_lt (tgt := 21) hx hb dX4_cell_1 (by decide) (fun c1 => ?_) (fun c1 => ?_)
  · have h := if_t c1 h
    refine lv_iconst (v := 0) hx hb dX4_cell_21 (by decide) ?_
    exact ret_i hC hr hlk hP dX4_cell_22 () (⟨Option.some.inj h, rfl⟩) rfl
  · have h := if_f c1 h
    refine lv_iload_n hx hb dX4_cell_4 rfl (lv_at hl 1 rfl) ?_
    refine lv_aload_n hx hb dX4_cell_5 rfl (lv_at hl 0 rfl) ?_
    refine g_get hC hP fg_X4_15 0 rfl rfl dX4_cell_6 ?_
    refine lv_icmp_ge (tgt := 21) hx hb dX4_cell_9 (by decide) (fun c2 => ?_) (fun c2 => ?_)
    · have h := if_t c2 h
      refine lv_iconst (v := 0) hx hb dX4_cell_21 (by decide) ?_
      exact ret_i hC hr hlk hP dX4_cell_22 () (⟨Option.some.inj h, rfl⟩) rfl
    · have h := if_f c2 h
      refine lv_iload_n hx hb dX4_cell_12 rfl (lv_at hl 2 rfl) ?_
      refine lv_if_lt (tgt := 21) hx hb dX4_cell_13 (by decide) (fun c3 => ?_) (fun c3 => ?_)
      · have h := if_t c3 h
        refine lv_iconst (v := 0) hx hb dX4_cell_21 (by decide) ?_
        exact ret_i hC hr hlk hP dX4_cell_22 () (⟨Option.some.inj h, rfl⟩) rfl
      · have h := if_f c3 h
        refine lv_iload_n hx hb dX4_cell_16 rfl (lv_at hl 2 rfl) ?_
        refine lv_iconst (v := 5) hx hb dX4_cell_17 (by decide) ?_
        refine lv_icmp_lt (tgt := 23) hx hb dX4_cell_18 (by decide) (fun c4 => ?_) (fun c4 => ?_)
        · have h := if_t c4 h
          refine lv_iload_n hx hb dX4_cell_23 rfl (lv_at hl 1 rfl) ?_
          refine lv_iconst (v := 5) hx hb dX4_cell_24 (by decide) ?_
          refine lv_imul hx hb dX4_cell_25 ?_
          refine lv_iload_n hx hb dX4_cell_26 rfl (lv_at hl 2 rfl) ?_
          refine lv_iadd hx hb dX4_cell_27 ?_
          refine lv_istore_n (lv' := [(3, .int ((x1 * 5) + x2)), (0, .ref q0), (1, .int x1), (2, .int x2)]) hx hb dX4_cell_28 rfl hl (by decide) rfl (fun ls hl => ?_)
          refine lv_iload_n hx hb dX4_cell_29 rfl (lv_at hl 0 rfl) ?_
          refine lv_aload_n hx hb dX4_cell_30 rfl (lv_at hl 1 rfl) ?_
          refine g_get hC hP fg_X4_9 0 rfl rfl dX4_cell_31 ?_
          refine g_alen hC hP 1 0 rfl rfl (v := 50) rfl dX4_cell_34 ?_
          refine lv_icmp_ge (tgt := 47) hx hb dX4_cell_35 (by decide) (fun c5 => ?_) (fun c5 => ?_)
          · have h := if_t c5 h
            refine lv_iconst (v := 0) hx hb dX4_cell_47 (by decide) ?_
            exact ret_i hC hr hlk hP dX4_cell_48 () (⟨Option.some.inj h, rfl⟩) rfl
          · have h := if_f c5 h
            refine lv_aload_n hx hb dX4_cell_38 rfl (lv_at hl 1 rfl) ?_
            refine g_get hC hP fg_X4_9 0 rfl rfl dX4_cell_39 ?_
            refine lv_iload_n hx hb dX4_cell_42 rfl (lv_at hl 0 rfl) ?_
            obtain ⟨hin, h⟩ := rd_h h
            refine g_iald hC hP 1 0 rfl rfl hin dX4_cell_43 (fun v6 ev => ?_)
            have h := h v6 ev
            refine lv_goto (tgt := 48) hx hb dX4_cell_44 (by decide) ?_
            exact ret_i hC hr hlk hP dX4_cell_48 () (⟨Option.some.inj h, rfl⟩) rfl
        · have h := if_f c4 h
          refine lv_iconst (v := 0) hx hb dX4_cell_21 (by decide) ?_
          exact ret_i hC hr hlk hP dX4_cell_22 () (⟨Option.some.inj h, rfl⟩) rfl
def f_X4_driedBy (x1 : Int32) (x2 : Int32) (clogs : Int32) (cells : (Nat → Int32)) : Option (Int32) :=
  bnd (f_X4_cell x1 0 clogs cells) <|  fun r1 =>
  if r1 = 1 then (bnd (f_X4_cell x1 4 clogs cells) <|  fun r3 =>
  bnd (some (if 0 < (x2 - r3) then (x2 - r3) else 0)) fun v4 =>
  bnd (some (if v4 < 30 then v4 else 30)) fun v5 =>
  some v5) else
  some 0
set_option maxHeartbeats 8000000 in
set_option maxRecDepth 100000 in
theorem c_X4_driedBy (l : Launch) (dC : Nat → ClassId) (dI : Nat → Nat → Nat) (cc : Nat → ClassId) (q0 q1 : Nat) (clogs : Int32) (day : Int32) (cells : (Nat → Int32)) (x1 : Int32) (x2 : Int32) (sz : Nat) (ret : Int32) (hu : f_X4_driedBy x1 x2 clogs cells = some ret) : Met l yX4_driedBy (mw yX4_driedBy cX4_driedBy 3 (some .int)) ({ frames := 1, cells := 0, slots := 0, locals := 23 } : Room) (va_Pc [.ref q0, .int x1, .int x2] (mP (dC, dI) (ts cc) sz [(q0, .inr (4, [.ref q1, .int clogs, .int day])), (q1, .inl (cc 0, 50, .inl cells))])) ((fun A => va_Qi (fun (r : Int32) (w : Unit) => r = ret ∧ w = ()) (fun (w : Unit) t => va_P (dC, dI) classes [(q0, .inr (4, [.ref q1, .int clogs, .int day])), (q1, .inl (cc 0, 50, .inl cells))] t.heap) A) (va_A [(q0, .inr (4, [.ref q1, .int clogs, .int day])), (q1, .inl (cc 0, 50, .inl cells))] sz)) 0 0 (va_A [(q0, .inr (4, [.ref q1, .int clogs, .int day])), (q1, .inl (cc 0, 50, .inl cells))] sz) := by
  refine met_go (Qc := fun A => va_Qi (fun (r : Int32) (w : Unit) => r = ret ∧ w = ()) (fun (w : Unit) t => va_P (dC, dI) classes [(q0, .inr (4, [.ref q1, .int clogs, .int day])), (q1, .inl (cc 0, 50, .inl cells))] t.heap) A) (by decide) (Nat.le_of_ble_eq_true rfl) ?_
  intro p e s m below meth c A ls H locs hC hr hlk hin hA hP hl _
  have hC : CX p m c cX4_driedBy 3 s ([.ref q0, .int x1, .int x2] : List Value).toArray RX4 (dC, dI) (ts cc) := hC
  have hx := hC.1.1
  have hb := hC.1.2
  have h := hu
  unfold f_X4_driedBy at h
  have hl : lv_has ls 3 [(0, .ref q0), (1, .int x1), (2, .int x2)] := hl
  refine lv_aload_n hx hb dX4_driedBy_0 rfl (lv_at hl 0 rfl) ?_
  refine lv_iload_n hx hb dX4_driedBy_1 rfl (lv_at hl 1 rfl) ?_
  refine lv_iconst (v := 0) hx hb dX4_driedBy_2 (by decide) ?_
  obtain ⟨r1, hu, h⟩ := bnd_h h
  refine kc_i (kV hC (c_X4_cell l dC dI cc q0 q1 clogs day cells x1 0 H.size r1 hu) cv_X4_38 kw463 rfl rfl ⟨(Nat.le_of_ble_eq_true rfl), (Nat.le_of_ble_eq_true rfl)⟩ hP [0, 1] rfl rfl rfl (q0 := 0) rfl (As := [.int x1, .int 0]) (rest := []) rfl rfl hl.1 (Nat.le_of_ble_eq_true rfl) dX4_driedBy_3 ⟨Nat.zero_le _, Nat.zero_le _⟩) hP hA [0, 1] rfl rfl (fun H locs hP => ?_)
  have hP : PD (dC, dI) A s.heap [(q0, .inr (4, [.ref q1, .int clogs, .int day])), (q1, .inl (cc 0, 50, .inl cells))] H locs := hP
  refine lv_iconst (v := 1) hx hb dX4_driedBy_6 (by decide) ?_
  refine lv_icmp_ne (tgt := 30) hx hb dX4_driedBy_7 (by decide) (fun c2 => ?_) (fun c2 => ?_)
  · have h := if_f c2 h
    refine lv_iconst (v := 0) hx hb dX4_driedBy_30 (by decide) ?_
    exact ret_i hC hr hlk hP dX4_driedBy_31 () (⟨Option.some.inj h, rfl⟩) rfl
  · have h := if_t c2 h
    refine lv_bipush (v := 30) hx hb dX4_driedBy_10 (by decide) ?_
    refine lv_iconst (v := 0) hx hb dX4_driedBy_12 (by decide) ?_
    refine lv_iload_n hx hb dX4_driedBy_13 rfl (lv_at hl 2 rfl) ?_
    refine lv_aload_n hx hb dX4_driedBy_14 rfl (lv_at hl 0 rfl) ?_
    refine lv_iload_n hx hb dX4_driedBy_15 rfl (lv_at hl 1 rfl) ?_
    refine lv_iconst (v := 4) hx hb dX4_driedBy_16 (by decide) ?_
    obtain ⟨r3, hu, h⟩ := bnd_h h
    refine kc_i (kV hC (c_X4_cell l dC dI cc q0 q1 clogs day cells x1 4 H.size r3 hu) cv_X4_38 kw463 rfl rfl ⟨(Nat.le_of_ble_eq_true rfl), (Nat.le_of_ble_eq_true rfl)⟩ hP [0, 1] rfl rfl rfl (q0 := 0) rfl (As := [.int x1, .int 4]) (rest := [.int x2, .int 0, .int 30]) rfl rfl hl.1 (Nat.le_of_ble_eq_true rfl) dX4_driedBy_17 ⟨Nat.zero_le _, Nat.zero_le _⟩) hP hA [0, 1] rfl rfl (fun H locs hP => ?_)
    have hP : PD (dC, dI) A s.heap [(q0, .inr (4, [.ref q1, .int clogs, .int day])), (q1, .inl (cc 0, 50, .inl cells))] H locs := hP
    refine lv_isub hx hb dX4_driedBy_20 ?_
    refine g_max hC hl.1 mh_X4_46 (Nat.le_of_ble_eq_true rfl) (Nat.le_of_ble_eq_true rfl) (Nat.zero_le _) (Nat.zero_le _) dX4_driedBy_21 ?_
    refine lv_topi (fun v4 ev => ?_)
    have h := nm_h ev h
    refine g_min hC hl.1 mh_X4_55 (Nat.le_of_ble_eq_true rfl) (Nat.le_of_ble_eq_true rfl) (Nat.zero_le _) (Nat.zero_le _) dX4_driedBy_24 ?_
    refine lv_topi (fun v5 ev => ?_)
    have h := nm_h ev h
    refine lv_goto (tgt := 31) hx hb dX4_driedBy_27 (by decide) ?_
    exact ret_i hC hr hlk hP dX4_driedBy_31 () (⟨Option.some.inj h, rfl⟩) rfl
def f_X4_sizeOn (x1 : Int32) (x2 : Int32) (clogs : Int32) (cells : (Nat → Int32)) : Option (Int32) :=
  bnd (f_X4_cell x1 2 clogs cells) <|  fun r1 =>
  bnd (f_X4_driedBy x1 x2 clogs cells) <|  fun r2 =>
  some (r1 - ((r1 * r2) / 360))
set_option maxHeartbeats 8000000 in
set_option maxRecDepth 100000 in
theorem c_X4_sizeOn (l : Launch) (dC : Nat → ClassId) (dI : Nat → Nat → Nat) (cc : Nat → ClassId) (q0 q1 : Nat) (clogs : Int32) (day : Int32) (cells : (Nat → Int32)) (x1 : Int32) (x2 : Int32) (sz : Nat) (ret : Int32) (hu : f_X4_sizeOn x1 x2 clogs cells = some ret) : Met l yX4_sizeOn (mw yX4_sizeOn cX4_sizeOn 4 (some .int)) ({ frames := 2, cells := 0, slots := 0, locals := 45 } : Room) (va_Pc [.ref q0, .int x1, .int x2] (mP (dC, dI) (ts cc) sz [(q0, .inr (4, [.ref q1, .int clogs, .int day])), (q1, .inl (cc 0, 50, .inl cells))])) ((fun A => va_Qi (fun (r : Int32) (w : Unit) => r = ret ∧ w = ()) (fun (w : Unit) t => va_P (dC, dI) classes [(q0, .inr (4, [.ref q1, .int clogs, .int day])), (q1, .inl (cc 0, 50, .inl cells))] t.heap) A) (va_A [(q0, .inr (4, [.ref q1, .int clogs, .int day])), (q1, .inl (cc 0, 50, .inl cells))] sz)) 0 0 (va_A [(q0, .inr (4, [.ref q1, .int clogs, .int day])), (q1, .inl (cc 0, 50, .inl cells))] sz) := by
  refine met_go (Qc := fun A => va_Qi (fun (r : Int32) (w : Unit) => r = ret ∧ w = ()) (fun (w : Unit) t => va_P (dC, dI) classes [(q0, .inr (4, [.ref q1, .int clogs, .int day])), (q1, .inl (cc 0, 50, .inl cells))] t.heap) A) (by decide) (Nat.le_of_ble_eq_true rfl) ?_
  intro p e s m below meth c A ls H locs hC hr hlk hin hA hP hl _
  have hC : CX p m c cX4_sizeOn 4 s ([.ref q0, .int x1, .int x2] : List Value).toArray RX4 (dC, dI) (ts cc) := hC
  have hx := hC.1.1
  have hb := hC.1.2
  have h := hu
  unfold f_X4_sizeOn at h
  have hl : lv_has ls 4 [(0, .ref q0), (1, .int x1), (2, .int x2)] := hl
  refine lv_aload_n hx hb dX4_sizeOn_0 rfl (lv_at hl 0 rfl) ?_
  refine lv_iload_n hx hb dX4_sizeOn_1 rfl (lv_at hl 1 rfl) ?_
  refine lv_iconst (v := 2) hx hb dX4_sizeOn_2 (by decide) ?_
  obtain ⟨r1, hu, h⟩ := bnd_h h
  refine kc_i (kV hC (c_X4_cell l dC dI cc q0 q1 clogs day cells x1 2 H.size r1 hu) cv_X4_38 kw463 rfl rfl ⟨(Nat.le_of_ble_eq_true rfl), (Nat.le_of_ble_eq_true rfl)⟩ hP [0, 1] rfl rfl rfl (q0 := 0) rfl (As := [.int x1, .int 2]) (rest := []) rfl rfl hl.1 (Nat.le_of_ble_eq_true rfl) dX4_sizeOn_3 ⟨Nat.zero_le _, Nat.zero_le _⟩) hP hA [0, 1] rfl rfl (fun H locs hP => ?_)
  have hP : PD (dC, dI) A s.heap [(q0, .inr (4, [.ref q1, .int clogs, .int day])), (q1, .inl (cc 0, 50, .inl cells))] H locs := hP
  refine lv_istore_n (lv' := [(3, .int r1), (0, .ref q0), (1, .int x1), (2, .int x2)]) hx hb dX4_sizeOn_6 rfl hl (by decide) rfl (fun ls hl => ?_)
  refine lv_iload_n hx hb dX4_sizeOn_7 rfl (lv_at hl 0 rfl) ?_
  refine lv_iload_n hx hb dX4_sizeOn_8 rfl (lv_at hl 0 rfl) ?_
  refine lv_aload_n hx hb dX4_sizeOn_9 rfl (lv_at hl 1 rfl) ?_
  refine lv_iload_n hx hb dX4_sizeOn_10 rfl (lv_at hl 2 rfl) ?_
  refine lv_iload_n hx hb dX4_sizeOn_11 rfl (lv_at hl 3 rfl) ?_
  obtain ⟨r2, hu, h⟩ := bnd_h h
  refine kc_i (kV hC (c_X4_driedBy l dC dI cc q0 q1 clogs day cells x1 x2 H.size r2 hu) cv_X4_62 kw467 rfl rfl ⟨(Nat.le_of_ble_eq_true rfl), (Nat.le_of_ble_eq_true rfl)⟩ hP [0, 1] rfl rfl rfl (q0 := 0) rfl (As := [.int x1, .int x2]) (rest := [.int r1, .int r1]) rfl rfl hl.1 (Nat.le_of_ble_eq_true rfl) dX4_sizeOn_12 ⟨Nat.zero_le _, Nat.zero_le _⟩) hP hA [0, 1] rfl rfl (fun H locs hP => ?_)
  have hP : PD (dC, dI) A s.heap [(q0, .inr (4, [.ref q1, .int clogs, .int day])), (q1, .inl (cc 0, 50, .inl cells))] H locs := hP
  refine lv_imul hx hb dX4_sizeOn_15 ?_
  refine lv_sipush (v := 360) hx hb dX4_sizeOn_16 (by decide) ?_
  refine lv_idiv hx hb dX4_sizeOn_19 (by decide) ?_
  refine lv_isub hx hb dX4_sizeOn_20 ?_
  exact ret_i hC hr hlk hP dX4_sizeOn_21 () (⟨Option.some.inj h, rfl⟩) rfl
def f_X4_isOfSide (x1 : Int32) (x2 : Int32) (clogs : Int32) (cells : (Nat → Int32)) : Option (Int32) :=
  bnd (f_X4_holds x1 clogs) <|  fun r1 =>
  if r1 = 0 then (some 0) else
  bnd (f_X4_cell x1 1 clogs cells) <|  fun r3 =>
  if r3 = x2 then (some 1) else
  some 0
set_option maxHeartbeats 8000000 in
set_option maxRecDepth 100000 in
theorem c_X4_isOfSide (l : Launch) (dC : Nat → ClassId) (dI : Nat → Nat → Nat) (cc : Nat → ClassId) (q0 q1 : Nat) (clogs : Int32) (day : Int32) (cells : (Nat → Int32)) (x1 : Int32) (x2 : Int32) (sz : Nat) (ret : Int32) (hu : f_X4_isOfSide x1 x2 clogs cells = some ret) : Met l yX4_isOfSide (mw yX4_isOfSide cX4_isOfSide 3 (some .boolean)) ({ frames := 2, cells := 0, slots := 0, locals := 43 } : Room) (va_Pc [.ref q0, .int x1, .int x2] (mP (dC, dI) (ts cc) sz [(q0, .inr (4, [.ref q1, .int clogs, .int day])), (q1, .inl (cc 0, 50, .inl cells))])) ((fun A => va_Qi (fun (r : Int32) (w : Unit) => narrow .boolean (.int r) = .int r ∧ (r = ret ∧ w = ())) (fun (w : Unit) t => va_P (dC, dI) classes [(q0, .inr (4, [.ref q1, .int clogs, .int day])), (q1, .inl (cc 0, 50, .inl cells))] t.heap) A) (va_A [(q0, .inr (4, [.ref q1, .int clogs, .int day])), (q1, .inl (cc 0, 50, .inl cells))] sz)) 0 0 (va_A [(q0, .inr (4, [.ref q1, .int clogs, .int day])), (q1, .inl (cc 0, 50, .inl cells))] sz) := by
  refine met_go (Qc := fun A => va_Qi (fun (r : Int32) (w : Unit) => narrow .boolean (.int r) = .int r ∧ (r = ret ∧ w = ())) (fun (w : Unit) t => va_P (dC, dI) classes [(q0, .inr (4, [.ref q1, .int clogs, .int day])), (q1, .inl (cc 0, 50, .inl cells))] t.heap) A) (by decide) (Nat.le_of_ble_eq_true rfl) ?_
  intro p e s m below meth c A ls H locs hC hr hlk hin hA hP hl _
  have hC : CX p m c cX4_isOfSide 3 s ([.ref q0, .int x1, .int x2] : List Value).toArray RX4 (dC, dI) (ts cc) := hC
  have hx := hC.1.1
  have hb := hC.1.2
  have h := hu
  unfold f_X4_isOfSide at h
  have hl : lv_has ls 3 [(0, .ref q0), (1, .int x1), (2, .int x2)] := hl
  refine lv_aload_n hx hb dX4_isOfSide_0 rfl (lv_at hl 0 rfl) ?_
  refine lv_iload_n hx hb dX4_isOfSide_1 rfl (lv_at hl 1 rfl) ?_
  obtain ⟨r1, hu, h⟩ := bnd_h h
  refine kc_z (kV hC (c_X4_holds l dC dI cc q0 q1 clogs day x1 H.size r1 hu) cv_X4_30 kw454 rfl rfl ⟨(Nat.le_of_ble_eq_true rfl), (Nat.le_of_ble_eq_true rfl)⟩ hP [0] rfl rfl rfl (q0 := 0) rfl (As := [.int x1]) (rest := []) rfl rfl hl.1 (Nat.le_of_ble_eq_true rfl) dX4_isOfSide_2 ⟨Nat.zero_le _, Nat.zero_le _⟩) hP hA [0] rfl rfl (fun hz_r1 H locs hP => ?_)
  have hP : PD (dC, dI) A s.heap [(q0, .inr (4, [.ref q1, .int clogs, .int day])), (q1, .inl (cc 0, 50, .inl cells))] H locs := hP
  refine lv_if_eq (tgt := 22) hx hb dX4_isOfSide_5 (by decide) (fun c2 => ?_) (fun c2 => ?_)
  · have h := if_t c2 h
    refine lv_iconst (v := 0) hx hb dX4_isOfSide_22 (by decide) ?_
    exact ret_z hC hr rfl hlk hP dX4_isOfSide_23 () (⟨Option.some.inj h, rfl⟩) rfl
  · have h := if_f c2 h
    refine lv_aload_n hx hb dX4_isOfSide_8 rfl (lv_at hl 0 rfl) ?_
    refine lv_iload_n hx hb dX4_isOfSide_9 rfl (lv_at hl 1 rfl) ?_
    refine lv_iconst (v := 1) hx hb dX4_isOfSide_10 (by decide) ?_
    obtain ⟨r3, hu, h⟩ := bnd_h h
    refine kc_i (kV hC (c_X4_cell l dC dI cc q0 q1 clogs day cells x1 1 H.size r3 hu) cv_X4_38 kw463 rfl rfl ⟨(Nat.le_of_ble_eq_true rfl), (Nat.le_of_ble_eq_true rfl)⟩ hP [0, 1] rfl rfl rfl (q0 := 0) rfl (As := [.int x1, .int 1]) (rest := []) rfl rfl hl.1 (Nat.le_of_ble_eq_true rfl) dX4_isOfSide_11 ⟨Nat.zero_le _, Nat.zero_le _⟩) hP hA [0, 1] rfl rfl (fun H locs hP => ?_)
    have hP : PD (dC, dI) A s.heap [(q0, .inr (4, [.ref q1, .int clogs, .int day])), (q1, .inl (cc 0, 50, .inl cells))] H locs := hP
    refine lv_iload_n hx hb dX4_isOfSide_14 rfl (lv_at hl 2 rfl) ?_
    refine lv_icmp_ne (tgt := 22) hx hb dX4_isOfSide_15 (by decide) (fun c4 => ?_) (fun c4 => ?_)
    · have h := if_f c4 h
      refine lv_iconst (v := 0) hx hb dX4_isOfSide_22 (by decide) ?_
      exact ret_z hC hr rfl hlk hP dX4_isOfSide_23 () (⟨Option.some.inj h, rfl⟩) rfl
    · have h := if_t c4 h
      refine lv_iconst (v := 1) hx hb dX4_isOfSide_18 (by decide) ?_
      refine lv_goto (tgt := 23) hx hb dX4_isOfSide_19 (by decide) ?_
      exact ret_z hC hr rfl hlk hP dX4_isOfSide_23 () (⟨Option.some.inj h, rfl⟩) rfl
def b_X4_ofSide_1 (cells : (Nat → Int32)) (clogs : Int32) (x1 : Int32) (j1 : Int32) (j2 : Int32) : Option ((Int32 × Int32) ⊕ (Int32 × Int32)) :=
if clogs ≤ j2 then (some (.inr (j1, j2))) else
bnd (f_X4_isOfSide j2 x1 clogs cells) <|  fun r4 =>
if r4 = 0 then (some (.inl (j1, (j2 + 1)))) else
some (.inl ((j1 ||| (1 <<< (j2 &&& 31))), (j2 + 1)))
def f_X4_ofSide (x1 : Int32) (clogs : Int32) (cells : (Nat → Int32)) : Option (Int32) :=
  bnd (lp (u2 (b_X4_ofSide_1 cells clogs x1)) FU (0, 0)) <| u2 fun j1x j2x =>
  some j1x
set_option maxHeartbeats 8000000 in
set_option maxRecDepth 100000 in
theorem c_X4_ofSide (l : Launch) (dC : Nat → ClassId) (dI : Nat → Nat → Nat) (cc : Nat → ClassId) (q0 q1 : Nat) (clogs : Int32) (day : Int32) (cells : (Nat → Int32)) (x1 : Int32) (sz : Nat) (ret : Int32) (hu : f_X4_ofSide x1 clogs cells = some ret) : Met l yX4_ofSide (mw yX4_ofSide cX4_ofSide 4 (some .int)) ({ frames := 3, cells := 0, slots := 0, locals := 65 } : Room) (va_Pc [.ref q0, .int x1] (mP (dC, dI) (ts cc) sz [(q0, .inr (4, [.ref q1, .int clogs, .int day])), (q1, .inl (cc 0, 50, .inl cells))])) ((fun A => va_Qi (fun (r : Int32) (w : Unit) => r = ret ∧ w = ()) (fun (w : Unit) t => va_P (dC, dI) classes [(q0, .inr (4, [.ref q1, .int clogs, .int day])), (q1, .inl (cc 0, 50, .inl cells))] t.heap) A) (va_A [(q0, .inr (4, [.ref q1, .int clogs, .int day])), (q1, .inl (cc 0, 50, .inl cells))] sz)) 0 0 (va_A [(q0, .inr (4, [.ref q1, .int clogs, .int day])), (q1, .inl (cc 0, 50, .inl cells))] sz) := by
  refine met_go (Qc := fun A => va_Qi (fun (r : Int32) (w : Unit) => r = ret ∧ w = ()) (fun (w : Unit) t => va_P (dC, dI) classes [(q0, .inr (4, [.ref q1, .int clogs, .int day])), (q1, .inl (cc 0, 50, .inl cells))] t.heap) A) (by decide) (Nat.le_of_ble_eq_true rfl) ?_
  intro p e s m below meth c A ls H locs hC hr hlk hin hA hP hl _
  have hC : CX p m c cX4_ofSide 4 s ([.ref q0, .int x1] : List Value).toArray RX4 (dC, dI) (ts cc) := hC
  have hx := hC.1.1
  have hb := hC.1.2
  have h := hu
  unfold f_X4_ofSide at h
  have hl : lv_has ls 4 [(0, .ref q0), (1, .int x1)] := hl
  refine W_abs (fun Z eZ => ?_)
  refine lv_iconst (v := 0) hx hb dX4_ofSide_0 (by decide) ?_
  refine lv_istore_n (lv' := [(2, .int 0), (0, .ref q0), (1, .int x1)]) hx hb dX4_ofSide_1 rfl hl (by decide) rfl (fun ls hl => ?_)
  refine lv_iconst (v := 0) hx hb dX4_ofSide_2 (by decide) ?_
  refine lv_istore_n (lv' := [(3, .int 0), (2, .int 0), (0, .ref q0), (1, .int x1)]) hx hb dX4_ofSide_3 rfl hl (by decide) rfl (fun ls hl => ?_)
  obtain ⟨⟨j1x, j2x⟩, hlp, h⟩ := bnd_h h
  have L1 : ∀ (n : Nat) (j1 : Int32) (j2 : Int32) (j1x : Int32) (j2x : Int32), lp (u2 (b_X4_ofSide_1 cells clogs x1)) n (j1, j2) = some (j1x, j2x) → ∀ (H : Heap) (locs : List Loc) (ls : Array Slot), PD (dC, dI) A s.heap [(q0, .inr (4, [.ref q1, .int clogs, .int day])), (q1, .inl (cc 0, 50, .inl cells))] H locs → lv_has ls 4 [(0, .ref q0), (1, .int x1), (2, .int j1), (3, .int j2)] → (∀ (H : Heap) (locs : List Loc) (ls : Array Slot), PD (dC, dI) A s.heap [(q0, .inr (4, [.ref q1, .int clogs, .int day])), (q1, .inl (cc 0, 50, .inl cells))] H locs → lv_has ls 4 [(0, .ref q0), (1, .int x1), (2, .int j1x), (3, .int j2x)] → W p l e ({ frames := 3, cells := 0, slots := 0, locals := 65 } : Room) s m ([.ref q0, .int x1] : List Value).toArray below meth c H locs 0 0 Z (F0 m 33 ls [])) → W p l e ({ frames := 3, cells := 0, slots := 0, locals := 65 } : Room) s m ([.ref q0, .int x1] : List Value).toArray below meth c H locs 0 0 Z (F0 m 4 ls []) := by
    intro n
    induction n with
    | zero => intro j1 j2 j1x j2x h; exact (lp_0 h).elim
    | succ n ih =>
      intro j1 j2 j1x j2x h H locs ls hP hl KK
      obtain ⟨y, h, hz⟩ := lp_h h
      refine lv_iload_n hx hb dX4_ofSide_4 rfl (lv_at hl 3 rfl) ?_
      refine lv_aload_n hx hb dX4_ofSide_5 rfl (lv_at hl 0 rfl) ?_
      refine g_get hC hP fg_X4_15 0 rfl rfl dX4_ofSide_6 ?_
      refine lv_icmp_ge (tgt := 33) hx hb dX4_ofSide_9 (by decide) (fun c3 => ?_) (fun c3 => ?_)
      · have h := if_t c3 h
        cases lp_e h hz
        exact KK H locs ls hP (lv_sub hl [0, 1, 2, 3] rfl)
      · have h := if_f c3 h
        refine lv_aload_n hx hb dX4_ofSide_12 rfl (lv_at hl 0 rfl) ?_
        refine lv_iload_n hx hb dX4_ofSide_13 rfl (lv_at hl 3 rfl) ?_
        refine lv_iload_n hx hb dX4_ofSide_14 rfl (lv_at hl 1 rfl) ?_
        obtain ⟨r4, hu, h⟩ := bnd_h h
        refine kc_z (kV hC (c_X4_isOfSide l dC dI cc q0 q1 clogs day cells j2 x1 H.size r4 hu) cv_X4_42 kw518 rfl rfl ⟨(Nat.le_of_ble_eq_true rfl), (Nat.le_of_ble_eq_true rfl)⟩ hP [0, 1] rfl rfl rfl (q0 := 0) rfl (As := [.int j2, .int x1]) (rest := []) rfl rfl hl.1 (Nat.le_of_ble_eq_true rfl) dX4_ofSide_15 ⟨Nat.zero_le _, Nat.zero_le _⟩) hP hA [0, 1] rfl rfl (fun hz_r4 H locs hP => ?_)
        have hP : PD (dC, dI) A s.heap [(q0, .inr (4, [.ref q1, .int clogs, .int day])), (q1, .inl (cc 0, 50, .inl cells))] H locs := hP
        refine lv_if_eq (tgt := 27) hx hb dX4_ofSide_18 (by decide) (fun c5 => ?_) (fun c5 => ?_)
        · have h := if_t c5 h
          refine lv_iinc (v := (j2 + 1)) (lv' := [(3, .int (j2 + 1)), (0, .ref q0), (1, .int x1), (2, .int j1)]) hx hb dX4_ofSide_27 hl (k := 3) rfl rfl (by decide) rfl (fun ls hl => ?_)
          refine lv_goto (tgt := 4) hx hb dX4_ofSide_30 (by decide) ?_
          exact ih _ _ _ _ (lp_n h hz) H locs ls hP (lv_sub hl [1, 2, 3, 0] rfl) KK
        · have h := if_f c5 h
          refine lv_iload_n hx hb dX4_ofSide_21 rfl (lv_at hl 2 rfl) ?_
          refine lv_iconst (v := 1) hx hb dX4_ofSide_22 (by decide) ?_
          refine lv_iload_n hx hb dX4_ofSide_23 rfl (lv_at hl 3 rfl) ?_
          refine lv_ishl hx hb dX4_ofSide_24 ?_
          refine lv_ior hx hb dX4_ofSide_25 ?_
          refine lv_istore_n (lv' := [(2, .int (j1 ||| (1 <<< (j2 &&& 31)))), (0, .ref q0), (1, .int x1), (3, .int j2)]) hx hb dX4_ofSide_26 rfl hl (by decide) rfl (fun ls hl => ?_)
          refine lv_iinc (v := (j2 + 1)) (lv' := [(3, .int (j2 + 1)), (2, .int (j1 ||| (1 <<< (j2 &&& 31)))), (0, .ref q0), (1, .int x1)]) hx hb dX4_ofSide_27 hl (k := 3) rfl rfl (by decide) rfl (fun ls hl => ?_)
          refine lv_goto (tgt := 4) hx hb dX4_ofSide_30 (by decide) ?_
          exact ih _ _ _ _ (lp_n h hz) H locs ls hP (lv_sub hl [2, 3, 1, 0] rfl) KK
  refine L1 FU _ _ j1x j2x hlp H locs ls hP (lv_sub hl [2, 3, 1, 0] rfl) (fun H locs ls hP hl => ?_)
  refine lv_iload_n hx hb dX4_ofSide_33 rfl (lv_at hl 2 rfl) ?_
  rw [eZ]
  exact ret_i hC hr hlk hP dX4_ofSide_34 () (⟨Option.some.inj h, rfl⟩) rfl
