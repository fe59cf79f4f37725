theorem kw336 : Cond.methodLink RX9 99 yX9_within ∈ Tg := mem_Tg (List.mem_append_right _ (List.mem_of_getElem? (i := 336) (by decide +kernel))) (by decide +kernel)
theorem kw337 : Cond.static yX9_within ∈ Tg := mem_Tg (List.mem_append_right _ (List.mem_of_getElem? (i := 337) (by decide +kernel))) (by decide +kernel)
theorem kw1 : Cond.initialized RX9 ∈ Tg := mem_Tg (List.mem_append_right _ (List.mem_of_getElem? (i := 1) (by decide +kernel))) (by decide +kernel)
theorem kw339 : Cond.methodLink RX9 133 yX9_isSide ∈ Tg := mem_Tg (List.mem_append_right _ (List.mem_of_getElem? (i := 339) (by decide +kernel))) (by decide +kernel)
theorem kw340 : Cond.static yX9_isSide ∈ Tg := mem_Tg (List.mem_append_right _ (List.mem_of_getElem? (i := 340) (by decide +kernel))) (by decide +kernel)
theorem kw376 : Cond.methodLink RX9 274 Lib.Math.min.name ∈ Tg := mem_Tg (List.mem_append_right _ (List.mem_of_getElem? (i := 376) (by decide +kernel))) (by decide +kernel)
theorem kw377 : Cond.static Lib.Math.min.name ∈ Tg := mem_Tg (List.mem_append_right _ (List.mem_of_getElem? (i := 377) (by decide +kernel))) (by decide +kernel)
theorem kw9 : Cond.initialized RJ9 ∈ Tg := mem_Tg (List.mem_append_right _ (List.mem_of_getElem? (i := 9) (by decide +kernel))) (by decide +kernel)
theorem kw378 : Cond.code Lib.Math.min.name Lib.Math.min.code 2 (some .int) ∈ Tg := mem_Tg (List.mem_append_right _ (List.mem_of_getElem? (i := 378) (by decide +kernel))) (by decide +kernel)
theorem dX9_within_0 : decode cX9_within 0 = .ok (.iload_n 0, 1) := by decide +kernel
theorem dX9_within_1 : decode cX9_within 1 = .ok (.iload_n 1, 1) := by decide +kernel
theorem dX9_within_2 : decode cX9_within 2 = .ok (.if_icmp .lt 12, 3) := by decide +kernel
theorem dX9_within_14 : decode cX9_within 14 = .ok (.iconst 0, 1) := by decide +kernel
theorem dX9_within_15 : decode cX9_within 15 = .ok (.ireturn, 1) := by decide +kernel
theorem dX9_within_5 : decode cX9_within 5 = .ok (.iload_n 0, 1) := by decide +kernel
theorem dX9_within_6 : decode cX9_within 6 = .ok (.iload_n 2, 1) := by decide +kernel
theorem dX9_within_7 : decode cX9_within 7 = .ok (.if_icmp .gt 7, 3) := by decide +kernel
theorem dX9_within_10 : decode cX9_within 10 = .ok (.iconst 1, 1) := by decide +kernel
theorem dX9_within_11 : decode cX9_within 11 = .ok (.goto 4, 3) := by decide +kernel
theorem dX9_isSide_0 : decode cX9_isSide 0 = .ok (.iload_n 0, 1) := by decide +kernel
theorem dX9_isSide_1 : decode cX9_isSide 1 = .ok (.ifCond .eq 8, 3) := by decide +kernel
theorem dX9_isSide_9 : decode cX9_isSide 9 = .ok (.iconst 1, 1) := by decide +kernel
theorem dX9_isSide_10 : decode cX9_isSide 10 = .ok (.goto 4, 3) := by decide +kernel
theorem dX9_isSide_14 : decode cX9_isSide 14 = .ok (.ireturn, 1) := by decide +kernel
theorem dX9_isSide_4 : decode cX9_isSide 4 = .ok (.iload_n 0, 1) := by decide +kernel
theorem dX9_isSide_5 : decode cX9_isSide 5 = .ok (.iconst 1, 1) := by decide +kernel
theorem dX9_isSide_6 : decode cX9_isSide 6 = .ok (.if_icmp .ne 7, 3) := by decide +kernel
theorem dX9_isSide_13 : decode cX9_isSide 13 = .ok (.iconst 0, 1) := by decide +kernel
theorem dX9_isClog_0 : decode cX9_isClog 0 = .ok (.iload_n 0, 1) := by decide +kernel
theorem dX9_isClog_1 : decode cX9_isClog 1 = .ok (.iconst 0, 1) := by decide +kernel
theorem dX9_isClog_2 : decode cX9_isClog 2 = .ok (.iconst 3, 1) := by decide +kernel
theorem kw338 : Cond.code yX9_within cX9_within 3 (some .boolean) ∈ Tg := mem_Tg (List.mem_append_right _ (List.mem_of_getElem? (i := 338) (by decide +kernel))) (by decide +kernel)
theorem dX9_isClog_3 : decode cX9_isClog 3 = .ok (.invokestatic 99, 3) := by decide +kernel
theorem dX9_isClog_6 : decode cX9_isClog 6 = .ok (.ifCond .eq 35, 3) := by decide +kernel
theorem dX9_isClog_41 : decode cX9_isClog 41 = .ok (.iconst 0, 1) := by decide +kernel
theorem dX9_isClog_42 : decode cX9_isClog 42 = .ok (.ireturn, 1) := by decide +kernel
theorem dX9_isClog_9 : decode cX9_isClog 9 = .ok (.iload_n 1, 1) := by decide +kernel
theorem kw341 : Cond.code yX9_isSide cX9_isSide 1 (some .boolean) ∈ Tg := mem_Tg (List.mem_append_right _ (List.mem_of_getElem? (i := 341) (by decide +kernel))) (by decide +kernel)
theorem dX9_isClog_10 : decode cX9_isClog 10 = .ok (.invokestatic 133, 3) := by decide +kernel
theorem dX9_isClog_13 : decode cX9_isClog 13 = .ok (.ifCond .eq 28, 3) := by decide +kernel
theorem dX9_isClog_16 : decode cX9_isClog 16 = .ok (.iload_n 2, 1) := by decide +kernel
theorem dX9_isClog_17 : decode cX9_isClog 17 = .ok (.bipush 12, 2) := by decide +kernel
theorem dX9_isClog_19 : decode cX9_isClog 19 = .ok (.bipush 72, 2) := by decide +kernel
theorem dX9_isClog_21 : decode cX9_isClog 21 = .ok (.invokestatic 99, 3) := by decide +kernel
theorem dX9_isClog_24 : decode cX9_isClog 24 = .ok (.ifCond .eq 17, 3) := by decide +kernel
theorem dX9_isClog_27 : decode cX9_isClog 27 = .ok (.iload_n 3, 1) := by decide +kernel
theorem dX9_isClog_28 : decode cX9_isClog 28 = .ok (.iconst 1, 1) := by decide +kernel
theorem dX9_isClog_29 : decode cX9_isClog 29 = .ok (.bipush 40, 2) := by decide +kernel
theorem dX9_isClog_31 : decode cX9_isClog 31 = .ok (.invokestatic 99, 3) := by decide +kernel
theorem dX9_isClog_34 : decode cX9_isClog 34 = .ok (.ifCond .eq 7, 3) := by decide +kernel
theorem dX9_isClog_37 : decode cX9_isClog 37 = .ok (.iconst 1, 1) := by decide +kernel
theorem dX9_isClog_38 : decode cX9_isClog 38 = .ok (.goto 4, 3) := by decide +kernel
theorem dX9_at_0 : decode cX9_at 0 = .ok (.aload_n 0, 1) := by decide +kernel
theorem dX9_at_1 : decode cX9_at 1 = .ok (.ifnull 13, 3) := by decide +kernel
theorem dX9_at_4 : decode cX9_at 4 = .ok (.iload_n 1, 1) := by decide +kernel
theorem dX9_at_5 : decode cX9_at 5 = .ok (.ifCond .lt 9, 3) := by decide +kernel
theorem dX9_at_14 : decode cX9_at 14 = .ok (.iconst 0, 1) := by decide +kernel
theorem dX9_at_15 : decode cX9_at 15 = .ok (.goto 6, 3) := by decide +kernel
theorem dX9_at_21 : decode cX9_at 21 = .ok (.ireturn, 1) := by decide +kernel
theorem dX9_at_8 : decode cX9_at 8 = .ok (.iload_n 1, 1) := by decide +kernel
theorem dX9_at_9 : decode cX9_at 9 = .ok (.aload_n 0, 1) := by decide +kernel
theorem dX9_at_10 : decode cX9_at 10 = .ok (.arraylength, 1) := by decide +kernel
theorem dX9_at_11 : decode cX9_at 11 = .ok (.if_icmp .lt 7, 3) := by decide +kernel
theorem dX9_at_18 : decode cX9_at 18 = .ok (.aload_n 0, 1) := by decide +kernel
theorem dX9_at_19 : decode cX9_at 19 = .ok (.iload_n 1, 1) := by decide +kernel
theorem dX9_at_20 : decode cX9_at 20 = .ok (.iaload, 1) := by decide +kernel
theorem dX9_put_0 : decode cX9_put 0 = .ok (.aload_n 0, 1) := by decide +kernel
theorem dX9_put_1 : decode cX9_put 1 = .ok (.ifnull 17, 3) := by decide +kernel
theorem dX9_put_4 : decode cX9_put 4 = .ok (.iload_n 1, 1) := by decide +kernel
theorem dX9_put_5 : decode cX9_put 5 = .ok (.ifCond .lt 13, 3) := by decide +kernel
theorem dX9_put_18 : decode cX9_put 18 = .ok (.return_, 1) := by decide +kernel
theorem dX9_put_8 : decode cX9_put 8 = .ok (.iload_n 1, 1) := by decide +kernel
theorem dX9_put_9 : decode cX9_put 9 = .ok (.aload_n 0, 1) := by decide +kernel
theorem dX9_put_10 : decode cX9_put 10 = .ok (.arraylength, 1) := by decide +kernel
theorem dX9_put_11 : decode cX9_put 11 = .ok (.if_icmp .ge 7, 3) := by decide +kernel
theorem dX9_put_14 : decode cX9_put 14 = .ok (.aload_n 0, 1) := by decide +kernel
theorem dX9_put_15 : decode cX9_put 15 = .ok (.iload_n 1, 1) := by decide +kernel
theorem dX9_put_16 : decode cX9_put 16 = .ok (.iload_n 2, 1) := by decide +kernel
theorem dX9_put_17 : decode cX9_put 17 = .ok (.iastore, 1) := by decide +kernel
theorem dX9_copyRow_0 : decode cX9_copyRow 0 = .ok (.aload_n 0, 1) := by decide +kernel
theorem dX9_copyRow_1 : decode cX9_copyRow 1 = .ok (.ifnull 21, 3) := by decide +kernel
theorem dX9_copyRow_4 : decode cX9_copyRow 4 = .ok (.aload_n 1, 1) := by decide +kernel
theorem dX9_copyRow_5 : decode cX9_copyRow 5 = .ok (.ifnull 17, 3) := by decide +kernel
theorem dX9_copyRow_8 : decode cX9_copyRow 8 = .ok (.aload_n 0, 1) := by decide +kernel
theorem dX9_copyRow_9 : decode cX9_copyRow 9 = .ok (.iconst 0, 1) := by decide +kernel
theorem dX9_copyRow_10 : decode cX9_copyRow 10 = .ok (.aload_n 1, 1) := by decide +kernel
theorem dX9_copyRow_11 : decode cX9_copyRow 11 = .ok (.iconst 0, 1) := by decide +kernel
theorem dX9_copyRow_12 : decode cX9_copyRow 12 = .ok (.aload_n 0, 1) := by decide +kernel
theorem dX9_copyRow_13 : decode cX9_copyRow 13 = .ok (.arraylength, 1) := by decide +kernel
theorem dX9_copyRow_14 : decode cX9_copyRow 14 = .ok (.aload_n 1, 1) := by decide +kernel
theorem dX9_copyRow_15 : decode cX9_copyRow 15 = .ok (.arraylength, 1) := by decide +kernel
theorem dX9_copyRow_16 : decode cX9_copyRow 16 = .ok (.invokestatic 274, 3) := by decide +kernel
theorem kw379 : Cond.methodLink RX9 277 arraycopyName ∈ Tg := mem_Tg (List.mem_append_right _ (List.mem_of_getElem? (i := 379) (by decide +kernel))) (by decide +kernel)
theorem kw381 : Cond.native arraycopyName ∈ Tg := mem_Tg (List.mem_append_right _ (List.mem_of_getElem? (i := 381) (by decide +kernel))) (by decide +kernel)
theorem kw380 : Cond.static arraycopyName ∈ Tg := mem_Tg (List.mem_append_right _ (List.mem_of_getElem? (i := 380) (by decide +kernel))) (by decide +kernel)
theorem kw16 : Cond.initialized RJ10 ∈ Tg := mem_Tg (List.mem_append_right _ (List.mem_of_getElem? (i := 16) (by decide +kernel))) (by decide +kernel)
theorem dX9_copyRow_19 : decode cX9_copyRow 19 = .ok (.invokestatic 277, 3) := by decide +kernel
theorem dX9_copyRow_22 : decode cX9_copyRow 22 = .ok (.return_, 1) := by decide +kernel
theorem dX9_hasBit_0 : decode cX9_hasBit 0 = .ok (.iload_n 1, 1) := by decide +kernel
theorem dX9_hasBit_1 : decode cX9_hasBit 1 = .ok (.ifCond .lt 21, 3) := by decide +kernel
theorem dX9_hasBit_22 : decode cX9_hasBit 22 = .ok (.iconst 0, 1) := by decide +kernel
theorem dX9_hasBit_23 : decode cX9_hasBit 23 = .ok (.ireturn, 1) := by decide +kernel
theorem dX9_hasBit_4 : decode cX9_hasBit 4 = .ok (.iload_n 1, 1) := by decide +kernel
theorem dX9_hasBit_5 : decode cX9_hasBit 5 = .ok (.bipush 31, 2) := by decide +kernel
theorem dX9_hasBit_7 : decode cX9_hasBit 7 = .ok (.if_icmp .ge 15, 3) := by decide +kernel
theorem dX9_hasBit_10 : decode cX9_hasBit 10 = .ok (.iload_n 0, 1) := by decide +kernel
theorem dX9_hasBit_11 : decode cX9_hasBit 11 = .ok (.iload_n 1, 1) := by decide +kernel
theorem dX9_hasBit_12 : decode cX9_hasBit 12 = .ok (.ishr, 1) := by decide +kernel
theorem dX9_hasBit_13 : decode cX9_hasBit 13 = .ok (.iconst 1, 1) := by decide +kernel
theorem dX9_hasBit_14 : decode cX9_hasBit 14 = .ok (.iand, 1) := by decide +kernel
theorem dX9_hasBit_15 : decode cX9_hasBit 15 = .ok (.ifCond .eq 7, 3) := by decide +kernel
theorem dX9_hasBit_18 : decode cX9_hasBit 18 = .ok (.iconst 1, 1) := by decide +kernel
theorem dX9_hasBit_19 : decode cX9_hasBit 19 = .ok (.goto 4, 3) := by decide +kernel
theorem dX9_power_0 : decode cX9_power 0 = .ok (.lconst 1, 1) := by decide +kernel
theorem dX9_power_1 : decode cX9_power 1 = .ok (.lstore_n 2, 1) := by decide +kernel
theorem dX9_power_2 : decode cX9_power 2 = .ok (.iconst 0, 1) := by decide +kernel
theorem dX9_power_3 : decode cX9_power 3 = .ok (.istore 4, 2) := by decide +kernel
theorem dX9_power_5 : decode cX9_power 5 = .ok (.iload 4, 2) := by decide +kernel
theorem dX9_power_7 : decode cX9_power 7 = .ok (.iload_n 1, 1) := by decide +kernel
theorem dX9_power_8 : decode cX9_power 8 = .ok (.if_icmp .ge 14, 3) := by decide +kernel
theorem dX9_power_11 : decode cX9_power 11 = .ok (.lload_n 2, 1) := by decide +kernel
theorem dX9_power_12 : decode cX9_power 12 = .ok (.iload_n 0, 1) := by decide +kernel
theorem dX9_power_13 : decode cX9_power 13 = .ok (.i2l, 1) := by decide +kernel
theorem dX9_power_14 : decode cX9_power 14 = .ok (.lmul, 1) := by decide +kernel
theorem dX9_power_15 : decode cX9_power 15 = .ok (.lstore_n 2, 1) := by decide +kernel
theorem dX9_power_16 : decode cX9_power 16 = .ok (.iinc 4 1, 3) := by decide +kernel
theorem dX9_power_19 : decode cX9_power 19 = .ok (.goto (-14), 3) := by decide +kernel
theorem dX9_power_22 : decode cX9_power 22 = .ok (.lload_n 2, 1) := by decide +kernel
theorem dX9_power_23 : decode cX9_power 23 = .ok (.lreturn, 1) := by decide +kernel
theorem dX9_commonDivisorWithTen_0 : decode cX9_commonDivisorWithTen 0 = .ok (.bipush 10, 2) := by decide +kernel
theorem dX9_commonDivisorWithTen_2 : decode cX9_commonDivisorWithTen 2 = .ok (.istore_n 1, 1) := by decide +kernel
theorem dX9_commonDivisorWithTen_3 : decode cX9_commonDivisorWithTen 3 = .ok (.iload_n 1, 1) := by decide +kernel
theorem dX9_commonDivisorWithTen_4 : decode cX9_commonDivisorWithTen 4 = .ok (.iconst 1, 1) := by decide +kernel
theorem dX9_commonDivisorWithTen_5 : decode cX9_commonDivisorWithTen 5 = .ok (.if_icmp .le 24, 3) := by decide +kernel
theorem dX9_commonDivisorWithTen_8 : decode cX9_commonDivisorWithTen 8 = .ok (.iload_n 0, 1) := by decide +kernel
theorem dX9_commonDivisorWithTen_9 : decode cX9_commonDivisorWithTen 9 = .ok (.iload_n 1, 1) := by decide +kernel
theorem dX9_commonDivisorWithTen_10 : decode cX9_commonDivisorWithTen 10 = .ok (.irem, 1) := by decide +kernel
theorem dX9_commonDivisorWithTen_11 : decode cX9_commonDivisorWithTen 11 = .ok (.ifCond .ne 12, 3) := by decide +kernel
theorem dX9_commonDivisorWithTen_23 : decode cX9_commonDivisorWithTen 23 = .ok (.iinc 1 (-1), 3) := by decide +kernel
theorem dX9_commonDivisorWithTen_26 : decode cX9_commonDivisorWithTen 26 = .ok (.goto (-23), 3) := by decide +kernel
theorem dX9_commonDivisorWithTen_14 : decode cX9_commonDivisorWithTen 14 = .ok (.bipush 10, 2) := by decide +kernel
theorem dX9_commonDivisorWithTen_16 : decode cX9_commonDivisorWithTen 16 = .ok (.iload_n 1, 1) := by decide +kernel
theorem dX9_commonDivisorWithTen_17 : decode cX9_commonDivisorWithTen 17 = .ok (.irem, 1) := by decide +kernel
theorem dX9_commonDivisorWithTen_18 : decode cX9_commonDivisorWithTen 18 = .ok (.ifCond .ne 5, 3) := by decide +kernel
theorem dX9_commonDivisorWithTen_21 : decode cX9_commonDivisorWithTen 21 = .ok (.iload_n 1, 1) := by decide +kernel
theorem dX9_commonDivisorWithTen_22 : decode cX9_commonDivisorWithTen 22 = .ok (.ireturn, 1) := by decide +kernel
theorem dX9_commonDivisorWithTen_29 : decode cX9_commonDivisorWithTen 29 = .ok (.iconst 1, 1) := by decide +kernel
theorem dX9_commonDivisorWithTen_30 : decode cX9_commonDivisorWithTen 30 = .ok (.ireturn, 1) := by decide +kernel
theorem dX9_cutsInTheMean_0 : decode cX9_cutsInTheMean 0 = .ok (.lconst 0, 1) := by decide +kernel
theorem dX9_cutsInTheMean_1 : decode cX9_cutsInTheMean 1 = .ok (.lstore_n 3, 1) := by decide +kernel
theorem dX9_cutsInTheMean_2 : decode cX9_cutsInTheMean 2 = .ok (.lconst 1, 1) := by decide +kernel
theorem dX9_cutsInTheMean_3 : decode cX9_cutsInTheMean 3 = .ok (.lstore 5, 2) := by decide +kernel
theorem dX9_cutsInTheMean_5 : decode cX9_cutsInTheMean 5 = .ok (.iconst 0, 1) := by decide +kernel
theorem dX9_cutsInTheMean_6 : decode cX9_cutsInTheMean 6 = .ok (.istore 7, 2) := by decide +kernel
theorem dX9_cutsInTheMean_8 : decode cX9_cutsInTheMean 8 = .ok (.iload 7, 2) := by decide +kernel
theorem dX9_cutsInTheMean_10 : decode cX9_cutsInTheMean 10 = .ok (.iconst 2, 1) := by decide +kernel
theorem dX9_cutsInTheMean_11 : decode cX9_cutsInTheMean 11 = .ok (.iload_n 0, 1) := by decide +kernel
theorem dX9_cutsInTheMean_12 : decode cX9_cutsInTheMean 12 = .ok (.imul, 1) := by decide +kernel
theorem dX9_cutsInTheMean_13 : decode cX9_cutsInTheMean 13 = .ok (.if_icmp .ge 63, 3) := by decide +kernel
theorem dX9_cutsInTheMean_16 : decode cX9_cutsInTheMean 16 = .ok (.lload_n 3, 1) := by decide +kernel
theorem kw725 : Cond.constantLong RX9 283 (100) ∈ Tg := mem_Tg (List.mem_append_right _ (List.mem_of_getElem? (i := 725) (by decide +kernel))) (by decide +kernel)
theorem dX9_cutsInTheMean_17 : decode cX9_cutsInTheMean 17 = .ok (.ldc2_w 283, 3) := by decide +kernel
theorem dX9_cutsInTheMean_20 : decode cX9_cutsInTheMean 20 = .ok (.lmul, 1) := by decide +kernel
theorem dX9_cutsInTheMean_21 : decode cX9_cutsInTheMean 21 = .ok (.lload 5, 2) := by decide +kernel
theorem dX9_cutsInTheMean_23 : decode cX9_cutsInTheMean 23 = .ok (.ladd, 1) := by decide +kernel
theorem dX9_cutsInTheMean_24 : decode cX9_cutsInTheMean 24 = .ok (.lstore_n 3, 1) := by decide +kernel
theorem dX9_cutsInTheMean_25 : decode cX9_cutsInTheMean 25 = .ok (.iload_n 2, 1) := by decide +kernel
theorem dX9_cutsInTheMean_26 : decode cX9_cutsInTheMean 26 = .ok (.ifCond .eq 12, 3) := by decide +kernel
theorem dX9_cutsInTheMean_38 : decode cX9_cutsInTheMean 38 = .ok (.iload 7, 2) := by decide +kernel
theorem dX9_cutsInTheMean_40 : decode cX9_cutsInTheMean 40 = .ok (.iload_n 0, 1) := by decide +kernel
theorem dX9_cutsInTheMean_41 : decode cX9_cutsInTheMean 41 = .ok (.if_icmp .ge 8, 3) := by decide +kernel
theorem dX9_cutsInTheMean_49 : decode cX9_cutsInTheMean 49 = .ok (.iload 7, 2) := by decide +kernel
theorem dX9_cutsInTheMean_51 : decode cX9_cutsInTheMean 51 = .ok (.iload_n 0, 1) := by decide +kernel
theorem dX9_cutsInTheMean_52 : decode cX9_cutsInTheMean 52 = .ok (.isub, 1) := by decide +kernel
theorem dX9_cutsInTheMean_53 : decode cX9_cutsInTheMean 53 = .ok (.iconst 1, 1) := by decide +kernel
theorem dX9_cutsInTheMean_54 : decode cX9_cutsInTheMean 54 = .ok (.iadd, 1) := by decide +kernel
theorem dX9_cutsInTheMean_55 : decode cX9_cutsInTheMean 55 = .ok (.istore 8, 2) := by decide +kernel
theorem dX9_cutsInTheMean_57 : decode cX9_cutsInTheMean 57 = .ok (.lload 5, 2) := by decide +kernel
theorem dX9_cutsInTheMean_59 : decode cX9_cutsInTheMean 59 = .ok (.bipush 100, 2) := by decide +kernel
theorem dX9_cutsInTheMean_61 : decode cX9_cutsInTheMean 61 = .ok (.iload 8, 2) := by decide +kernel
theorem dX9_cutsInTheMean_63 : decode cX9_cutsInTheMean 63 = .ok (.iload_n 1, 1) := by decide +kernel
theorem dX9_cutsInTheMean_64 : decode cX9_cutsInTheMean 64 = .ok (.imul, 1) := by decide +kernel
theorem dX9_cutsInTheMean_65 : decode cX9_cutsInTheMean 65 = .ok (.isub, 1) := by decide +kernel
theorem dX9_cutsInTheMean_66 : decode cX9_cutsInTheMean 66 = .ok (.i2l, 1) := by decide +kernel
theorem dX9_cutsInTheMean_67 : decode cX9_cutsInTheMean 67 = .ok (.lmul, 1) := by decide +kernel
theorem dX9_cutsInTheMean_68 : decode cX9_cutsInTheMean 68 = .ok (.lstore 5, 2) := by decide +kernel
theorem dX9_cutsInTheMean_70 : decode cX9_cutsInTheMean 70 = .ok (.iinc 7 1, 3) := by decide +kernel
theorem dX9_cutsInTheMean_73 : decode cX9_cutsInTheMean 73 = .ok (.goto (-65), 3) := by decide +kernel
theorem dX9_cutsInTheMean_44 : decode cX9_cutsInTheMean 44 = .ok (.iload 7, 2) := by decide +kernel
theorem dX9_cutsInTheMean_46 : decode cX9_cutsInTheMean 46 = .ok (.goto 7, 3) := by decide +kernel
theorem dX9_cutsInTheMean_29 : decode cX9_cutsInTheMean 29 = .ok (.iload 7, 2) := by decide +kernel
theorem dX9_cutsInTheMean_31 : decode cX9_cutsInTheMean 31 = .ok (.iconst 2, 1) := by decide +kernel
theorem dX9_cutsInTheMean_32 : decode cX9_cutsInTheMean 32 = .ok (.idiv, 1) := by decide +kernel
theorem dX9_cutsInTheMean_33 : decode cX9_cutsInTheMean 33 = .ok (.iconst 1, 1) := by decide +kernel
theorem dX9_cutsInTheMean_34 : decode cX9_cutsInTheMean 34 = .ok (.iadd, 1) := by decide +kernel
theorem dX9_cutsInTheMean_35 : decode cX9_cutsInTheMean 35 = .ok (.goto 20, 3) := by decide +kernel
theorem dX9_cutsInTheMean_76 : decode cX9_cutsInTheMean 76 = .ok (.lload_n 3, 1) := by decide +kernel
theorem dX9_cutsInTheMean_77 : decode cX9_cutsInTheMean 77 = .ok (.lreturn, 1) := by decide +kernel
theorem cs_X9_99 : CSw RX9 99 yX9_within 3 := ⟨by decide +kernel, kw336, kw337, kw1⟩
theorem cs_X9_133 : CSw RX9 133 yX9_isSide 1 := ⟨by decide +kernel, kw339, kw340, kw1⟩
theorem mh_X9_274 : MH RX9 274 Lib.Math.min.name Lib.Math.min.code 2 := ⟨kw376, kw377, kw9, kw378⟩
set_option maxHeartbeats 8000000 in
set_option maxRecDepth 100000 in
theorem c_X9_within (l : Launch) (dC : Nat → ClassId) (dI : Nat → Nat → Nat) (cc : Nat → ClassId) (x1 : Int32) (x2 : Int32) (x3 : Int32) (sz : Nat) (ret : Int32) (hu : f_X9_within x1 x2 x3 = some ret) : Met l yX9_within (mw yX9_within cX9_within 3 (some .boolean)) ({ frames := 0, cells := 0, slots := 0, locals := 0 } : Room) (va_Pc [.int x1, .int x2, .int x3] (mP (dC, dI) (ts cc) sz [])) ((fun A => va_Qi (fun (r : Int32) (w : Unit) => narrow .boolean (.int r) = .int r ∧ (r = ret ∧ w = ())) (fun (w : Unit) t => va_P (dC, dI) classes [] t.heap) A) (va_A [] sz)) 0 0 (va_A [] sz) := by
  refine met_go (Qc := fun A => va_Qi (fun (r : Int32) (w : Unit) => narrow .boolean (.int r) = .int r ∧ (r = ret ∧ w = ())) (fun (w : Unit) t => va_P (dC, dI) classes [] t.heap) A) (by decide) (Nat.le_of_ble_eq_true rfl) ?_
  intro p e s m below meth c A ls H locs hC hr hlk hin hA hP hl _
  have hC : CX p m c cX9_within 3 s ([.int x1, .int x2, .int x3] : List Value).toArray RX9 (dC, dI) (ts cc) := hC
  have hx := hC.1.1
  have hb := hC.1.2
  have h := hu
  have hu0 := hu
  unfold f_X9_within at h
  have hl : lv_has ls 3 [(0, .int x1), (1, .int x2), (2, .int x3)] := hl
  refine lv_iload_n hx hb dX9_within_0 rfl (lv_at hl 0 rfl) ?_
  refine lv_iload_n hx hb dX9_within_1 rfl (lv_at hl 1 rfl) ?_
  refine lv_icmp_lt (tgt := 14) hx hb dX9_within_2 (by decide) (fun c1 => ?_) (fun c1 => ?_)
  · have h := if_t c1 h
    refine lv_iconst (v := 0) hx hb dX9_within_14 (by decide) ?_
    exact ret_z hC hr rfl hlk hP dX9_within_15 () (⟨Option.some.inj h, rfl⟩) rfl
  · have h := if_f c1 h
    refine lv_iload_n hx hb dX9_within_5 rfl (lv_at hl 0 rfl) ?_
    refine lv_iload_n hx hb dX9_within_6 rfl (lv_at hl 2 rfl) ?_
    refine lv_icmp_gt (tgt := 14) hx hb dX9_within_7 (by decide) (fun c2 => ?_) (fun c2 => ?_)
    · have h := if_t c2 h
      refine lv_iconst (v := 0) hx hb dX9_within_14 (by decide) ?_
      exact ret_z hC hr rfl hlk hP dX9_within_15 () (⟨Option.some.inj h, rfl⟩) rfl
    · have h := if_f c2 h
      refine lv_iconst (v := 1) hx hb dX9_within_10 (by decide) ?_
      refine lv_goto (tgt := 15) hx hb dX9_within_11 (by decide) ?_
      exact ret_z hC hr rfl hlk hP dX9_within_15 () (⟨Option.some.inj h, rfl⟩) rfl
set_option maxHeartbeats 8000000 in
set_option maxRecDepth 100000 in
theorem c_X9_isSide (l : Launch) (dC : Nat → ClassId) (dI : Nat → Nat → Nat) (cc : Nat → ClassId) (x1 : Int32) (sz : Nat) (ret : Int32) (hu : f_X9_isSide x1 = some ret) : Met l yX9_isSide (mw yX9_isSide cX9_isSide 1 (some .boolean)) ({ frames := 0, cells := 0, slots := 0, locals := 0 } : Room) (va_Pc [.int x1] (mP (dC, dI) (ts cc) sz [])) ((fun A => va_Qi (fun (r : Int32) (w : Unit) => narrow .boolean (.int r) = .int r ∧ (r = ret ∧ w = ())) (fun (w : Unit) t => va_P (dC, dI) classes [] t.heap) A) (va_A [] sz)) 0 0 (va_A [] sz) := by
  refine met_go (Qc := fun A => va_Qi (fun (r : Int32) (w : Unit) => narrow .boolean (.int r) = .int r ∧ (r = ret ∧ w = ())) (fun (w : Unit) t => va_P (dC, dI) classes [] t.heap) A) (by decide) (Nat.le_of_ble_eq_true rfl) ?_
  intro p e s m below meth c A ls H locs hC hr hlk hin hA hP hl _
  have hC : CX p m c cX9_isSide 1 s ([.int x1] : List Value).toArray RX9 (dC, dI) (ts cc) := hC
  have hx := hC.1.1
  have hb := hC.1.2
  have h := hu
  have hu0 := hu
  unfold f_X9_isSide at h
  have hl : lv_has ls 1 [(0, .int x1)] := hl
  refine lv_iload_n hx hb dX9_isSide_0 rfl (lv_at hl 0 rfl) ?_
  refine lv_if_eq (tgt := 9) hx hb dX9_isSide_1 (by decide) (fun c1 => ?_) (fun c1 => ?_)
  · have h := if_t c1 h
    refine lv_iconst (v := 1) hx hb dX9_isSide_9 (by decide) ?_
    refine lv_goto (tgt := 14) hx hb dX9_isSide_10 (by decide) ?_
    exact ret_z hC hr rfl hlk hP dX9_isSide_14 () (⟨Option.some.inj h, rfl⟩) rfl
  · have h := if_f c1 h
    refine lv_iload_n hx hb dX9_isSide_4 rfl (lv_at hl 0 rfl) ?_
    refine lv_iconst (v := 1) hx hb dX9_isSide_5 (by decide) ?_
    refine lv_icmp_ne (tgt := 13) hx hb dX9_isSide_6 (by decide) (fun c2 => ?_) (fun c2 => ?_)
    · have h := if_f c2 h
      refine lv_iconst (v := 0) hx hb dX9_isSide_13 (by decide) ?_
      exact ret_z hC hr rfl hlk hP dX9_isSide_14 () (⟨Option.some.inj h, rfl⟩) rfl
    · have h := if_t c2 h
      refine lv_iconst (v := 1) hx hb dX9_isSide_9 (by decide) ?_
      refine lv_goto (tgt := 14) hx hb dX9_isSide_10 (by decide) ?_
      exact ret_z hC hr rfl hlk hP dX9_isSide_14 () (⟨Option.some.inj h, rfl⟩) rfl
set_option maxHeartbeats 8000000 in
set_option maxRecDepth 100000 in
theorem c_X9_isClog (l : Launch) (dC : Nat → ClassId) (dI : Nat → Nat → Nat) (cc : Nat → ClassId) (x1 : Int32) (x2 : Int32) (x3 : Int32) (x4 : Int32) (sz : Nat) (ret : Int32) (hu : f_X9_isClog x1 x2 x3 x4 = some ret) : Met l yX9_isClog (mw yX9_isClog cX9_isClog 4 (some .boolean)) ({ frames := 1, cells := 0, slots := 0, locals := 22 } : Room) (va_Pc [.int x1, .int x2, .int x3, .int x4] (mP (dC, dI) (ts cc) sz [])) ((fun A => va_Qi (fun (r : Int32) (w : Unit) => narrow .boolean (.int r) = .int r ∧ (r = ret ∧ w = ())) (fun (w : Unit) t => va_P (dC, dI) classes [] t.heap) A) (va_A [] sz)) 0 0 (va_A [] sz) := by
  refine met_go (Qc := fun A => va_Qi (fun (r : Int32) (w : Unit) => narrow .boolean (.int r) = .int r ∧ (r = ret ∧ w = ())) (fun (w : Unit) t => va_P (dC, dI) classes [] t.heap) A) (by decide) (Nat.le_of_ble_eq_true rfl) ?_
  intro p e s m below meth c A ls H locs hC hr hlk hin hA hP hl _
  have hC : CX p m c cX9_isClog 4 s ([.int x1, .int x2, .int x3, .int x4] : List Value).toArray RX9 (dC, dI) (ts cc) := hC
  have hx := hC.1.1
  have hb := hC.1.2
  have h := hu
  have hu0 := hu
  unfold f_X9_isClog at h
  have hl : lv_has ls 4 [(0, .int x1), (1, .int x2), (2, .int x3), (3, .int x4)] := hl
  refine lv_iload_n hx hb dX9_isClog_0 rfl (lv_at hl 0 rfl) ?_
  refine lv_iconst (v := 0) hx hb dX9_isClog_1 (by decide) ?_
  refine lv_iconst (v := 3) hx hb dX9_isClog_2 (by decide) ?_
  obtain ⟨r1, hu, h⟩ := bnd_h h
  refine kc_z (kS hC (c_X9_within l dC dI cc x1 0 3 H.size r1 hu) cs_X9_99 kw338 rfl rfl ⟨(Nat.le_of_ble_eq_true rfl), (Nat.le_of_ble_eq_true rfl)⟩ hP [] rfl rfl (As := [.int x1, .int 0, .int 3]) (rest := []) rfl rfl hl.1 (Nat.le_of_ble_eq_true rfl) dX9_isClog_3 ⟨Nat.zero_le _, Nat.zero_le _⟩) hP hA [] rfl rfl (fun hz_r1 H locs hP => ?_)
  have hP : PD (dC, dI) A s.heap [] H locs := hP
  refine lv_if_eq (tgt := 41) hx hb dX9_isClog_6 (by decide) (fun c2 => ?_) (fun c2 => ?_)
  · have h := if_t c2 h
    refine lv_iconst (v := 0) hx hb dX9_isClog_41 (by decide) ?_
    exact ret_z hC hr rfl hlk hP dX9_isClog_42 () (⟨Option.some.inj h, rfl⟩) rfl
  · have h := if_f c2 h
    refine lv_iload_n hx hb dX9_isClog_9 rfl (lv_at hl 1 rfl) ?_
    obtain ⟨r3, hu, h⟩ := bnd_h h
    refine kc_z (kS hC (c_X9_isSide l dC dI cc x2 H.size r3 hu) cs_X9_133 kw341 rfl rfl ⟨(Nat.le_of_ble_eq_true rfl), (Nat.le_of_ble_eq_true rfl)⟩ hP [] rfl rfl (As := [.int x2]) (rest := []) rfl rfl hl.1 (Nat.le_of_ble_eq_true rfl) dX9_isClog_10 ⟨Nat.zero_le _, Nat.zero_le _⟩) hP hA [] rfl rfl (fun hz_r3 H locs hP => ?_)
    have hP : PD (dC, dI) A s.heap [] H locs := hP
    refine lv_if_eq (tgt := 41) hx hb dX9_isClog_13 (by decide) (fun c4 => ?_) (fun c4 => ?_)
    · have h := if_t c4 h
      refine lv_iconst (v := 0) hx hb dX9_isClog_41 (by decide) ?_
      exact ret_z hC hr rfl hlk hP dX9_isClog_42 () (⟨Option.some.inj h, rfl⟩) rfl
    · have h := if_f c4 h
      refine lv_iload_n hx hb dX9_isClog_16 rfl (lv_at hl 2 rfl) ?_
      refine lv_bipush (v := 12) hx hb dX9_isClog_17 (by decide) ?_
      refine lv_bipush (v := 72) hx hb dX9_isClog_19 (by decide) ?_
      obtain ⟨r5, hu, h⟩ := bnd_h h
      refine kc_z (kS hC (c_X9_within l dC dI cc x3 12 72 H.size r5 hu) cs_X9_99 kw338 rfl rfl ⟨(Nat.le_of_ble_eq_true rfl), (Nat.le_of_ble_eq_true rfl)⟩ hP [] rfl rfl (As := [.int x3, .int 12, .int 72]) (rest := []) rfl rfl hl.1 (Nat.le_of_ble_eq_true rfl) dX9_isClog_21 ⟨Nat.zero_le _, Nat.zero_le _⟩) hP hA [] rfl rfl (fun hz_r5 H locs hP => ?_)
      have hP : PD (dC, dI) A s.heap [] H locs := hP
      refine lv_if_eq (tgt := 41) hx hb dX9_isClog_24 (by decide) (fun c6 => ?_) (fun c6 => ?_)
      · have h := if_t c6 h
        refine lv_iconst (v := 0) hx hb dX9_isClog_41 (by decide) ?_
        exact ret_z hC hr rfl hlk hP dX9_isClog_42 () (⟨Option.some.inj h, rfl⟩) rfl
      · have h := if_f c6 h
        refine lv_iload_n hx hb dX9_isClog_27 rfl (lv_at hl 3 rfl) ?_
        refine lv_iconst (v := 1) hx hb dX9_isClog_28 (by decide) ?_
        refine lv_bipush (v := 40) hx hb dX9_isClog_29 (by decide) ?_
        obtain ⟨r7, hu, h⟩ := bnd_h h
        refine kc_z (kS hC (c_X9_within l dC dI cc x4 1 40 H.size r7 hu) cs_X9_99 kw338 rfl rfl ⟨(Nat.le_of_ble_eq_true rfl), (Nat.le_of_ble_eq_true rfl)⟩ hP [] rfl rfl (As := [.int x4, .int 1, .int 40]) (rest := []) rfl rfl hl.1 (Nat.le_of_ble_eq_true rfl) dX9_isClog_31 ⟨Nat.zero_le _, Nat.zero_le _⟩) hP hA [] rfl rfl (fun hz_r7 H locs hP => ?_)
        have hP : PD (dC, dI) A s.heap [] H locs := hP
        refine lv_if_eq (tgt := 41) hx hb dX9_isClog_34 (by decide) (fun c8 => ?_) (fun c8 => ?_)
        · have h := if_t c8 h
          refine lv_iconst (v := 0) hx hb dX9_isClog_41 (by decide) ?_
          exact ret_z hC hr rfl hlk hP dX9_isClog_42 () (⟨Option.some.inj h, rfl⟩) rfl
        · have h := if_f c8 h
          refine lv_iconst (v := 1) hx hb dX9_isClog_37 (by decide) ?_
          refine lv_goto (tgt := 42) hx hb dX9_isClog_38 (by decide) ?_
          exact ret_z hC hr rfl hlk hP dX9_isClog_42 () (⟨Option.some.inj h, rfl⟩) rfl
set_option maxHeartbeats 8000000 in
set_option maxRecDepth 100000 in
theorem c_X9_at (l : Launch) (dC : Nat → ClassId) (dI : Nat → Nat → Nat) (cc : Nat → ClassId) (q0 : Nat) (n1 : Nat) (f1 : (Nat → Int32)) (x2 : Int32) (sz : Nat) (ret : Int32) (hu : f_X9_at x2 n1 f1 = some ret) : Met l yX9_at (mw yX9_at cX9_at 2 (some .int)) ({ frames := 0, cells := 0, slots := 0, locals := 0 } : Room) (va_Pc [.ref q0, .int x2] (mP (dC, dI) (ts cc) sz [(q0, .inl (cc 0, n1, .inl f1))])) ((fun A => va_Qi (fun (r : Int32) (w : Unit) => r = ret ∧ w = ()) (fun (w : Unit) t => va_P (dC, dI) classes [(q0, .inl (cc 0, n1, .inl f1))] t.heap) A) (va_A [(q0, .inl (cc 0, n1, .inl f1))] sz)) 0 0 (va_A [(q0, .inl (cc 0, n1, .inl f1))] sz) := by
  refine met_go (Qc := fun A => va_Qi (fun (r : Int32) (w : Unit) => r = ret ∧ w = ()) (fun (w : Unit) t => va_P (dC, dI) classes [(q0, .inl (cc 0, n1, .inl f1))] t.heap) A) (by decide) (Nat.le_of_ble_eq_true rfl) ?_
  intro p e s m below meth c A ls H locs hC hr hlk hin hA hP hl _
  have hC : CX p m c cX9_at 2 s ([.ref q0, .int x2] : List Value).toArray RX9 (dC, dI) (ts cc) := hC
  have hx := hC.1.1
  have hb := hC.1.2
  have h := hu
  have hu0 := hu
  unfold f_X9_at at h
  have hl : lv_has ls 2 [(0, .ref q0), (1, .int x2)] := hl
  refine lv_aload_n hx hb dX9_at_0 rfl (lv_at hl 0 rfl) ?_
  refine lv_ifnull hx hb dX9_at_1 ?_
  refine lv_iload_n hx hb dX9_at_4 rfl (lv_at hl 1 rfl) ?_
  refine lv_if_lt (tgt := 14) hx hb dX9_at_5 (by decide) (fun c1 => ?_) (fun c1 => ?_)
  · have h := if_t c1 h
    refine lv_iconst (v := 0) hx hb dX9_at_14 (by decide) ?_
    refine lv_goto (tgt := 21) hx hb dX9_at_15 (by decide) ?_
    exact ret_i hC hr hlk hP dX9_at_21 () (⟨Option.some.inj h, rfl⟩) rfl
  · have h := if_f c1 h
    refine lv_iload_n hx hb dX9_at_8 rfl (lv_at hl 1 rfl) ?_
    refine lv_aload_n hx hb dX9_at_9 rfl (lv_at hl 0 rfl) ?_
    refine g_alen hC hP 0 0 rfl rfl (v := (nI n1)) rfl dX9_at_10 ?_
    refine lv_icmp_lt (tgt := 18) hx hb dX9_at_11 (by decide) (fun c2 => ?_) (fun c2 => ?_)
    · have h := if_t c2 h
      refine lv_aload_n hx hb dX9_at_18 rfl (lv_at hl 0 rfl) ?_
      refine lv_iload_n hx hb dX9_at_19 rfl (lv_at hl 1 rfl) ?_
      obtain ⟨hin, h⟩ := rd_h h
      refine g_iald hC hP 0 0 rfl rfl hin dX9_at_20 (fun v3 ev => ?_)
      have h := h v3 ev
      exact ret_i hC hr hlk hP dX9_at_21 () (⟨Option.some.inj h, rfl⟩) rfl
    · have h := if_f c2 h
      refine lv_iconst (v := 0) hx hb dX9_at_14 (by decide) ?_
      refine lv_goto (tgt := 21) hx hb dX9_at_15 (by decide) ?_
      exact ret_i hC hr hlk hP dX9_at_21 () (⟨Option.some.inj h, rfl⟩) rfl
set_option maxHeartbeats 8000000 in
set_option maxRecDepth 100000 in
theorem c_X9_put (l : Launch) (dC : Nat → ClassId) (dI : Nat → Nat → Nat) (cc : Nat → ClassId) (q0 : Nat) (n1 : Nat) (f1 : (Nat → Int32)) (x2 : Int32) (x3 : Int32) (sz : Nat) (o_f1 : (Nat → Int32)) (hu : f_X9_put x2 x3 n1 f1 = some o_f1) : Met l yX9_put (mw yX9_put cX9_put 3 none) ({ frames := 0, cells := 0, slots := 0, locals := 0 } : Room) (va_Pc [.ref q0, .int x2, .int x3] (mP (dC, dI) (ts cc) sz [(q0, .inl (cc 0, n1, .inl f1))])) ((fun A => va_Qv (fun (w : (Nat → Int32)) => w = o_f1) (fun (w : (Nat → Int32)) t => va_P (dC, dI) classes [(q0, .inl (cc 0, n1, .inl w))] t.heap) A) (va_A [(q0, .inl (cc 0, n1, .inl f1))] sz)) 0 0 (va_A [(q0, .inl (cc 0, n1, .inl f1))] sz) := by
  refine met_go (Qc := fun A => va_Qv (fun (w : (Nat → Int32)) => w = o_f1) (fun (w : (Nat → Int32)) t => va_P (dC, dI) classes [(q0, .inl (cc 0, n1, .inl w))] t.heap) A) (by decide) (Nat.le_of_ble_eq_true rfl) ?_
  intro p e s m below meth c A ls H locs hC hr hlk hin hA hP hl _
  have hC : CX p m c cX9_put 3 s ([.ref q0, .int x2, .int x3] : List Value).toArray RX9 (dC, dI) (ts cc) := hC
  have hx := hC.1.1
  have hb := hC.1.2
  have h := hu
  have hu0 := hu
  unfold f_X9_put at h
  have hl : lv_has ls 3 [(0, .ref q0), (1, .int x2), (2, .int x3)] := hl
  refine lv_aload_n hx hb dX9_put_0 rfl (lv_at hl 0 rfl) ?_
  refine lv_ifnull hx hb dX9_put_1 ?_
  refine lv_iload_n hx hb dX9_put_4 rfl (lv_at hl 1 rfl) ?_
  refine lv_if_lt (tgt := 18) hx hb dX9_put_5 (by decide) (fun c1 => ?_) (fun c1 => ?_)
  · have h := if_t c1 h
    exact ret_v hC hr hlk hP dX9_put_18 f1 (Option.some.inj h) rfl
  · have h := if_f c1 h
    refine lv_iload_n hx hb dX9_put_8 rfl (lv_at hl 1 rfl) ?_
    refine lv_aload_n hx hb dX9_put_9 rfl (lv_at hl 0 rfl) ?_
    refine g_alen hC hP 0 0 rfl rfl (v := (nI n1)) rfl dX9_put_10 ?_
    refine lv_icmp_ge (tgt := 18) hx hb dX9_put_11 (by decide) (fun c2 => ?_) (fun c2 => ?_)
    · have h := if_t c2 h
      exact ret_v hC hr hlk hP dX9_put_18 f1 (Option.some.inj h) rfl
    · have h := if_f c2 h
      refine lv_aload_n hx hb dX9_put_14 rfl (lv_at hl 0 rfl) ?_
      refine lv_iload_n hx hb dX9_put_15 rfl (lv_at hl 1 rfl) ?_
      refine lv_iload_n hx hb dX9_put_16 rfl (lv_at hl 2 rfl) ?_
      obtain ⟨hin, h⟩ := wr_h h
      refine g_iast hC hP 0 0 rfl rfl hin dX9_put_17 (fun a3 ev H locs hP => ?_)
      have hP : PD (dC, dI) A s.heap [(q0, .inl (cc 0, n1, .inl a3))] H locs := hP
      have h := h a3 ev
      exact ret_v hC hr hlk hP dX9_put_18 a3 (Option.some.inj h) rfl
set_option maxHeartbeats 8000000 in
set_option maxRecDepth 100000 in
theorem c_X9_copyRow (l : Launch) (dC : Nat → ClassId) (dI : Nat → Nat → Nat) (cc : Nat → ClassId) (q0 q1 : Nat) (n1 : Nat) (n2 : Nat) (f1 : (Nat → Int32)) (f2 : (Nat → Int32)) (sz : Nat) (o_f2 : (Nat → Int32)) (hu : f_X9_copyRow n1 n2 f1 f2 = some o_f2) : Met l yX9_copyRow (mw yX9_copyRow cX9_copyRow 2 none) ({ frames := 1, cells := 0, slots := 0, locals := 40 } : Room) (va_Pc [.ref q0, .ref q1] (mP (dC, dI) (ts cc) sz [(q0, .inl (cc 0, n1, .inl f1)), (q1, .inl (cc 0, n2, .inl f2))])) ((fun A => va_Qv (fun (w : (Nat → Int32)) => w = o_f2) (fun (w : (Nat → Int32)) t => va_P (dC, dI) classes [(q0, .inl (cc 0, n1, .inl f1)), (q1, .inl (cc 0, n2, .inl w))] t.heap) A) (va_A [(q0, .inl (cc 0, n1, .inl f1)), (q1, .inl (cc 0, n2, .inl f2))] sz)) 0 0 (va_A [(q0, .inl (cc 0, n1, .inl f1)), (q1, .inl (cc 0, n2, .inl f2))] sz) := by
  refine met_go (Qc := fun A => va_Qv (fun (w : (Nat → Int32)) => w = o_f2) (fun (w : (Nat → Int32)) t => va_P (dC, dI) classes [(q0, .inl (cc 0, n1, .inl f1)), (q1, .inl (cc 0, n2, .inl w))] t.heap) A) (by decide) (Nat.le_of_ble_eq_true rfl) ?_
  intro p e s m below meth c A ls H locs hC hr hlk hin hA hP hl _
  have hC : CX p m c cX9_copyRow 2 s ([.ref q0, .ref q1] : List Value).toArray RX9 (dC, dI) (ts cc) := hC
  have hx := hC.1.1
  have hb := hC.1.2
  have h := hu
  have hu0 := hu
  unfold f_X9_copyRow at h
  have hl : lv_has ls 2 [(0, .ref q0), (1, .ref q1)] := hl
  refine lv_aload_n hx hb dX9_copyRow_0 rfl (lv_at hl 0 rfl) ?_
  refine lv_ifnull hx hb dX9_copyRow_1 ?_
  refine lv_aload_n hx hb dX9_copyRow_4 rfl (lv_at hl 1 rfl) ?_
  refine lv_ifnull hx hb dX9_copyRow_5 ?_
  refine lv_aload_n hx hb dX9_copyRow_8 rfl (lv_at hl 0 rfl) ?_
  refine lv_iconst (v := 0) hx hb dX9_copyRow_9 (by decide) ?_
  refine lv_aload_n hx hb dX9_copyRow_10 rfl (lv_at hl 1 rfl) ?_
  refine lv_iconst (v := 0) hx hb dX9_copyRow_11 (by decide) ?_
  refine lv_aload_n hx hb dX9_copyRow_12 rfl (lv_at hl 0 rfl) ?_
  refine g_alen hC hP 0 0 rfl rfl (v := (nI n1)) rfl dX9_copyRow_13 ?_
  refine lv_aload_n hx hb dX9_copyRow_14 rfl (lv_at hl 1 rfl) ?_
  refine g_alen hC hP 1 0 rfl rfl (v := (nI n2)) rfl dX9_copyRow_15 ?_
  refine g_min hC hl.1 mh_X9_274 (Nat.le_of_ble_eq_true rfl) (Nat.le_of_ble_eq_true rfl) (Nat.zero_le _) (Nat.zero_le _) dX9_copyRow_16 ?_
  refine lv_topi (fun v1 ev => ?_)
  have h := nm_h ev h
  obtain ⟨hin, h⟩ := acp_h h
  refine g_copy hC hP hl.1 kw379 kw381 kw380 kw16 0 1 0 rfl rfl rfl rfl hin (Nat.le_of_ble_eq_true rfl) (Nat.le_of_ble_eq_true rfl) dX9_copyRow_19 (fun a2 ev H locs hP => ?_)
  have hP : PD (dC, dI) A s.heap [(q0, .inl (cc 0, n1, .inl f1)), (q1, .inl (cc 0, n2, .inl a2))] H locs := hP
  have h := h a2 ev
  exact ret_v hC hr hlk hP dX9_copyRow_22 a2 (Option.some.inj h) rfl
set_option maxHeartbeats 8000000 in
set_option maxRecDepth 100000 in
theorem c_X9_hasBit (l : Launch) (dC : Nat → ClassId) (dI : Nat → Nat → Nat) (cc : Nat → ClassId) (x1 : Int32) (x2 : Int32) (sz : Nat) (ret : Int32) (hu : f_X9_hasBit x1 x2 = some ret) : Met l yX9_hasBit (mw yX9_hasBit cX9_hasBit 2 (some .boolean)) ({ frames := 0, cells := 0, slots := 0, locals := 0 } : Room) (va_Pc [.int x1, .int x2] (mP (dC, dI) (ts cc) sz [])) ((fun A => va_Qi (fun (r : Int32) (w : Unit) => narrow .boolean (.int r) = .int r ∧ (r = ret ∧ w = ())) (fun (w : Unit) t => va_P (dC, dI) classes [] t.heap) A) (va_A [] sz)) 0 0 (va_A [] sz) := by
  refine met_go (Qc := fun A => va_Qi (fun (r : Int32) (w : Unit) => narrow .boolean (.int r) = .int r ∧ (r = ret ∧ w = ())) (fun (w : Unit) t => va_P (dC, dI) classes [] t.heap) A) (by decide) (Nat.le_of_ble_eq_true rfl) ?_
  intro p e s m below meth c A ls H locs hC hr hlk hin hA hP hl _
  have hC : CX p m c cX9_hasBit 2 s ([.int x1, .int x2] : List Value).toArray RX9 (dC, dI) (ts cc) := hC
  have hx := hC.1.1
  have hb := hC.1.2
  have h := hu
  have hu0 := hu
  unfold f_X9_hasBit at h
  have hl : lv_has ls 2 [(0, .int x1), (1, .int x2)] := hl
  refine lv_iload_n hx hb dX9_hasBit_0 rfl (lv_at hl 1 rfl) ?_
  refine lv_if_lt (tgt := 22) hx hb dX9_hasBit_1 (by decide) (fun c1 => ?_) (fun c1 => ?_)
  · have h := if_t c1 h
    refine lv_iconst (v := 0) hx hb dX9_hasBit_22 (by decide) ?_
    exact ret_z hC hr rfl hlk hP dX9_hasBit_23 () (⟨Option.some.inj h, rfl⟩) rfl
  · have h := if_f c1 h
    refine lv_iload_n hx hb dX9_hasBit_4 rfl (lv_at hl 1 rfl) ?_
    refine lv_bipush (v := 31) hx hb dX9_hasBit_5 (by decide) ?_
    refine lv_icmp_ge (tgt := 22) hx hb dX9_hasBit_7 (by decide) (fun c2 => ?_) (fun c2 => ?_)
    · have h := if_t c2 h
      refine lv_iconst (v := 0) hx hb dX9_hasBit_22 (by decide) ?_
      exact ret_z hC hr rfl hlk hP dX9_hasBit_23 () (⟨Option.some.inj h, rfl⟩) rfl
    · have h := if_f c2 h
      refine lv_iload_n hx hb dX9_hasBit_10 rfl (lv_at hl 0 rfl) ?_
      refine lv_iload_n hx hb dX9_hasBit_11 rfl (lv_at hl 1 rfl) ?_
      refine lv_ishr hx hb dX9_hasBit_12 ?_
      refine lv_iconst (v := 1) hx hb dX9_hasBit_13 (by decide) ?_
      refine lv_iand hx hb dX9_hasBit_14 ?_
      refine lv_if_eq (tgt := 22) hx hb dX9_hasBit_15 (by decide) (fun c3 => ?_) (fun c3 => ?_)
      · have h := if_t c3 h
        refine lv_iconst (v := 0) hx hb dX9_hasBit_22 (by decide) ?_
        exact ret_z hC hr rfl hlk hP dX9_hasBit_23 () (⟨Option.some.inj h, rfl⟩) rfl
      · have h := if_f c3 h
        refine lv_iconst (v := 1) hx hb dX9_hasBit_18 (by decide) ?_
        refine lv_goto (tgt := 23) hx hb dX9_hasBit_19 (by decide) ?_
        exact ret_z hC hr rfl hlk hP dX9_hasBit_23 () (⟨Option.some.inj h, rfl⟩) rfl
set_option maxHeartbeats 8000000 in
set_option maxRecDepth 100000 in
theorem c_X9_power (l : Launch) (dC : Nat → ClassId) (dI : Nat → Nat → Nat) (cc : Nat → ClassId) (x1 : Int32) (x2 : Int32) (sz : Nat) (ret : Int64) (hu : f_X9_power x1 x2 = some ret) : Met l yX9_power (mw yX9_power cX9_power 5 (some .long)) ({ frames := 0, cells := 0, slots := 0, locals := 0 } : Room) (va_Pc [.int x1, .int x2] (mP (dC, dI) (ts cc) sz [])) ((fun A => va_Ql (fun (r : Int64) (w : Unit) => r = ret ∧ w = ()) (fun (w : Unit) t => va_P (dC, dI) classes [] t.heap) A) (va_A [] sz)) 0 0 (va_A [] sz) := by
  refine met_go (Qc := fun A => va_Ql (fun (r : Int64) (w : Unit) => r = ret ∧ w = ()) (fun (w : Unit) t => va_P (dC, dI) classes [] t.heap) A) (by decide) (Nat.le_of_ble_eq_true rfl) ?_
  intro p e s m below meth c A ls H locs hC hr hlk hin hA hP hl _
  have hC : CX p m c cX9_power 5 s ([.int x1, .int x2] : List Value).toArray RX9 (dC, dI) (ts cc) := hC
  have hx := hC.1.1
  have hb := hC.1.2
  have h := hu
  have hu0 := hu
  unfold f_X9_power at h
  have hl : lv_has ls 5 [(0, .int x1), (1, .int x2)] := hl
  refine W_abs (fun Z eZ => ?_)
  refine lv_lconst (v := 1) hx hb dX9_power_0 (by decide) ?_
  refine lv_lstore_n (lv' := [(2, .long 1), (0, .int x1), (1, .int x2)]) hx hb dX9_power_1 rfl hl (by decide) rfl (fun ls hl => ?_)
  refine lv_iconst (v := 0) hx hb dX9_power_2 (by decide) ?_
  refine lv_istore (lv' := [(4, .int 0), (2, .long 1), (0, .int x1), (1, .int x2)]) hx hb dX9_power_3 hl (by decide) rfl (fun ls hl => ?_)
  obtain ⟨⟨j1x, j2x⟩, hlp, h⟩ := bnd_h h
  have L1 : ∀ (n : Nat) (j1 : Int64) (j2 : Int32) (j1x : Int64) (j2x : Int32), lp (u2 (b_X9_power_1 x1 x2)) n (j1, j2) = some (j1x, j2x) → ∀ (H : Heap) (locs : List Loc) (ls : Array Slot), PD (dC, dI) A s.heap [] H locs → lv_has ls 5 [(0, .int x1), (1, .int x2), (2, .long j1), (4, .int j2)] → (∀ (H : Heap) (locs : List Loc) (ls : Array Slot), PD (dC, dI) A s.heap [] H locs → lv_has ls 5 [(0, .int x1), (1, .int x2), (2, .long j1x), (4, .int j2x)] → W p l e ({ frames := 0, cells := 0, slots := 0, locals := 0 } : Room) s m ([.int x1, .int x2] : List Value).toArray below meth c H locs 0 0 Z (F0 m 22 ls [])) → W p l e ({ frames := 0, cells := 0, slots := 0, locals := 0 } : Room) s m ([.int x1, .int x2] : List Value).toArray below meth c H locs 0 0 Z (F0 m 5 ls []) := by
    intro n
    induction n with
    | zero => intro j1 j2 j1x j2x h; exact (lp_0 h).elim
    | succ n ih =>
      intro j1 j2 j1x j2x h H locs ls hP hl KK
      obtain ⟨y, h, hz⟩ := lp_h h
      refine lv_iload hx hb dX9_power_5 (lv_at hl 3 rfl) ?_
      refine lv_iload_n hx hb dX9_power_7 rfl (lv_at hl 1 rfl) ?_
      refine lv_icmp_ge (tgt := 22) hx hb dX9_power_8 (by decide) (fun c3 => ?_) (fun c3 => ?_)
      · have h := if_t c3 h
        cases lp_e h hz
        exact KK H locs ls hP (lv_sub hl [0, 1, 2, 3] rfl)
      · have h := if_f c3 h
        refine lv_lload_n hx hb dX9_power_11 rfl (lv_at hl 2 rfl) ?_
        refine lv_iload_n hx hb dX9_power_12 rfl (lv_at hl 0 rfl) ?_
        refine lv_i2l hx hb dX9_power_13 rfl ?_
        refine lv_lmul hx hb dX9_power_14 ?_
        refine lv_lstore_n (lv' := [(2, .long (j1 * (Int32.toInt64 x1))), (0, .int x1), (1, .int x2), (4, .int j2)]) hx hb dX9_power_15 rfl hl (by decide) rfl (fun ls hl => ?_)
        refine lv_iinc (v := (j2 + 1)) (lv' := [(4, .int (j2 + 1)), (2, .long (j1 * (Int32.toInt64 x1))), (0, .int x1), (1, .int x2)]) hx hb dX9_power_16 hl (k := 3) rfl rfl (by decide) rfl (fun ls hl => ?_)
        refine lv_goto (tgt := 5) hx hb dX9_power_19 (by decide) ?_
        exact ih _ _ _ _ (lp_n h hz) H locs ls hP (lv_sub hl [2, 3, 1, 0] rfl) KK
  refine L1 FU _ _ j1x j2x hlp H locs ls hP (lv_sub hl [2, 3, 1, 0] rfl) (fun H locs ls hP hl => ?_)
  refine lv_lload_n hx hb dX9_power_22 rfl (lv_at hl 2 rfl) ?_
  rw [eZ]
  exact ret_l hC hr hlk hP dX9_power_23 () (⟨Option.some.inj h, rfl⟩) rfl
set_option maxHeartbeats 8000000 in
set_option maxRecDepth 100000 in
theorem c_X9_commonDivisorWithTen (l : Launch) (dC : Nat → ClassId) (dI : Nat → Nat → Nat) (cc : Nat → ClassId) (x1 : Int32) (sz : Nat) (ret : Int32) (hu : f_X9_commonDivisorWithTen x1 = some ret) : Met l yX9_commonDivisorWithTen (mw yX9_commonDivisorWithTen cX9_commonDivisorWithTen 2 (some .int)) ({ frames := 0, cells := 0, slots := 0, locals := 0 } : Room) (va_Pc [.int x1] (mP (dC, dI) (ts cc) sz [])) ((fun A => va_Qi (fun (r : Int32) (w : Unit) => r = ret ∧ w = ()) (fun (w : Unit) t => va_P (dC, dI) classes [] t.heap) A) (va_A [] sz)) 0 0 (va_A [] sz) := by
  refine met_go (Qc := fun A => va_Qi (fun (r : Int32) (w : Unit) => r = ret ∧ w = ()) (fun (w : Unit) t => va_P (dC, dI) classes [] t.heap) A) (by decide) (Nat.le_of_ble_eq_true rfl) ?_
  intro p e s m below meth c A ls H locs hC hr hlk hin hA hP hl _
  have hC : CX p m c cX9_commonDivisorWithTen 2 s ([.int x1] : List Value).toArray RX9 (dC, dI) (ts cc) := hC
  have hx := hC.1.1
  have hb := hC.1.2
  have h := hu
  have hu0 := hu
  unfold f_X9_commonDivisorWithTen at h
  have hl : lv_has ls 2 [(0, .int x1)] := hl
  refine W_abs (fun Z eZ => ?_)
  refine lv_bipush (v := 10) hx hb dX9_commonDivisorWithTen_0 (by decide) ?_
  refine lv_istore_n (lv' := [(1, .int 10), (0, .int x1)]) hx hb dX9_commonDivisorWithTen_2 rfl hl (by decide) rfl (fun ls hl => ?_)
  obtain ⟨z, hlp, hk, hj⟩ := bndE_h h
  have L1 : ∀ (n : Nat) (j1 : Int32) (z : ((Int32) ⊕ (Int32))), lp ((b_X9_commonDivisorWithTen_1 x1)) n j1 = some z → ∀ (H : Heap) (locs : List Loc) (ls : Array Slot), PD (dC, dI) A s.heap [] H locs → lv_has ls 2 [(0, .int x1), (1, .int j1)] → (∀ (j1x : Int32), z = .inl j1x → ∀ (H : Heap) (locs : List Loc) (ls : Array Slot), PD (dC, dI) A s.heap [] H locs → lv_has ls 2 [(0, .int x1), (1, .int j1x)] → W p l e ({ frames := 0, cells := 0, slots := 0, locals := 0 } : Room) s m ([.int x1] : List Value).toArray below meth c H locs 0 0 Z (F0 m 29 ls [])) → (∀ q, z = .inr q → q = ret) → W p l e ({ frames := 0, cells := 0, slots := 0, locals := 0 } : Room) s m ([.int x1] : List Value).toArray below meth c H locs 0 0 Z (F0 m 3 ls []) := by
    intro n
    induction n with
    | zero => intro j1 z h; exact (lp_0 h).elim
    | succ n ih =>
      intro j1 z h H locs ls hP hl KK KR
      obtain ⟨y, h, hz⟩ := lp_h h
      refine lv_iload_n hx hb dX9_commonDivisorWithTen_3 rfl (lv_at hl 1 rfl) ?_
      refine lv_iconst (v := 1) hx hb dX9_commonDivisorWithTen_4 (by decide) ?_
      refine lv_icmp_le (tgt := 29) hx hb dX9_commonDivisorWithTen_5 (by decide) (fun c2 => ?_) (fun c2 => ?_)
      · have h := if_t c2 h
        exact KK j1 (lp_e h hz).symm H locs ls hP (lv_sub hl [0, 1] rfl)
      · have h := if_f c2 h
        refine lv_iload_n hx hb dX9_commonDivisorWithTen_8 rfl (lv_at hl 0 rfl) ?_
        refine lv_iload_n hx hb dX9_commonDivisorWithTen_9 rfl (lv_at hl 1 rfl) ?_
        obtain ⟨hne, h⟩ := rmI_h h
        refine lv_irem hx hb dX9_commonDivisorWithTen_10 hne ?_
        refine lv_topi (fun v3 ev => ?_)
        have h := h v3 ev
        refine lv_if_ne (tgt := 23) hx hb dX9_commonDivisorWithTen_11 (by decide) (fun c4 => ?_) (fun c4 => ?_)
        · have h := if_f c4 h
          refine lv_iinc (v := (j1 + (-1))) (lv' := [(1, .int (j1 + (-1))), (0, .int x1)]) hx hb dX9_commonDivisorWithTen_23 hl (k := 1) rfl rfl (by decide) rfl (fun ls hl => ?_)
          refine lv_goto (tgt := 3) hx hb dX9_commonDivisorWithTen_26 (by decide) ?_
          exact ih _ _ (lp_n h hz) H locs ls hP (lv_sub hl [1, 0] rfl) KK KR
        · have h := if_t c4 h
          refine lv_bipush (v := 10) hx hb dX9_commonDivisorWithTen_14 (by decide) ?_
          refine lv_iload_n hx hb dX9_commonDivisorWithTen_16 rfl (lv_at hl 1 rfl) ?_
          obtain ⟨hne, h⟩ := rmI_h h
          refine lv_irem hx hb dX9_commonDivisorWithTen_17 hne ?_
          refine lv_topi (fun v5 ev => ?_)
          have h := h v5 ev
          refine lv_if_ne (tgt := 23) hx hb dX9_commonDivisorWithTen_18 (by decide) (fun c6 => ?_) (fun c6 => ?_)
          · have h := if_f c6 h
            refine lv_iinc (v := (j1 + (-1))) (lv' := [(1, .int (j1 + (-1))), (0, .int x1)]) hx hb dX9_commonDivisorWithTen_23 hl (k := 1) rfl rfl (by decide) rfl (fun ls hl => ?_)
            refine lv_goto (tgt := 3) hx hb dX9_commonDivisorWithTen_26 (by decide) ?_
            exact ih _ _ (lp_n h hz) H locs ls hP (lv_sub hl [1, 0] rfl) KK KR
          · have h := if_t c6 h
            refine lv_iload_n hx hb dX9_commonDivisorWithTen_21 rfl (lv_at hl 1 rfl) ?_
            rw [eZ]
            exact ret_i hC hr hlk hP dX9_commonDivisorWithTen_22 () (⟨KR _ (lp_e h hz).symm, rfl⟩) rfl
  refine L1 FU _ z hlp H locs ls hP (lv_sub hl [1, 0] rfl) (fun j1x e H locs ls hP hl => ?_) (fun q e => Option.some.inj (hj q e))
  have h := hk _ e
  refine lv_iconst (v := 1) hx hb dX9_commonDivisorWithTen_29 (by decide) ?_
  rw [eZ]
  exact ret_i hC hr hlk hP dX9_commonDivisorWithTen_30 () (⟨Option.some.inj h, rfl⟩) rfl
set_option maxHeartbeats 8000000 in
set_option maxRecDepth 100000 in
theorem c_X9_cutsInTheMean (l : Launch) (dC : Nat → ClassId) (dI : Nat → Nat → Nat) (cc : Nat → ClassId) (x1 : Int32) (x2 : Int32) (x3 : Int32) (sz : Nat) (ret : Int64) (hu : f_X9_cutsInTheMean x1 x2 x3 = some ret) : Met l yX9_cutsInTheMean (mw yX9_cutsInTheMean cX9_cutsInTheMean 9 (some .long)) ({ frames := 0, cells := 0, slots := 0, locals := 0 } : Room) (va_Pc [.int x1, .int x2, .int x3] (mP (dC, dI) (ts cc) sz [])) ((fun A => va_Ql (fun (r : Int64) (w : Unit) => r = ret ∧ w = ()) (fun (w : Unit) t => va_P (dC, dI) classes [] t.heap) A) (va_A [] sz)) 0 0 (va_A [] sz) := by
  refine met_go (Qc := fun A => va_Ql (fun (r : Int64) (w : Unit) => r = ret ∧ w = ()) (fun (w : Unit) t => va_P (dC, dI) classes [] t.heap) A) (by decide) (Nat.le_of_ble_eq_true rfl) ?_
  intro p e s m below meth c A ls H locs hC hr hlk hin hA hP hl _
  have hC : CX p m c cX9_cutsInTheMean 9 s ([.int x1, .int x2, .int x3] : List Value).toArray RX9 (dC, dI) (ts cc) := hC
  have hx := hC.1.1
  have hb := hC.1.2
  have h := hu
  have hu0 := hu
  unfold f_X9_cutsInTheMean at h
  have hl : lv_has ls 9 [(0, .int x1), (1, .int x2), (2, .int x3)] := hl
  refine W_abs (fun Z eZ => ?_)
  refine lv_lconst (v := 0) hx hb dX9_cutsInTheMean_0 (by decide) ?_
  refine lv_lstore_n (lv' := [(3, .long 0), (0, .int x1), (1, .int x2), (2, .int x3)]) hx hb dX9_cutsInTheMean_1 rfl hl (by decide) rfl (fun ls hl => ?_)
  refine lv_lconst (v := 1) hx hb dX9_cutsInTheMean_2 (by decide) ?_
  refine lv_lstore (lv' := [(5, .long 1), (3, .long 0), (0, .int x1), (1, .int x2), (2, .int x3)]) hx hb dX9_cutsInTheMean_3 hl (by decide) rfl (fun ls hl => ?_)
  refine lv_iconst (v := 0) hx hb dX9_cutsInTheMean_5 (by decide) ?_
  refine lv_istore (lv' := [(7, .int 0), (5, .long 1), (3, .long 0), (0, .int x1), (1, .int x2), (2, .int x3)]) hx hb dX9_cutsInTheMean_6 hl (by decide) rfl (fun ls hl => ?_)
  obtain ⟨⟨j1x, j2x, j3x⟩, hlp, h⟩ := bnd_h h
  have L1 : ∀ (n : Nat) (j1 : Int64) (j2 : Int64) (j3 : Int32) (j1x : Int64) (j2x : Int64) (j3x : Int32), lp (u3 (b_X9_cutsInTheMean_1 x1 x2 x3)) n (j1, j2, j3) = some (j1x, j2x, j3x) → ∀ (H : Heap) (locs : List Loc) (ls : Array Slot), PD (dC, dI) A s.heap [] H locs → lv_has ls 9 [(0, .int x1), (1, .int x2), (2, .int x3), (3, .long j1), (5, .long j2), (7, .int j3)] → (∀ (H : Heap) (locs : List Loc) (ls : Array Slot), PD (dC, dI) A s.heap [] H locs → lv_has ls 9 [(0, .int x1), (1, .int x2), (2, .int x3), (3, .long j1x), (5, .long j2x), (7, .int j3x)] → W p l e ({ frames := 0, cells := 0, slots := 0, locals := 0 } : Room) s m ([.int x1, .int x2, .int x3] : List Value).toArray below meth c H locs 0 0 Z (F0 m 76 ls [])) → W p l e ({ frames := 0, cells := 0, slots := 0, locals := 0 } : Room) s m ([.int x1, .int x2, .int x3] : List Value).toArray below meth c H locs 0 0 Z (F0 m 8 ls []) := by
    intro n
    induction n with
    | zero => intro j1 j2 j3 j1x j2x j3x h; exact (lp_0 h).elim
    | succ n ih =>
      intro j1 j2 j3 j1x j2x j3x h H locs ls hP hl KK
      obtain ⟨y, h, hz⟩ := lp_h h
      refine lv_iload hx hb dX9_cutsInTheMean_8 (lv_at hl 5 rfl) ?_
      refine lv_iconst (v := 2) hx hb dX9_cutsInTheMean_10 (by decide) ?_
      refine lv_iload_n hx hb dX9_cutsInTheMean_11 rfl (lv_at hl 0 rfl) ?_
      refine lv_imul hx hb dX9_cutsInTheMean_12 ?_
      refine lv_icmp_ge (tgt := 76) hx hb dX9_cutsInTheMean_13 (by decide) (fun c4 => ?_) (fun c4 => ?_)
      · have h := if_t c4 h
        cases lp_e h hz
        exact KK H locs ls hP (lv_sub hl [0, 1, 2, 3, 4, 5] rfl)
      · have h := if_f c4 h
        refine lv_lload_n hx hb dX9_cutsInTheMean_16 rfl (lv_at hl 3 rfl) ?_
        refine lv_ldc2 (v := 100) hx hb hC.2.2.1 (hC.2.2.2.1 _ kw725) dX9_cutsInTheMean_17 ?_
        refine lv_lmul hx hb dX9_cutsInTheMean_20 ?_
        refine lv_lload hx hb dX9_cutsInTheMean_21 (lv_at hl 4 rfl) ?_
        refine lv_ladd hx hb dX9_cutsInTheMean_23 ?_
        refine lv_lstore_n (lv' := [(3, .long ((j1 * 100) + j2)), (0, .int x1), (1, .int x2), (2, .int x3), (5, .long j2), (7, .int j3)]) hx hb dX9_cutsInTheMean_24 rfl hl (by decide) rfl (fun ls hl => ?_)
        refine lv_iload_n hx hb dX9_cutsInTheMean_25 rfl (lv_at hl 3 rfl) ?_
        refine lv_if_eq (tgt := 38) hx hb dX9_cutsInTheMean_26 (by decide) (fun c5 => ?_) (fun c5 => ?_)
        · have h := if_t c5 h
          refine lv_iload hx hb dX9_cutsInTheMean_38 (lv_at hl 5 rfl) ?_
          refine lv_iload_n hx hb dX9_cutsInTheMean_40 rfl (lv_at hl 1 rfl) ?_
          refine lv_icmp_ge (tgt := 49) hx hb dX9_cutsInTheMean_41 (by decide) (fun c6 => ?_) (fun c6 => ?_)
          · have h := if_t c6 h
            refine lv_iload hx hb dX9_cutsInTheMean_49 (lv_at hl 5 rfl) ?_
            refine lv_iload_n hx hb dX9_cutsInTheMean_51 rfl (lv_at hl 1 rfl) ?_
            refine lv_isub hx hb dX9_cutsInTheMean_52 ?_
            refine lv_iconst (v := 1) hx hb dX9_cutsInTheMean_53 (by decide) ?_
            refine lv_iadd hx hb dX9_cutsInTheMean_54 ?_
            refine lv_istore (lv' := [(8, .int ((j3 - x1) + 1)), (3, .long ((j1 * 100) + j2)), (0, .int x1), (1, .int x2), (2, .int x3), (5, .long j2), (7, .int j3)]) hx hb dX9_cutsInTheMean_55 hl (by decide) rfl (fun ls hl => ?_)
            refine lv_lload hx hb dX9_cutsInTheMean_57 (lv_at hl 5 rfl) ?_
            refine lv_bipush (v := 100) hx hb dX9_cutsInTheMean_59 (by decide) ?_
            refine lv_iload hx hb dX9_cutsInTheMean_61 (lv_at hl 0 rfl) ?_
            refine lv_iload_n hx hb dX9_cutsInTheMean_63 rfl (lv_at hl 3 rfl) ?_
            refine lv_imul hx hb dX9_cutsInTheMean_64 ?_
            refine lv_isub hx hb dX9_cutsInTheMean_65 ?_
            refine lv_i2l hx hb dX9_cutsInTheMean_66 rfl ?_
            refine lv_lmul hx hb dX9_cutsInTheMean_67 ?_
            refine lv_topl (fun v7 ev => ?_)
            have h := nm_h ev h
            refine lv_lstore (lv' := [(5, .long v7), (8, .int ((j3 - x1) + 1)), (3, .long ((j1 * 100) + j2)), (0, .int x1), (1, .int x2), (2, .int x3), (7, .int j3)]) hx hb dX9_cutsInTheMean_68 hl (by decide) rfl (fun ls hl => ?_)
            refine lv_iinc (v := (j3 + 1)) (lv' := [(7, .int (j3 + 1)), (5, .long v7), (8, .int ((j3 - x1) + 1)), (3, .long ((j1 * 100) + j2)), (0, .int x1), (1, .int x2), (2, .int x3)]) hx hb dX9_cutsInTheMean_70 hl (k := 6) rfl rfl (by decide) rfl (fun ls hl => ?_)
            refine lv_goto (tgt := 8) hx hb dX9_cutsInTheMean_73 (by decide) ?_
            exact ih _ _ _ _ _ _ (lp_n h hz) H locs ls hP (lv_sub hl [4, 5, 6, 3, 1, 0] rfl) KK
          · have h := if_f c6 h
            refine lv_iload hx hb dX9_cutsInTheMean_44 (lv_at hl 5 rfl) ?_
            refine lv_goto (tgt := 53) hx hb dX9_cutsInTheMean_46 (by decide) ?_
            refine lv_iconst (v := 1) hx hb dX9_cutsInTheMean_53 (by decide) ?_
            refine lv_iadd hx hb dX9_cutsInTheMean_54 ?_
            refine lv_istore (lv' := [(8, .int (j3 + 1)), (3, .long ((j1 * 100) + j2)), (0, .int x1), (1, .int x2), (2, .int x3), (5, .long j2), (7, .int j3)]) hx hb dX9_cutsInTheMean_55 hl (by decide) rfl (fun ls hl => ?_)
            refine lv_lload hx hb dX9_cutsInTheMean_57 (lv_at hl 5 rfl) ?_
            refine lv_bipush (v := 100) hx hb dX9_cutsInTheMean_59 (by decide) ?_
            refine lv_iload hx hb dX9_cutsInTheMean_61 (lv_at hl 0 rfl) ?_
            refine lv_iload_n hx hb dX9_cutsInTheMean_63 rfl (lv_at hl 3 rfl) ?_
            refine lv_imul hx hb dX9_cutsInTheMean_64 ?_
            refine lv_isub hx hb dX9_cutsInTheMean_65 ?_
            refine lv_i2l hx hb dX9_cutsInTheMean_66 rfl ?_
            refine lv_lmul hx hb dX9_cutsInTheMean_67 ?_
            refine lv_topl (fun v8 ev => ?_)
            have h := nm_h ev h
            refine lv_lstore (lv' := [(5, .long v8), (8, .int (j3 + 1)), (3, .long ((j1 * 100) + j2)), (0, .int x1), (1, .int x2), (2, .int x3), (7, .int j3)]) hx hb dX9_cutsInTheMean_68 hl (by decide) rfl (fun ls hl => ?_)
            refine lv_iinc (v := (j3 + 1)) (lv' := [(7, .int (j3 + 1)), (5, .long v8), (8, .int (j3 + 1)), (3, .long ((j1 * 100) + j2)), (0, .int x1), (1, .int x2), (2, .int x3)]) hx hb dX9_cutsInTheMean_70 hl (k := 6) rfl rfl (by decide) rfl (fun ls hl => ?_)
            refine lv_goto (tgt := 8) hx hb dX9_cutsInTheMean_73 (by decide) ?_
            exact ih _ _ _ _ _ _ (lp_n h hz) H locs ls hP (lv_sub hl [4, 5, 6, 3, 1, 0] rfl) KK
        · have h := if_f c5 h
          refine lv_iload hx hb dX9_cutsInTheMean_29 (lv_at hl 5 rfl) ?_
          refine lv_iconst (v := 2) hx hb dX9_cutsInTheMean_31 (by decide) ?_
          refine lv_idiv hx hb dX9_cutsInTheMean_32 (by decide) ?_
          refine lv_iconst (v := 1) hx hb dX9_cutsInTheMean_33 (by decide) ?_
          refine lv_iadd hx hb dX9_cutsInTheMean_34 ?_
          refine lv_goto (tgt := 55) hx hb dX9_cutsInTheMean_35 (by decide) ?_
          refine lv_istore (lv' := [(8, .int ((j3 / 2) + 1)), (3, .long ((j1 * 100) + j2)), (0, .int x1), (1, .int x2), (2, .int x3), (5, .long j2), (7, .int j3)]) hx hb dX9_cutsInTheMean_55 hl (by decide) rfl (fun ls hl => ?_)
          refine lv_lload hx hb dX9_cutsInTheMean_57 (lv_at hl 5 rfl) ?_
          refine lv_bipush (v := 100) hx hb dX9_cutsInTheMean_59 (by decide) ?_
          refine lv_iload hx hb dX9_cutsInTheMean_61 (lv_at hl 0 rfl) ?_
          refine lv_iload_n hx hb dX9_cutsInTheMean_63 rfl (lv_at hl 3 rfl) ?_
          refine lv_imul hx hb dX9_cutsInTheMean_64 ?_
          refine lv_isub hx hb dX9_cutsInTheMean_65 ?_
          refine lv_i2l hx hb dX9_cutsInTheMean_66 rfl ?_
          refine lv_lmul hx hb dX9_cutsInTheMean_67 ?_
          refine lv_topl (fun v9 ev => ?_)
          have h := nm_h ev h
          refine lv_lstore (lv' := [(5, .long v9), (8, .int ((j3 / 2) + 1)), (3, .long ((j1 * 100) + j2)), (0, .int x1), (1, .int x2), (2, .int x3), (7, .int j3)]) hx hb dX9_cutsInTheMean_68 hl (by decide) rfl (fun ls hl => ?_)
          refine lv_iinc (v := (j3 + 1)) (lv' := [(7, .int (j3 + 1)), (5, .long v9), (8, .int ((j3 / 2) + 1)), (3, .long ((j1 * 100) + j2)), (0, .int x1), (1, .int x2), (2, .int x3)]) hx hb dX9_cutsInTheMean_70 hl (k := 6) rfl rfl (by decide) rfl (fun ls hl => ?_)
          refine lv_goto (tgt := 8) hx hb dX9_cutsInTheMean_73 (by decide) ?_
          exact ih _ _ _ _ _ _ (lp_n h hz) H locs ls hP (lv_sub hl [4, 5, 6, 3, 1, 0] rfl) KK
  refine L1 FU _ _ _ j1x j2x j3x hlp H locs ls hP (lv_sub hl [3, 4, 5, 2, 1, 0] rfl) (fun H locs ls hP hl => ?_)
  refine lv_lload_n hx hb dX9_cutsInTheMean_76 rfl (lv_at hl 3 rfl) ?_
  rw [eZ]
  exact ret_l hC hr hlk hP dX9_cutsInTheMean_77 () (⟨Option.some.inj h, rfl⟩) rfl
