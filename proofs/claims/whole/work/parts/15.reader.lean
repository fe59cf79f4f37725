theorem kw310 : Cond.methodLink RX3 59 yX5_figureAt ∈ Tg := mem_Tg (List.mem_append_right _ (List.mem_of_getElem? (i := 310) (by decide +kernel))) (by decide +kernel)
theorem kw311 : Cond.instanceMethod yX5_figureAt ∈ Tg := mem_Tg (List.mem_append_right _ (List.mem_of_getElem? (i := 311) (by decide +kernel))) (by decide +kernel)
theorem kw312 : Cond.selects RX5 yX5_figureAt yX5_figureAt ∈ Tg := mem_Tg (List.mem_append_right _ (List.mem_of_getElem? (i := 312) (by decide +kernel))) (by decide +kernel)
theorem in3 : ∀ w ∈ u_ws RX3 TX3 5, w ∈ Tg := by decide +kernel
theorem kw124 : Cond.fieldLink RX3 32 "LeftAndRight$Reader" "numbers" "[I" ∈ Tg := mem_Tg (List.mem_append_right _ (List.mem_of_getElem? (i := 124) (by decide +kernel))) (by decide +kernel)
theorem kn13 : (RX3, 62, yX9_put, "LeftAndRight") ∈ NSt := List.mem_of_getElem? (i := 13) rfl
theorem kw125 : Cond.fieldLink RX3 66 "LeftAndRight$Reader" "told" "I" ∈ Tg := mem_Tg (List.mem_append_right _ (List.mem_of_getElem? (i := 125) (by decide +kernel))) (by decide +kernel)
theorem kw321 : Cond.methodLink RX3 51 yX5_letterAt ∈ Tg := mem_Tg (List.mem_append_right _ (List.mem_of_getElem? (i := 321) (by decide +kernel))) (by decide +kernel)
theorem kw118 : Cond.fieldLink RX3 12 "LeftAndRight$Reader" "shelf" "LLeftAndRight$Shelf;" ∈ Tg := mem_Tg (List.mem_append_right _ (List.mem_of_getElem? (i := 118) (by decide +kernel))) (by decide +kernel)
theorem kw62 : Cond.fieldLink RX3 85 "LeftAndRight$Shelf" "clogs" "I" ∈ Tg := mem_Tg (List.mem_append_right _ (List.mem_of_getElem? (i := 62) (by decide +kernel))) (by decide +kernel)
theorem kn14 : (RX3, 88, yX9_at, "LeftAndRight") ∈ NSt := List.mem_of_getElem? (i := 14) rfl
theorem kn15 : (RX3, 92, yX9_isClog, "LeftAndRight") ∈ NSt := List.mem_of_getElem? (i := 15) rfl
theorem kw334 : Cond.static yX9_isClog ∈ Tg := mem_Tg (List.mem_append_right _ (List.mem_of_getElem? (i := 334) (by decide +kernel))) (by decide +kernel)
theorem kw342 : Cond.methodLink RX3 96 yX4_add ∈ Tg := mem_Tg (List.mem_append_right _ (List.mem_of_getElem? (i := 342) (by decide +kernel))) (by decide +kernel)
theorem kw120 : Cond.fieldLink RX3 21 "LeftAndRight$Reader" "waiting" "LLeftAndRight$Waiting;" ∈ Tg := mem_Tg (List.mem_append_right _ (List.mem_of_getElem? (i := 120) (by decide +kernel))) (by decide +kernel)
theorem kw84 : Cond.fieldLink RX3 100 "LeftAndRight$Waiting" "number" "I" ∈ Tg := mem_Tg (List.mem_append_right _ (List.mem_of_getElem? (i := 84) (by decide +kernel))) (by decide +kernel)
theorem kn17 : (RX3, 103, yX9_within, "LeftAndRight") ∈ NSt := List.mem_of_getElem? (i := 17) rfl
theorem kw352 : Cond.methodLink RX3 107 yX6_add ∈ Tg := mem_Tg (List.mem_append_right _ (List.mem_of_getElem? (i := 352) (by decide +kernel))) (by decide +kernel)
theorem kw353 : Cond.instanceMethod yX6_add ∈ Tg := mem_Tg (List.mem_append_right _ (List.mem_of_getElem? (i := 353) (by decide +kernel))) (by decide +kernel)
theorem kw354 : Cond.selects RX6 yX6_add yX6_add ∈ Tg := mem_Tg (List.mem_append_right _ (List.mem_of_getElem? (i := 354) (by decide +kernel))) (by decide +kernel)
theorem kw122 : Cond.fieldLink RX3 28 "LeftAndRight$Reader" "log" "LLeftAndRight$Log;" ∈ Tg := mem_Tg (List.mem_append_right _ (List.mem_of_getElem? (i := 122) (by decide +kernel))) (by decide +kernel)
theorem kw106 : Cond.fieldLink RX3 110 "LeftAndRight$Log" "length" "I" ∈ Tg := mem_Tg (List.mem_append_right _ (List.mem_of_getElem? (i := 106) (by decide +kernel))) (by decide +kernel)
theorem kw108 : Cond.fieldLink RX3 111 "LeftAndRight$Log" "block" "I" ∈ Tg := mem_Tg (List.mem_append_right _ (List.mem_of_getElem? (i := 108) (by decide +kernel))) (by decide +kernel)
theorem kw110 : Cond.fieldLink RX3 114 "LeftAndRight$Log" "knots" "J" ∈ Tg := mem_Tg (List.mem_append_right _ (List.mem_of_getElem? (i := 110) (by decide +kernel))) (by decide +kernel)
theorem kw88 : Cond.fieldLink RX3 118 "LeftAndRight$Waiting" "stocking" "I" ∈ Tg := mem_Tg (List.mem_append_right _ (List.mem_of_getElem? (i := 88) (by decide +kernel))) (by decide +kernel)
theorem kw326 : Cond.methodLink RX3 69 yX3_takeClog ∈ Tg := mem_Tg (List.mem_append_right _ (List.mem_of_getElem? (i := 326) (by decide +kernel))) (by decide +kernel)
theorem kw328 : Cond.instanceMethod yX3_takeClog ∈ Tg := mem_Tg (List.mem_append_right _ (List.mem_of_getElem? (i := 328) (by decide +kernel))) (by decide +kernel)
theorem ks3 : Cond.selects RX3 yX3_takeClog yX3_takeClog ∈ Tg := mem_Tg (List.mem_append_left _ (List.mem_of_getElem? (i := 3) (by decide +kernel))) (by decide +kernel)
theorem kw3 : Cond.initialized RX3 ∈ Tg := mem_Tg (List.mem_append_right _ (List.mem_of_getElem? (i := 3) (by decide +kernel))) (by decide +kernel)
theorem kw347 : Cond.methodLink RX3 73 yX3_takeFeet ∈ Tg := mem_Tg (List.mem_append_right _ (List.mem_of_getElem? (i := 347) (by decide +kernel))) (by decide +kernel)
theorem kw349 : Cond.instanceMethod yX3_takeFeet ∈ Tg := mem_Tg (List.mem_append_right _ (List.mem_of_getElem? (i := 349) (by decide +kernel))) (by decide +kernel)
theorem ks4 : Cond.selects RX3 yX3_takeFeet yX3_takeFeet ∈ Tg := mem_Tg (List.mem_append_left _ (List.mem_of_getElem? (i := 4) (by decide +kernel))) (by decide +kernel)
theorem kw357 : Cond.methodLink RX3 76 yX3_takeLog ∈ Tg := mem_Tg (List.mem_append_right _ (List.mem_of_getElem? (i := 357) (by decide +kernel))) (by decide +kernel)
theorem kw359 : Cond.instanceMethod yX3_takeLog ∈ Tg := mem_Tg (List.mem_append_right _ (List.mem_of_getElem? (i := 359) (by decide +kernel))) (by decide +kernel)
theorem ks5 : Cond.selects RX3 yX3_takeLog yX3_takeLog ∈ Tg := mem_Tg (List.mem_append_left _ (List.mem_of_getElem? (i := 5) (by decide +kernel))) (by decide +kernel)
theorem kw361 : Cond.methodLink RX3 79 yX3_takeKnot ∈ Tg := mem_Tg (List.mem_append_right _ (List.mem_of_getElem? (i := 361) (by decide +kernel))) (by decide +kernel)
theorem kw363 : Cond.instanceMethod yX3_takeKnot ∈ Tg := mem_Tg (List.mem_append_right _ (List.mem_of_getElem? (i := 363) (by decide +kernel))) (by decide +kernel)
theorem ks6 : Cond.selects RX3 yX3_takeKnot yX3_takeKnot ∈ Tg := mem_Tg (List.mem_append_left _ (List.mem_of_getElem? (i := 6) (by decide +kernel))) (by decide +kernel)
theorem kw365 : Cond.methodLink RX3 82 yX3_takeStocking ∈ Tg := mem_Tg (List.mem_append_right _ (List.mem_of_getElem? (i := 365) (by decide +kernel))) (by decide +kernel)
theorem kw367 : Cond.instanceMethod yX3_takeStocking ∈ Tg := mem_Tg (List.mem_append_right _ (List.mem_of_getElem? (i := 367) (by decide +kernel))) (by decide +kernel)
theorem ks7 : Cond.selects RX3 yX3_takeStocking yX3_takeStocking ∈ Tg := mem_Tg (List.mem_append_left _ (List.mem_of_getElem? (i := 7) (by decide +kernel))) (by decide +kernel)
theorem kw294 : Cond.methodLink RX3 36 yX4_clear ∈ Tg := mem_Tg (List.mem_append_right _ (List.mem_of_getElem? (i := 294) (by decide +kernel))) (by decide +kernel)
theorem kw295 : Cond.instanceMethod yX4_clear ∈ Tg := mem_Tg (List.mem_append_right _ (List.mem_of_getElem? (i := 295) (by decide +kernel))) (by decide +kernel)
theorem kw296 : Cond.selects RX4 yX4_clear yX4_clear ∈ Tg := mem_Tg (List.mem_append_right _ (List.mem_of_getElem? (i := 296) (by decide +kernel))) (by decide +kernel)
theorem kw298 : Cond.methodLink RX3 39 yX6_clear ∈ Tg := mem_Tg (List.mem_append_right _ (List.mem_of_getElem? (i := 298) (by decide +kernel))) (by decide +kernel)
theorem kw299 : Cond.instanceMethod yX6_clear ∈ Tg := mem_Tg (List.mem_append_right _ (List.mem_of_getElem? (i := 299) (by decide +kernel))) (by decide +kernel)
theorem kw300 : Cond.selects RX6 yX6_clear yX6_clear ∈ Tg := mem_Tg (List.mem_append_right _ (List.mem_of_getElem? (i := 300) (by decide +kernel))) (by decide +kernel)
theorem kw302 : Cond.methodLink RX3 40 yX0_clear ∈ Tg := mem_Tg (List.mem_append_right _ (List.mem_of_getElem? (i := 302) (by decide +kernel))) (by decide +kernel)
theorem kw303 : Cond.instanceMethod yX0_clear ∈ Tg := mem_Tg (List.mem_append_right _ (List.mem_of_getElem? (i := 303) (by decide +kernel))) (by decide +kernel)
theorem kw304 : Cond.selects RX0 yX0_clear yX0_clear ∈ Tg := mem_Tg (List.mem_append_right _ (List.mem_of_getElem? (i := 304) (by decide +kernel))) (by decide +kernel)
theorem kw38 : Cond.fieldLink RX3 41 "LeftAndRight$Text" "length" "I" ∈ Tg := mem_Tg (List.mem_append_right _ (List.mem_of_getElem? (i := 38) (by decide +kernel))) (by decide +kernel)
theorem kw306 : Cond.methodLink RX3 47 yX3_readNumbers ∈ Tg := mem_Tg (List.mem_append_right _ (List.mem_of_getElem? (i := 306) (by decide +kernel))) (by decide +kernel)
theorem kw308 : Cond.instanceMethod yX3_readNumbers ∈ Tg := mem_Tg (List.mem_append_right _ (List.mem_of_getElem? (i := 308) (by decide +kernel))) (by decide +kernel)
theorem ks1 : Cond.selects RX3 yX3_readNumbers yX3_readNumbers ∈ Tg := mem_Tg (List.mem_append_left _ (List.mem_of_getElem? (i := 1) (by decide +kernel))) (by decide +kernel)
theorem kw322 : Cond.methodLink RX3 55 yX3_take ∈ Tg := mem_Tg (List.mem_append_right _ (List.mem_of_getElem? (i := 322) (by decide +kernel))) (by decide +kernel)
theorem kw324 : Cond.instanceMethod yX3_take ∈ Tg := mem_Tg (List.mem_append_right _ (List.mem_of_getElem? (i := 324) (by decide +kernel))) (by decide +kernel)
theorem ks2 : Cond.selects RX3 yX3_take yX3_take ∈ Tg := mem_Tg (List.mem_append_left _ (List.mem_of_getElem? (i := 2) (by decide +kernel))) (by decide +kernel)
theorem dX3_readNumbers_0 : decode cX3_readNumbers 0 = .ok (.iload_n 2, 1) := by decide +kernel
theorem dX3_readNumbers_1 : decode cX3_readNumbers 1 = .ok (.istore_n 3, 1) := by decide +kernel
theorem dX3_readNumbers_2 : decode cX3_readNumbers 2 = .ok (.iconst 0, 1) := by decide +kernel
theorem dX3_readNumbers_3 : decode cX3_readNumbers 3 = .ok (.istore 4, 2) := by decide +kernel
theorem dX3_readNumbers_5 : decode cX3_readNumbers 5 = .ok (.iload 4, 2) := by decide +kernel
theorem dX3_readNumbers_7 : decode cX3_readNumbers 7 = .ok (.iconst 4, 1) := by decide +kernel
theorem dX3_readNumbers_8 : decode cX3_readNumbers 8 = .ok (.if_icmp .ge 98, 3) := by decide +kernel
theorem dX3_readNumbers_11 : decode cX3_readNumbers 11 = .ok (.aload_n 1, 1) := by decide +kernel
theorem dX3_readNumbers_12 : decode cX3_readNumbers 12 = .ok (.iload_n 3, 1) := by decide +kernel
theorem kw313 : Cond.code yX5_figureAt cX5_figureAt 3 (some .int) ∈ Tg := mem_Tg (List.mem_append_right _ (List.mem_of_getElem? (i := 313) (by decide +kernel))) (by decide +kernel)
theorem dX3_readNumbers_13 : decode cX3_readNumbers 13 = .ok (.invokevirtual 59, 3) := by decide +kernel
theorem dX3_readNumbers_16 : decode cX3_readNumbers 16 = .ok (.istore 5, 2) := by decide +kernel
theorem dX3_readNumbers_18 : decode cX3_readNumbers 18 = .ok (.iload 5, 2) := by decide +kernel
theorem dX3_readNumbers_20 : decode cX3_readNumbers 20 = .ok (.ifCond .ge 5, 3) := by decide +kernel
theorem dX3_readNumbers_25 : decode cX3_readNumbers 25 = .ok (.iinc 3 1, 3) := by decide +kernel
theorem dX3_readNumbers_28 : decode cX3_readNumbers 28 = .ok (.aload_n 1, 1) := by decide +kernel
theorem dX3_readNumbers_29 : decode cX3_readNumbers 29 = .ok (.iload_n 3, 1) := by decide +kernel
theorem dX3_readNumbers_30 : decode cX3_readNumbers 30 = .ok (.invokevirtual 59, 3) := by decide +kernel
theorem dX3_readNumbers_33 : decode cX3_readNumbers 33 = .ok (.istore 6, 2) := by decide +kernel
theorem dX3_readNumbers_35 : decode cX3_readNumbers 35 = .ok (.iload 6, 2) := by decide +kernel
theorem dX3_readNumbers_37 : decode cX3_readNumbers 37 = .ok (.ifCond .lt 16, 3) := by decide +kernel
theorem dX3_readNumbers_53 : decode cX3_readNumbers 53 = .ok (.aload_n 0, 1) := by decide +kernel
theorem dX3_readNumbers_54 : decode cX3_readNumbers 54 = .ok (.getfield 32, 3) := by decide +kernel
theorem dX3_readNumbers_57 : decode cX3_readNumbers 57 = .ok (.iload 4, 2) := by decide +kernel
theorem dX3_readNumbers_59 : decode cX3_readNumbers 59 = .ok (.iload 5, 2) := by decide +kernel
theorem dX3_readNumbers_61 : decode cX3_readNumbers 61 = .ok (.invokestatic 62, 3) := by decide +kernel
theorem dX3_readNumbers_64 : decode cX3_readNumbers 64 = .ok (.aload_n 0, 1) := by decide +kernel
theorem dX3_readNumbers_65 : decode cX3_readNumbers 65 = .ok (.iload 4, 2) := by decide +kernel
theorem dX3_readNumbers_67 : decode cX3_readNumbers 67 = .ok (.iconst 1, 1) := by decide +kernel
theorem dX3_readNumbers_68 : decode cX3_readNumbers 68 = .ok (.iadd, 1) := by decide +kernel
theorem dX3_readNumbers_69 : decode cX3_readNumbers 69 = .ok (.putfield 66, 3) := by decide +kernel
theorem dX3_readNumbers_72 : decode cX3_readNumbers 72 = .ok (.aload_n 1, 1) := by decide +kernel
theorem dX3_readNumbers_73 : decode cX3_readNumbers 73 = .ok (.iload_n 3, 1) := by decide +kernel
theorem dX3_readNumbers_74 : decode cX3_readNumbers 74 = .ok (.invokevirtual 51, 3) := by decide +kernel
theorem dX3_readNumbers_77 : decode cX3_readNumbers 77 = .ok (.istore 7, 2) := by decide +kernel
theorem dX3_readNumbers_79 : decode cX3_readNumbers 79 = .ok (.iinc 3 1, 3) := by decide +kernel
theorem dX3_readNumbers_82 : decode cX3_readNumbers 82 = .ok (.iload 7, 2) := by decide +kernel
theorem dX3_readNumbers_84 : decode cX3_readNumbers 84 = .ok (.bipush 59, 2) := by decide +kernel
theorem dX3_readNumbers_86 : decode cX3_readNumbers 86 = .ok (.if_icmp .ne 5, 3) := by decide +kernel
theorem dX3_readNumbers_91 : decode cX3_readNumbers 91 = .ok (.iload 7, 2) := by decide +kernel
theorem dX3_readNumbers_93 : decode cX3_readNumbers 93 = .ok (.bipush 44, 2) := by decide +kernel
theorem dX3_readNumbers_95 : decode cX3_readNumbers 95 = .ok (.if_icmp .eq 5, 3) := by decide +kernel
theorem dX3_readNumbers_100 : decode cX3_readNumbers 100 = .ok (.iinc 4 1, 3) := by decide +kernel
theorem dX3_readNumbers_103 : decode cX3_readNumbers 103 = .ok (.goto (-98), 3) := by decide +kernel
theorem dX3_readNumbers_98 : decode cX3_readNumbers 98 = .ok (.iconst (-1), 1) := by decide +kernel
theorem dX3_readNumbers_99 : decode cX3_readNumbers 99 = .ok (.ireturn, 1) := by decide +kernel
theorem dX3_readNumbers_89 : decode cX3_readNumbers 89 = .ok (.iload_n 3, 1) := by decide +kernel
theorem dX3_readNumbers_90 : decode cX3_readNumbers 90 = .ok (.ireturn, 1) := by decide +kernel
theorem dX3_readNumbers_40 : decode cX3_readNumbers 40 = .ok (.iload 5, 2) := by decide +kernel
theorem dX3_readNumbers_42 : decode cX3_readNumbers 42 = .ok (.bipush 10, 2) := by decide +kernel
theorem dX3_readNumbers_44 : decode cX3_readNumbers 44 = .ok (.imul, 1) := by decide +kernel
theorem dX3_readNumbers_45 : decode cX3_readNumbers 45 = .ok (.iload 6, 2) := by decide +kernel
theorem dX3_readNumbers_47 : decode cX3_readNumbers 47 = .ok (.iadd, 1) := by decide +kernel
theorem dX3_readNumbers_48 : decode cX3_readNumbers 48 = .ok (.istore 5, 2) := by decide +kernel
theorem dX3_readNumbers_50 : decode cX3_readNumbers 50 = .ok (.iinc 3 1, 3) := by decide +kernel
theorem dX3_readNumbers_23 : decode cX3_readNumbers 23 = .ok (.iconst (-1), 1) := by decide +kernel
theorem dX3_readNumbers_24 : decode cX3_readNumbers 24 = .ok (.ireturn, 1) := by decide +kernel
theorem dX3_readNumbers_106 : decode cX3_readNumbers 106 = .ok (.iconst (-1), 1) := by decide +kernel
theorem dX3_readNumbers_107 : decode cX3_readNumbers 107 = .ok (.ireturn, 1) := by decide +kernel
theorem dX3_takeClog_0 : decode cX3_takeClog 0 = .ok (.aload_n 0, 1) := by decide +kernel
theorem dX3_takeClog_1 : decode cX3_takeClog 1 = .ok (.getfield 66, 3) := by decide +kernel
theorem dX3_takeClog_4 : decode cX3_takeClog 4 = .ok (.iconst 4, 1) := by decide +kernel
theorem dX3_takeClog_5 : decode cX3_takeClog 5 = .ok (.if_icmp .ne 53, 3) := by decide +kernel
theorem dX3_takeClog_58 : decode cX3_takeClog 58 = .ok (.iconst 0, 1) := by decide +kernel
theorem dX3_takeClog_59 : decode cX3_takeClog 59 = .ok (.ireturn, 1) := by decide +kernel
theorem dX3_takeClog_8 : decode cX3_takeClog 8 = .ok (.aload_n 0, 1) := by decide +kernel
theorem dX3_takeClog_9 : decode cX3_takeClog 9 = .ok (.getfield 12, 3) := by decide +kernel
theorem dX3_takeClog_12 : decode cX3_takeClog 12 = .ok (.getfield 85, 3) := by decide +kernel
theorem dX3_takeClog_15 : decode cX3_takeClog 15 = .ok (.bipush 10, 2) := by decide +kernel
theorem dX3_takeClog_17 : decode cX3_takeClog 17 = .ok (.if_icmp .ge 41, 3) := by decide +kernel
theorem dX3_takeClog_20 : decode cX3_takeClog 20 = .ok (.aload_n 0, 1) := by decide +kernel
theorem dX3_takeClog_21 : decode cX3_takeClog 21 = .ok (.getfield 32, 3) := by decide +kernel
theorem dX3_takeClog_24 : decode cX3_takeClog 24 = .ok (.iconst 0, 1) := by decide +kernel
theorem dX3_takeClog_25 : decode cX3_takeClog 25 = .ok (.invokestatic 88, 3) := by decide +kernel
theorem dX3_takeClog_28 : decode cX3_takeClog 28 = .ok (.aload_n 0, 1) := by decide +kernel
theorem dX3_takeClog_29 : decode cX3_takeClog 29 = .ok (.getfield 32, 3) := by decide +kernel
theorem dX3_takeClog_32 : decode cX3_takeClog 32 = .ok (.iconst 1, 1) := by decide +kernel
theorem dX3_takeClog_33 : decode cX3_takeClog 33 = .ok (.invokestatic 88, 3) := by decide +kernel
theorem dX3_takeClog_36 : decode cX3_takeClog 36 = .ok (.aload_n 0, 1) := by decide +kernel
theorem dX3_takeClog_37 : decode cX3_takeClog 37 = .ok (.getfield 32, 3) := by decide +kernel
theorem dX3_takeClog_40 : decode cX3_takeClog 40 = .ok (.iconst 2, 1) := by decide +kernel
theorem dX3_takeClog_41 : decode cX3_takeClog 41 = .ok (.invokestatic 88, 3) := by decide +kernel
theorem dX3_takeClog_44 : decode cX3_takeClog 44 = .ok (.aload_n 0, 1) := by decide +kernel
theorem dX3_takeClog_45 : decode cX3_takeClog 45 = .ok (.getfield 32, 3) := by decide +kernel
theorem dX3_takeClog_48 : decode cX3_takeClog 48 = .ok (.iconst 3, 1) := by decide +kernel
theorem dX3_takeClog_49 : decode cX3_takeClog 49 = .ok (.invokestatic 88, 3) := by decide +kernel
theorem kw335 : Cond.code yX9_isClog cX9_isClog 4 (some .boolean) ∈ Tg := mem_Tg (List.mem_append_right _ (List.mem_of_getElem? (i := 335) (by decide +kernel))) (by decide +kernel)
theorem dX3_takeClog_52 : decode cX3_takeClog 52 = .ok (.invokestatic 92, 3) := by decide +kernel
theorem dX3_takeClog_55 : decode cX3_takeClog 55 = .ok (.ifCond .ne 5, 3) := by decide +kernel
theorem dX3_takeClog_60 : decode cX3_takeClog 60 = .ok (.aload_n 0, 1) := by decide +kernel
theorem dX3_takeClog_61 : decode cX3_takeClog 61 = .ok (.getfield 12, 3) := by decide +kernel
theorem dX3_takeClog_64 : decode cX3_takeClog 64 = .ok (.aload_n 0, 1) := by decide +kernel
theorem dX3_takeClog_65 : decode cX3_takeClog 65 = .ok (.getfield 32, 3) := by decide +kernel
theorem dX3_takeClog_68 : decode cX3_takeClog 68 = .ok (.iconst 0, 1) := by decide +kernel
theorem dX3_takeClog_69 : decode cX3_takeClog 69 = .ok (.invokestatic 88, 3) := by decide +kernel
theorem dX3_takeClog_72 : decode cX3_takeClog 72 = .ok (.aload_n 0, 1) := by decide +kernel
theorem dX3_takeClog_73 : decode cX3_takeClog 73 = .ok (.getfield 32, 3) := by decide +kernel
theorem dX3_takeClog_76 : decode cX3_takeClog 76 = .ok (.iconst 1, 1) := by decide +kernel
theorem dX3_takeClog_77 : decode cX3_takeClog 77 = .ok (.invokestatic 88, 3) := by decide +kernel
theorem dX3_takeClog_80 : decode cX3_takeClog 80 = .ok (.aload_n 0, 1) := by decide +kernel
theorem dX3_takeClog_81 : decode cX3_takeClog 81 = .ok (.getfield 32, 3) := by decide +kernel
theorem dX3_takeClog_84 : decode cX3_takeClog 84 = .ok (.iconst 2, 1) := by decide +kernel
theorem dX3_takeClog_85 : decode cX3_takeClog 85 = .ok (.invokestatic 88, 3) := by decide +kernel
theorem dX3_takeClog_88 : decode cX3_takeClog 88 = .ok (.aload_n 0, 1) := by decide +kernel
theorem dX3_takeClog_89 : decode cX3_takeClog 89 = .ok (.getfield 32, 3) := by decide +kernel
theorem dX3_takeClog_92 : decode cX3_takeClog 92 = .ok (.iconst 3, 1) := by decide +kernel
theorem dX3_takeClog_93 : decode cX3_takeClog 93 = .ok (.invokestatic 88, 3) := by decide +kernel
theorem dX3_takeClog_96 : decode cX3_takeClog 96 = .ok (.invokevirtual 96, 3) := by decide +kernel
theorem dX3_takeClog_99 : decode cX3_takeClog 99 = .ok (.iconst 1, 1) := by decide +kernel
theorem dX3_takeClog_100 : decode cX3_takeClog 100 = .ok (.ireturn, 1) := by decide +kernel
theorem dX3_takeFeet_0 : decode cX3_takeFeet 0 = .ok (.aload_n 0, 1) := by decide +kernel
theorem dX3_takeFeet_1 : decode cX3_takeFeet 1 = .ok (.getfield 66, 3) := by decide +kernel
theorem dX3_takeFeet_4 : decode cX3_takeFeet 4 = .ok (.iconst 2, 1) := by decide +kernel
theorem dX3_takeFeet_5 : decode cX3_takeFeet 5 = .ok (.if_icmp .ne 50, 3) := by decide +kernel
theorem dX3_takeFeet_55 : decode cX3_takeFeet 55 = .ok (.iconst 0, 1) := by decide +kernel
theorem dX3_takeFeet_56 : decode cX3_takeFeet 56 = .ok (.ireturn, 1) := by decide +kernel
theorem dX3_takeFeet_8 : decode cX3_takeFeet 8 = .ok (.aload_n 0, 1) := by decide +kernel
theorem dX3_takeFeet_9 : decode cX3_takeFeet 9 = .ok (.getfield 21, 3) := by decide +kernel
theorem dX3_takeFeet_12 : decode cX3_takeFeet 12 = .ok (.getfield 100, 3) := by decide +kernel
theorem dX3_takeFeet_15 : decode cX3_takeFeet 15 = .ok (.iconst 5, 1) := by decide +kernel
theorem dX3_takeFeet_16 : decode cX3_takeFeet 16 = .ok (.if_icmp .ge 39, 3) := by decide +kernel
theorem dX3_takeFeet_19 : decode cX3_takeFeet 19 = .ok (.aload_n 0, 1) := by decide +kernel
theorem dX3_takeFeet_20 : decode cX3_takeFeet 20 = .ok (.getfield 32, 3) := by decide +kernel
theorem dX3_takeFeet_23 : decode cX3_takeFeet 23 = .ok (.iconst 0, 1) := by decide +kernel
theorem dX3_takeFeet_24 : decode cX3_takeFeet 24 = .ok (.invokestatic 88, 3) := by decide +kernel
theorem dX3_takeFeet_27 : decode cX3_takeFeet 27 = .ok (.bipush 10, 2) := by decide +kernel
theorem dX3_takeFeet_29 : decode cX3_takeFeet 29 = .ok (.bipush 72, 2) := by decide +kernel
theorem dX3_takeFeet_31 : decode cX3_takeFeet 31 = .ok (.invokestatic 103, 3) := by decide +kernel
theorem dX3_takeFeet_34 : decode cX3_takeFeet 34 = .ok (.ifCond .eq 21, 3) := by decide +kernel
theorem dX3_takeFeet_37 : decode cX3_takeFeet 37 = .ok (.aload_n 0, 1) := by decide +kernel
theorem dX3_takeFeet_38 : decode cX3_takeFeet 38 = .ok (.getfield 32, 3) := by decide +kernel
theorem dX3_takeFeet_41 : decode cX3_takeFeet 41 = .ok (.iconst 1, 1) := by decide +kernel
theorem dX3_takeFeet_42 : decode cX3_takeFeet 42 = .ok (.invokestatic 88, 3) := by decide +kernel
theorem dX3_takeFeet_45 : decode cX3_takeFeet 45 = .ok (.bipush 10, 2) := by decide +kernel
theorem dX3_takeFeet_47 : decode cX3_takeFeet 47 = .ok (.bipush 72, 2) := by decide +kernel
theorem dX3_takeFeet_49 : decode cX3_takeFeet 49 = .ok (.invokestatic 103, 3) := by decide +kernel
theorem dX3_takeFeet_52 : decode cX3_takeFeet 52 = .ok (.ifCond .ne 5, 3) := by decide +kernel
theorem dX3_takeFeet_57 : decode cX3_takeFeet 57 = .ok (.aload_n 0, 1) := by decide +kernel
theorem dX3_takeFeet_58 : decode cX3_takeFeet 58 = .ok (.getfield 21, 3) := by decide +kernel
theorem dX3_takeFeet_61 : decode cX3_takeFeet 61 = .ok (.aload_n 0, 1) := by decide +kernel
theorem dX3_takeFeet_62 : decode cX3_takeFeet 62 = .ok (.getfield 32, 3) := by decide +kernel
theorem dX3_takeFeet_65 : decode cX3_takeFeet 65 = .ok (.iconst 0, 1) := by decide +kernel
theorem dX3_takeFeet_66 : decode cX3_takeFeet 66 = .ok (.invokestatic 88, 3) := by decide +kernel
theorem dX3_takeFeet_69 : decode cX3_takeFeet 69 = .ok (.aload_n 0, 1) := by decide +kernel
theorem dX3_takeFeet_70 : decode cX3_takeFeet 70 = .ok (.getfield 32, 3) := by decide +kernel
theorem dX3_takeFeet_73 : decode cX3_takeFeet 73 = .ok (.iconst 1, 1) := by decide +kernel
theorem dX3_takeFeet_74 : decode cX3_takeFeet 74 = .ok (.invokestatic 88, 3) := by decide +kernel
theorem kw355 : Cond.code yX6_add cX6_add 3 none ∈ Tg := mem_Tg (List.mem_append_right _ (List.mem_of_getElem? (i := 355) (by decide +kernel))) (by decide +kernel)
theorem dX3_takeFeet_77 : decode cX3_takeFeet 77 = .ok (.invokevirtual 107, 3) := by decide +kernel
theorem dX3_takeFeet_80 : decode cX3_takeFeet 80 = .ok (.iconst 1, 1) := by decide +kernel
theorem dX3_takeFeet_81 : decode cX3_takeFeet 81 = .ok (.ireturn, 1) := by decide +kernel
theorem dX3_takeLog_0 : decode cX3_takeLog 0 = .ok (.aload_n 0, 1) := by decide +kernel
theorem dX3_takeLog_1 : decode cX3_takeLog 1 = .ok (.getfield 66, 3) := by decide +kernel
theorem dX3_takeLog_4 : decode cX3_takeLog 4 = .ok (.iconst 2, 1) := by decide +kernel
theorem dX3_takeLog_5 : decode cX3_takeLog 5 = .ok (.if_icmp .ne 37, 3) := by decide +kernel
theorem dX3_takeLog_42 : decode cX3_takeLog 42 = .ok (.iconst 0, 1) := by decide +kernel
theorem dX3_takeLog_43 : decode cX3_takeLog 43 = .ok (.ireturn, 1) := by decide +kernel
theorem dX3_takeLog_8 : decode cX3_takeLog 8 = .ok (.aload_n 0, 1) := by decide +kernel
theorem dX3_takeLog_9 : decode cX3_takeLog 9 = .ok (.getfield 32, 3) := by decide +kernel
theorem dX3_takeLog_12 : decode cX3_takeLog 12 = .ok (.iconst 0, 1) := by decide +kernel
theorem dX3_takeLog_13 : decode cX3_takeLog 13 = .ok (.invokestatic 88, 3) := by decide +kernel
theorem dX3_takeLog_16 : decode cX3_takeLog 16 = .ok (.iconst 1, 1) := by decide +kernel
theorem dX3_takeLog_17 : decode cX3_takeLog 17 = .ok (.bipush 40, 2) := by decide +kernel
theorem dX3_takeLog_19 : decode cX3_takeLog 19 = .ok (.invokestatic 103, 3) := by decide +kernel
theorem dX3_takeLog_22 : decode cX3_takeLog 22 = .ok (.ifCond .eq 20, 3) := by decide +kernel
theorem dX3_takeLog_25 : decode cX3_takeLog 25 = .ok (.aload_n 0, 1) := by decide +kernel
theorem dX3_takeLog_26 : decode cX3_takeLog 26 = .ok (.getfield 32, 3) := by decide +kernel
theorem dX3_takeLog_29 : decode cX3_takeLog 29 = .ok (.iconst 1, 1) := by decide +kernel
theorem dX3_takeLog_30 : decode cX3_takeLog 30 = .ok (.invokestatic 88, 3) := by decide +kernel
theorem dX3_takeLog_33 : decode cX3_takeLog 33 = .ok (.iconst 2, 1) := by decide +kernel
theorem dX3_takeLog_34 : decode cX3_takeLog 34 = .ok (.bipush 9, 2) := by decide +kernel
theorem dX3_takeLog_36 : decode cX3_takeLog 36 = .ok (.invokestatic 103, 3) := by decide +kernel
theorem dX3_takeLog_39 : decode cX3_takeLog 39 = .ok (.ifCond .ne 5, 3) := by decide +kernel
theorem dX3_takeLog_44 : decode cX3_takeLog 44 = .ok (.aload_n 0, 1) := by decide +kernel
theorem dX3_takeLog_45 : decode cX3_takeLog 45 = .ok (.getfield 28, 3) := by decide +kernel
theorem dX3_takeLog_48 : decode cX3_takeLog 48 = .ok (.aload_n 0, 1) := by decide +kernel
theorem dX3_takeLog_49 : decode cX3_takeLog 49 = .ok (.getfield 32, 3) := by decide +kernel
theorem dX3_takeLog_52 : decode cX3_takeLog 52 = .ok (.iconst 0, 1) := by decide +kernel
theorem dX3_takeLog_53 : decode cX3_takeLog 53 = .ok (.invokestatic 88, 3) := by decide +kernel
theorem dX3_takeLog_56 : decode cX3_takeLog 56 = .ok (.putfield 110, 3) := by decide +kernel
theorem dX3_takeLog_59 : decode cX3_takeLog 59 = .ok (.aload_n 0, 1) := by decide +kernel
theorem dX3_takeLog_60 : decode cX3_takeLog 60 = .ok (.getfield 28, 3) := by decide +kernel
theorem dX3_takeLog_63 : decode cX3_takeLog 63 = .ok (.aload_n 0, 1) := by decide +kernel
theorem dX3_takeLog_64 : decode cX3_takeLog 64 = .ok (.getfield 32, 3) := by decide +kernel
theorem dX3_takeLog_67 : decode cX3_takeLog 67 = .ok (.iconst 1, 1) := by decide +kernel
theorem dX3_takeLog_68 : decode cX3_takeLog 68 = .ok (.invokestatic 88, 3) := by decide +kernel
theorem dX3_takeLog_71 : decode cX3_takeLog 71 = .ok (.putfield 111, 3) := by decide +kernel
theorem dX3_takeLog_74 : decode cX3_takeLog 74 = .ok (.iconst 1, 1) := by decide +kernel
theorem dX3_takeLog_75 : decode cX3_takeLog 75 = .ok (.ireturn, 1) := by decide +kernel
theorem dX3_takeKnot_0 : decode cX3_takeKnot 0 = .ok (.aload_n 0, 1) := by decide +kernel
theorem dX3_takeKnot_1 : decode cX3_takeKnot 1 = .ok (.getfield 66, 3) := by decide +kernel
theorem dX3_takeKnot_4 : decode cX3_takeKnot 4 = .ok (.iconst 1, 1) := by decide +kernel
theorem dX3_takeKnot_5 : decode cX3_takeKnot 5 = .ok (.if_icmp .ne 20, 3) := by decide +kernel
theorem dX3_takeKnot_25 : decode cX3_takeKnot 25 = .ok (.iconst 0, 1) := by decide +kernel
theorem dX3_takeKnot_26 : decode cX3_takeKnot 26 = .ok (.ireturn, 1) := by decide +kernel
theorem dX3_takeKnot_8 : decode cX3_takeKnot 8 = .ok (.aload_n 0, 1) := by decide +kernel
theorem dX3_takeKnot_9 : decode cX3_takeKnot 9 = .ok (.getfield 32, 3) := by decide +kernel
theorem dX3_takeKnot_12 : decode cX3_takeKnot 12 = .ok (.iconst 0, 1) := by decide +kernel
theorem dX3_takeKnot_13 : decode cX3_takeKnot 13 = .ok (.invokestatic 88, 3) := by decide +kernel
theorem dX3_takeKnot_16 : decode cX3_takeKnot 16 = .ok (.iconst 0, 1) := by decide +kernel
theorem dX3_takeKnot_17 : decode cX3_takeKnot 17 = .ok (.bipush 39, 2) := by decide +kernel
theorem dX3_takeKnot_19 : decode cX3_takeKnot 19 = .ok (.invokestatic 103, 3) := by decide +kernel
theorem dX3_takeKnot_22 : decode cX3_takeKnot 22 = .ok (.ifCond .ne 5, 3) := by decide +kernel
theorem dX3_takeKnot_27 : decode cX3_takeKnot 27 = .ok (.aload_n 0, 1) := by decide +kernel
theorem dX3_takeKnot_28 : decode cX3_takeKnot 28 = .ok (.getfield 28, 3) := by decide +kernel
theorem dX3_takeKnot_31 : decode cX3_takeKnot 31 = .ok (.dup, 1) := by decide +kernel
theorem dX3_takeKnot_32 : decode cX3_takeKnot 32 = .ok (.getfield 114, 3) := by decide +kernel
theorem dX3_takeKnot_35 : decode cX3_takeKnot 35 = .ok (.lconst 1, 1) := by decide +kernel
theorem dX3_takeKnot_36 : decode cX3_takeKnot 36 = .ok (.aload_n 0, 1) := by decide +kernel
theorem dX3_takeKnot_37 : decode cX3_takeKnot 37 = .ok (.getfield 32, 3) := by decide +kernel
theorem dX3_takeKnot_40 : decode cX3_takeKnot 40 = .ok (.iconst 0, 1) := by decide +kernel
theorem dX3_takeKnot_41 : decode cX3_takeKnot 41 = .ok (.invokestatic 88, 3) := by decide +kernel
theorem dX3_takeKnot_44 : decode cX3_takeKnot 44 = .ok (.lshl, 1) := by decide +kernel
theorem dX3_takeKnot_45 : decode cX3_takeKnot 45 = .ok (.lor, 1) := by decide +kernel
theorem dX3_takeKnot_46 : decode cX3_takeKnot 46 = .ok (.putfield 114, 3) := by decide +kernel
theorem dX3_takeKnot_49 : decode cX3_takeKnot 49 = .ok (.iconst 1, 1) := by decide +kernel
theorem dX3_takeKnot_50 : decode cX3_takeKnot 50 = .ok (.ireturn, 1) := by decide +kernel
theorem dX3_takeStocking_0 : decode cX3_takeStocking 0 = .ok (.aload_n 0, 1) := by decide +kernel
theorem dX3_takeStocking_1 : decode cX3_takeStocking 1 = .ok (.getfield 66, 3) := by decide +kernel
theorem dX3_takeStocking_4 : decode cX3_takeStocking 4 = .ok (.iconst 1, 1) := by decide +kernel
theorem dX3_takeStocking_5 : decode cX3_takeStocking 5 = .ok (.if_icmp .ne 20, 3) := by decide +kernel
theorem dX3_takeStocking_25 : decode cX3_takeStocking 25 = .ok (.iconst 0, 1) := by decide +kernel
theorem dX3_takeStocking_26 : decode cX3_takeStocking 26 = .ok (.ireturn, 1) := by decide +kernel
theorem dX3_takeStocking_8 : decode cX3_takeStocking 8 = .ok (.aload_n 0, 1) := by decide +kernel
theorem dX3_takeStocking_9 : decode cX3_takeStocking 9 = .ok (.getfield 32, 3) := by decide +kernel
theorem dX3_takeStocking_12 : decode cX3_takeStocking 12 = .ok (.iconst 0, 1) := by decide +kernel
theorem dX3_takeStocking_13 : decode cX3_takeStocking 13 = .ok (.invokestatic 88, 3) := by decide +kernel
theorem dX3_takeStocking_16 : decode cX3_takeStocking 16 = .ok (.iconst 0, 1) := by decide +kernel
theorem dX3_takeStocking_17 : decode cX3_takeStocking 17 = .ok (.bipush 6, 2) := by decide +kernel
theorem dX3_takeStocking_19 : decode cX3_takeStocking 19 = .ok (.invokestatic 103, 3) := by decide +kernel
theorem dX3_takeStocking_22 : decode cX3_takeStocking 22 = .ok (.ifCond .ne 5, 3) := by decide +kernel
theorem dX3_takeStocking_27 : decode cX3_takeStocking 27 = .ok (.aload_n 0, 1) := by decide +kernel
theorem dX3_takeStocking_28 : decode cX3_takeStocking 28 = .ok (.getfield 21, 3) := by decide +kernel
theorem dX3_takeStocking_31 : decode cX3_takeStocking 31 = .ok (.aload_n 0, 1) := by decide +kernel
theorem dX3_takeStocking_32 : decode cX3_takeStocking 32 = .ok (.getfield 32, 3) := by decide +kernel
theorem dX3_takeStocking_35 : decode cX3_takeStocking 35 = .ok (.iconst 0, 1) := by decide +kernel
theorem dX3_takeStocking_36 : decode cX3_takeStocking 36 = .ok (.invokestatic 88, 3) := by decide +kernel
theorem dX3_takeStocking_39 : decode cX3_takeStocking 39 = .ok (.putfield 118, 3) := by decide +kernel
theorem dX3_takeStocking_42 : decode cX3_takeStocking 42 = .ok (.iconst 1, 1) := by decide +kernel
theorem dX3_takeStocking_43 : decode cX3_takeStocking 43 = .ok (.ireturn, 1) := by decide +kernel
theorem dX3_take_0 : decode cX3_take 0 = .ok (.iload_n 1, 1) := by decide +kernel
theorem dX3_take_1 : decode cX3_take 1 = .ok (.lookupswitch 76 #[(99, 51), (102, 56), (103, 61), (107, 66), (115, 71)], 51) := by decide +kernel
theorem dX3_take_52 : decode cX3_take 52 = .ok (.aload_n 0, 1) := by decide +kernel
theorem kw329 : Cond.code yX3_takeClog cX3_takeClog 1 (some .boolean) ∈ Tg := mem_Tg (List.mem_append_right _ (List.mem_of_getElem? (i := 329) (by decide +kernel))) (by decide +kernel)
theorem dX3_take_53 : decode cX3_take 53 = .ok (.invokevirtual 69, 3) := by decide +kernel
theorem dX3_take_56 : decode cX3_take 56 = .ok (.ireturn, 1) := by decide +kernel
theorem dX3_take_57 : decode cX3_take 57 = .ok (.aload_n 0, 1) := by decide +kernel
theorem kw350 : Cond.code yX3_takeFeet cX3_takeFeet 1 (some .boolean) ∈ Tg := mem_Tg (List.mem_append_right _ (List.mem_of_getElem? (i := 350) (by decide +kernel))) (by decide +kernel)
theorem dX3_take_58 : decode cX3_take 58 = .ok (.invokevirtual 73, 3) := by decide +kernel
theorem dX3_take_61 : decode cX3_take 61 = .ok (.ireturn, 1) := by decide +kernel
theorem dX3_take_62 : decode cX3_take 62 = .ok (.aload_n 0, 1) := by decide +kernel
theorem kw360 : Cond.code yX3_takeLog cX3_takeLog 1 (some .boolean) ∈ Tg := mem_Tg (List.mem_append_right _ (List.mem_of_getElem? (i := 360) (by decide +kernel))) (by decide +kernel)
theorem dX3_take_63 : decode cX3_take 63 = .ok (.invokevirtual 76, 3) := by decide +kernel
theorem dX3_take_66 : decode cX3_take 66 = .ok (.ireturn, 1) := by decide +kernel
theorem dX3_take_67 : decode cX3_take 67 = .ok (.aload_n 0, 1) := by decide +kernel
theorem kw364 : Cond.code yX3_takeKnot cX3_takeKnot 1 (some .boolean) ∈ Tg := mem_Tg (List.mem_append_right _ (List.mem_of_getElem? (i := 364) (by decide +kernel))) (by decide +kernel)
theorem dX3_take_68 : decode cX3_take 68 = .ok (.invokevirtual 79, 3) := by decide +kernel
theorem dX3_take_71 : decode cX3_take 71 = .ok (.ireturn, 1) := by decide +kernel
theorem dX3_take_72 : decode cX3_take 72 = .ok (.aload_n 0, 1) := by decide +kernel
theorem kw368 : Cond.code yX3_takeStocking cX3_takeStocking 1 (some .boolean) ∈ Tg := mem_Tg (List.mem_append_right _ (List.mem_of_getElem? (i := 368) (by decide +kernel))) (by decide +kernel)
theorem dX3_take_73 : decode cX3_take 73 = .ok (.invokevirtual 82, 3) := by decide +kernel
theorem dX3_take_76 : decode cX3_take 76 = .ok (.ireturn, 1) := by decide +kernel
theorem dX3_take_77 : decode cX3_take 77 = .ok (.iconst 0, 1) := by decide +kernel
theorem dX3_take_78 : decode cX3_take 78 = .ok (.ireturn, 1) := by decide +kernel
theorem dX3_read_0 : decode cX3_read 0 = .ok (.aload_n 0, 1) := by decide +kernel
theorem dX3_read_1 : decode cX3_read 1 = .ok (.getfield 12, 3) := by decide +kernel
theorem kw297 : Cond.code yX4_clear cX4_clear 1 none ∈ Tg := mem_Tg (List.mem_append_right _ (List.mem_of_getElem? (i := 297) (by decide +kernel))) (by decide +kernel)
theorem dX3_read_4 : decode cX3_read 4 = .ok (.invokevirtual 36, 3) := by decide +kernel
theorem dX3_read_7 : decode cX3_read 7 = .ok (.aload_n 0, 1) := by decide +kernel
theorem dX3_read_8 : decode cX3_read 8 = .ok (.getfield 21, 3) := by decide +kernel
theorem kw301 : Cond.code yX6_clear cX6_clear 1 none ∈ Tg := mem_Tg (List.mem_append_right _ (List.mem_of_getElem? (i := 301) (by decide +kernel))) (by decide +kernel)
theorem dX3_read_11 : decode cX3_read 11 = .ok (.invokevirtual 39, 3) := by decide +kernel
theorem dX3_read_14 : decode cX3_read 14 = .ok (.aload_n 0, 1) := by decide +kernel
theorem dX3_read_15 : decode cX3_read 15 = .ok (.getfield 28, 3) := by decide +kernel
theorem kw305 : Cond.code yX0_clear cX0_clear 1 none ∈ Tg := mem_Tg (List.mem_append_right _ (List.mem_of_getElem? (i := 305) (by decide +kernel))) (by decide +kernel)
theorem dX3_read_18 : decode cX3_read 18 = .ok (.invokevirtual 40, 3) := by decide +kernel
theorem dX3_read_21 : decode cX3_read 21 = .ok (.aload_n 1, 1) := by decide +kernel
theorem dX3_read_22 : decode cX3_read 22 = .ok (.ifnonnull 6, 3) := by decide +kernel
theorem dX3_read_28 : decode cX3_read 28 = .ok (.iconst 0, 1) := by decide +kernel
theorem dX3_read_29 : decode cX3_read 29 = .ok (.istore_n 2, 1) := by decide +kernel
theorem dX3_read_30 : decode cX3_read 30 = .ok (.iconst 0, 1) := by decide +kernel
theorem dX3_read_31 : decode cX3_read 31 = .ok (.istore_n 3, 1) := by decide +kernel
theorem dX3_read_32 : decode cX3_read 32 = .ok (.iload_n 3, 1) := by decide +kernel
theorem dX3_read_33 : decode cX3_read 33 = .ok (.sipush 200, 3) := by decide +kernel
theorem dX3_read_36 : decode cX3_read 36 = .ok (.if_icmp .ge 49, 3) := by decide +kernel
theorem dX3_read_39 : decode cX3_read 39 = .ok (.iload_n 2, 1) := by decide +kernel
theorem dX3_read_40 : decode cX3_read 40 = .ok (.aload_n 1, 1) := by decide +kernel
theorem dX3_read_41 : decode cX3_read 41 = .ok (.getfield 41, 3) := by decide +kernel
theorem dX3_read_44 : decode cX3_read 44 = .ok (.if_icmp .ge 41, 3) := by decide +kernel
theorem dX3_read_47 : decode cX3_read 47 = .ok (.aload_n 0, 1) := by decide +kernel
theorem dX3_read_48 : decode cX3_read 48 = .ok (.aload_n 1, 1) := by decide +kernel
theorem dX3_read_49 : decode cX3_read 49 = .ok (.iload_n 2, 1) := by decide +kernel
theorem dX3_read_50 : decode cX3_read 50 = .ok (.iconst 1, 1) := by decide +kernel
theorem dX3_read_51 : decode cX3_read 51 = .ok (.iadd, 1) := by decide +kernel
theorem kw309 : Cond.code yX3_readNumbers cX3_readNumbers 8 (some .int) ∈ Tg := mem_Tg (List.mem_append_right _ (List.mem_of_getElem? (i := 309) (by decide +kernel))) (by decide +kernel)
theorem dX3_read_52 : decode cX3_read 52 = .ok (.invokevirtual 47, 3) := by decide +kernel
theorem dX3_read_55 : decode cX3_read 55 = .ok (.istore 4, 2) := by decide +kernel
theorem dX3_read_57 : decode cX3_read 57 = .ok (.iload 4, 2) := by decide +kernel
theorem dX3_read_59 : decode cX3_read 59 = .ok (.ifCond .lt 15, 3) := by decide +kernel
theorem dX3_read_74 : decode cX3_read 74 = .ok (.iload_n 2, 1) := by decide +kernel
theorem dX3_read_75 : decode cX3_read 75 = .ok (.ireturn, 1) := by decide +kernel
theorem dX3_read_62 : decode cX3_read 62 = .ok (.aload_n 0, 1) := by decide +kernel
theorem dX3_read_63 : decode cX3_read 63 = .ok (.aload_n 1, 1) := by decide +kernel
theorem dX3_read_64 : decode cX3_read 64 = .ok (.iload_n 2, 1) := by decide +kernel
theorem dX3_read_65 : decode cX3_read 65 = .ok (.invokevirtual 51, 3) := by decide +kernel
theorem kw325 : Cond.code yX3_take cX3_take 2 (some .boolean) ∈ Tg := mem_Tg (List.mem_append_right _ (List.mem_of_getElem? (i := 325) (by decide +kernel))) (by decide +kernel)
theorem dX3_read_68 : decode cX3_read 68 = .ok (.invokevirtual 55, 3) := by decide +kernel
theorem dX3_read_71 : decode cX3_read 71 = .ok (.ifCond .ne 5, 3) := by decide +kernel
theorem dX3_read_76 : decode cX3_read 76 = .ok (.iload 4, 2) := by decide +kernel
theorem dX3_read_78 : decode cX3_read 78 = .ok (.istore_n 2, 1) := by decide +kernel
theorem dX3_read_79 : decode cX3_read 79 = .ok (.iinc 3 1, 3) := by decide +kernel
theorem dX3_read_82 : decode cX3_read 82 = .ok (.goto (-50), 3) := by decide +kernel
theorem dX3_read_85 : decode cX3_read 85 = .ok (.bipush (-4), 2) := by decide +kernel
theorem dX3_read_87 : decode cX3_read 87 = .ok (.ireturn, 1) := by decide +kernel
theorem cv_X3_59 : CVw RX3 59 RX5 yX5_figureAt 1 := ⟨by decide +kernel, kw310, kw311, kw312, kw2⟩
theorem fg_X3_32 : FG RX3 32 3 3 (.array .int) true := ⟨RX3, TX3, 5, tyX3, rfl, in3, by decide, tyX3_ok, nmX3, kw124, rfl, by decide +kernel⟩
theorem cn_X3_62 : CNw RX3 62 yX9_put "LeftAndRight" 3 := ⟨by decide +kernel, kn13, kw319, kw1⟩
theorem fg_X3_66 : FG RX3 66 3 4 .int false := ⟨RX3, TX3, 5, tyX3, rfl, in3, by decide, tyX3_ok, nmX3, kw125, rfl, by decide +kernel⟩
theorem cv_X3_51 : CVw RX3 51 RX5 yX5_letterAt 1 := ⟨by decide +kernel, kw321, kw315, kw316, kw2⟩
theorem fg_X3_12 : FG RX3 12 3 0 (.object "LeftAndRight$Shelf") true := ⟨RX3, TX3, 5, tyX3, rfl, in3, by decide, tyX3_ok, nmX3, kw118, rfl, by decide +kernel⟩
theorem fg_X3_85 : FG RX3 85 4 1 .int false := ⟨RX4, TX4, 3, tyX4, rfl, in4, by decide, tyX4_ok, nmX4, kw62, rfl, by decide +kernel⟩
theorem cn_X3_88 : CNw RX3 88 yX9_at "LeftAndRight" 2 := ⟨by decide +kernel, kn14, kw331, kw1⟩
theorem cn_X3_92 : CNw RX3 92 yX9_isClog "LeftAndRight" 4 := ⟨by decide +kernel, kn15, kw334, kw1⟩
theorem cv_X3_96 : CVw RX3 96 RX4 yX4_add 4 := ⟨by decide +kernel, kw342, kw343, kw344, kw4⟩
theorem fg_X3_21 : FG RX3 21 3 1 (.object "LeftAndRight$Waiting") true := ⟨RX3, TX3, 5, tyX3, rfl, in3, by decide, tyX3_ok, nmX3, kw120, rfl, by decide +kernel⟩
theorem fg_X3_100 : FG RX3 100 6 2 .int false := ⟨RX6, TX6, 4, tyX6, rfl, in6, by decide, tyX6_ok, nmX6, kw84, rfl, by decide +kernel⟩
theorem cn_X3_103 : CNw RX3 103 yX9_within "LeftAndRight" 3 := ⟨by decide +kernel, kn17, kw337, kw1⟩
theorem cv_X3_107 : CVw RX3 107 RX6 yX6_add 2 := ⟨by decide +kernel, kw352, kw353, kw354, kw5⟩
theorem fg_X3_28 : FG RX3 28 3 2 (.object "LeftAndRight$Log") true := ⟨RX3, TX3, 5, tyX3, rfl, in3, by decide, tyX3_ok, nmX3, kw122, rfl, by decide +kernel⟩
theorem fg_X3_110 : FG RX3 110 0 0 .int false := ⟨RX0, TX0, 3, tyX0, rfl, in0, by decide, tyX0_ok, nmX0, kw106, rfl, by decide +kernel⟩
theorem fg_X3_111 : FG RX3 111 0 1 .int false := ⟨RX0, TX0, 3, tyX0, rfl, in0, by decide, tyX0_ok, nmX0, kw108, rfl, by decide +kernel⟩
theorem fg_X3_114 : FG RX3 114 0 2 .long false := ⟨RX0, TX0, 3, tyX0, rfl, in0, by decide, tyX0_ok, nmX0, kw110, rfl, by decide +kernel⟩
theorem fg_X3_118 : FG RX3 118 6 3 .int false := ⟨RX6, TX6, 4, tyX6, rfl, in6, by decide, tyX6_ok, nmX6, kw88, rfl, by decide +kernel⟩
theorem cv_X3_69 : CVw RX3 69 RX3 yX3_takeClog 0 := ⟨by decide +kernel, kw326, kw328, ks3, kw3⟩
theorem cv_X3_73 : CVw RX3 73 RX3 yX3_takeFeet 0 := ⟨by decide +kernel, kw347, kw349, ks4, kw3⟩
theorem cv_X3_76 : CVw RX3 76 RX3 yX3_takeLog 0 := ⟨by decide +kernel, kw357, kw359, ks5, kw3⟩
theorem cv_X3_79 : CVw RX3 79 RX3 yX3_takeKnot 0 := ⟨by decide +kernel, kw361, kw363, ks6, kw3⟩
theorem cv_X3_82 : CVw RX3 82 RX3 yX3_takeStocking 0 := ⟨by decide +kernel, kw365, kw367, ks7, kw3⟩
theorem sw_out_X3_take_1 {x : Int32} (h0 : ¬ x = 99) (h1 : ¬ x = 102) (h2 : ¬ x = 103) (h3 : ¬ x = 107) (h4 : ¬ x = 115) : Op.lookupswitch.offset [(99, 51), (102, 56), (103, 61), (107, 66), (115, 71)] (76) x.toInt = 76 := by
  have e0 : ¬ ((99 : Int) = x.toInt) := fun z => sw_ne h0 z.symm
  have e1 : ¬ ((102 : Int) = x.toInt) := fun z => sw_ne h1 z.symm
  have e2 : ¬ ((103 : Int) = x.toInt) := fun z => sw_ne h2 z.symm
  have e3 : ¬ ((107 : Int) = x.toInt) := fun z => sw_ne h3 z.symm
  have e4 : ¬ ((115 : Int) = x.toInt) := fun z => sw_ne h4 z.symm
  simp [Op.lookupswitch.offset, List.find?, e0, Ne.symm (sw_ne h0), e1, Ne.symm (sw_ne h1), e2, Ne.symm (sw_ne h2), e3, Ne.symm (sw_ne h3), e4, Ne.symm (sw_ne h4)]
theorem cv_X3_36 : CVw RX3 36 RX4 yX4_clear 0 := ⟨by decide +kernel, kw294, kw295, kw296, kw4⟩
theorem cv_X3_39 : CVw RX3 39 RX6 yX6_clear 0 := ⟨by decide +kernel, kw298, kw299, kw300, kw5⟩
theorem cv_X3_40 : CVw RX3 40 RX0 yX0_clear 0 := ⟨by decide +kernel, kw302, kw303, kw304, kw6⟩
theorem fg_X3_41 : FG RX3 41 5 1 .int false := ⟨RX5, TX5, 2, tyX5, rfl, in5, by decide, tyX5_ok, nmX5, kw38, rfl, by decide +kernel⟩
theorem cv_X3_47 : CVw RX3 47 RX3 yX3_readNumbers 2 := ⟨by decide +kernel, kw306, kw308, ks1, kw3⟩
theorem cv_X3_55 : CVw RX3 55 RX3 yX3_take 1 := ⟨by decide +kernel, kw322, kw324, ks2, kw3⟩
set_option maxHeartbeats 8000000 in
set_option maxRecDepth 100000 in
theorem c_X3_readNumbers (l : Launch) (dC : Nat → ClassId) (dI : Nat → Nat → Nat) (cc : Nat → ClassId) (q0 q1 q3 q6 q7 q8 q9 : Nat) (told : Int32) (numbers : (Nat → Int32)) (o1_length : Int32) (o1_letters : (Nat → Int32)) (x2 : Int32) (sz : Nat) (ret : Int32) (o_numbers : (Nat → Int32)) (o_told : Int32) (hu : f_X3_readNumbers x2 told numbers o1_length o1_letters = some (ret, o_numbers, o_told)) : Met l yX3_readNumbers (mw yX3_readNumbers cX3_readNumbers 8 (some .int)) ({ frames := 2, cells := 0, slots := 0, locals := 43 } : Room) (va_Pc [.ref q0, .ref q8, .int x2] (mP (dC, dI) (ts cc) sz [(q0, .inr (3, [.ref q1, .ref q3, .ref q6, .ref q7, .int told])), (q7, .inl (cc 0, 4, .inl numbers)), (q8, .inr (5, [.ref q9, .int o1_length])), (q9, .inl (cc 1, 200, .inl o1_letters))])) ((fun A => va_Qi (fun (r : Int32) (w : (Nat → Int32) × Int32) => r = ret ∧ w = (o_numbers, o_told)) (fun (w : (Nat → Int32) × Int32) t => va_P (dC, dI) classes [(q0, .inr (3, [.ref q1, .ref q3, .ref q6, .ref q7, .int w.2])), (q7, .inl (cc 0, 4, .inl w.1)), (q8, .inr (5, [.ref q9, .int o1_length])), (q9, .inl (cc 1, 200, .inl o1_letters))] t.heap) A) (va_A [(q0, .inr (3, [.ref q1, .ref q3, .ref q6, .ref q7, .int told])), (q7, .inl (cc 0, 4, .inl numbers)), (q8, .inr (5, [.ref q9, .int o1_length])), (q9, .inl (cc 1, 200, .inl o1_letters))] sz)) 0 0 (va_A [(q0, .inr (3, [.ref q1, .ref q3, .ref q6, .ref q7, .int told])), (q7, .inl (cc 0, 4, .inl numbers)), (q8, .inr (5, [.ref q9, .int o1_length])), (q9, .inl (cc 1, 200, .inl o1_letters))] sz) := by
  refine met_go (Qc := fun A => va_Qi (fun (r : Int32) (w : (Nat → Int32) × Int32) => r = ret ∧ w = (o_numbers, o_told)) (fun (w : (Nat → Int32) × Int32) t => va_P (dC, dI) classes [(q0, .inr (3, [.ref q1, .ref q3, .ref q6, .ref q7, .int w.2])), (q7, .inl (cc 0, 4, .inl w.1)), (q8, .inr (5, [.ref q9, .int o1_length])), (q9, .inl (cc 1, 200, .inl o1_letters))] t.heap) A) (by decide) (Nat.le_of_ble_eq_true rfl) ?_
  intro p e s m below meth c A ls H locs hC hr hlk hin hA hP hl _
  have hC : CX p m c cX3_readNumbers 8 s ([.ref q0, .ref q8, .int x2] : List Value).toArray RX3 (dC, dI) (ts cc) := hC
  have hx := hC.1.1
  have hb := hC.1.2
  have h := hu
  have hu0 := hu
  unfold f_X3_readNumbers at h
  have hl : lv_has ls 8 [(0, .ref q0), (1, .ref q8), (2, .int x2)] := hl
  refine W_abs (fun Z eZ => ?_)
  refine lv_iload_n hx hb dX3_readNumbers_0 rfl (lv_at hl 2 rfl) ?_
  refine lv_istore_n (lv' := [(3, .int x2), (0, .ref q0), (1, .ref q8), (2, .int x2)]) hx hb dX3_readNumbers_1 rfl hl (by decide) rfl (fun ls hl => ?_)
  refine lv_iconst (v := 0) hx hb dX3_readNumbers_2 (by decide) ?_
  refine lv_istore (lv' := [(4, .int 0), (3, .int x2), (0, .ref q0), (1, .ref q8), (2, .int x2)]) hx hb dX3_readNumbers_3 hl (by decide) rfl (fun ls hl => ?_)
  obtain ⟨z, hlp, hk, hj⟩ := bndE_h h
  have L1 : ∀ (n : Nat) (j1 : Int32) (j2 : Int32) (w3 : Int32) (w4 : (Nat → Int32)) (z : ((Int32 × Int32 × Int32 × (Nat → Int32)) ⊕ (Int32 × (Nat → Int32) × Int32))), lp (u4 (b_X3_readNumbers_1 o1_length o1_letters)) n (j1, j2, w3, w4) = some z → ∀ (H : Heap) (locs : List Loc) (ls : Array Slot), PD (dC, dI) A s.heap [(q0, .inr (3, [.ref q1, .ref q3, .ref q6, .ref q7, .int w3])), (q7, .inl (cc 0, 4, .inl w4)), (q8, .inr (5, [.ref q9, .int o1_length])), (q9, .inl (cc 1, 200, .inl o1_letters))] H locs → lv_has ls 8 [(0, .ref q0), (1, .ref q8), (3, .int j1), (4, .int j2)] → (∀ (j1x : Int32) (j2x : Int32) (w3x : Int32) (w4x : (Nat → Int32)), z = .inl (j1x, j2x, w3x, w4x) → ∀ (H : Heap) (locs : List Loc) (ls : Array Slot), PD (dC, dI) A s.heap [(q0, .inr (3, [.ref q1, .ref q3, .ref q6, .ref q7, .int w3x])), (q7, .inl (cc 0, 4, .inl w4x)), (q8, .inr (5, [.ref q9, .int o1_length])), (q9, .inl (cc 1, 200, .inl o1_letters))] H locs → lv_has ls 8 [(0, .ref q0), (1, .ref q8), (3, .int j1x), (4, .int j2x)] → W p l e ({ frames := 2, cells := 0, slots := 0, locals := 43 } : Room) s m ([.ref q0, .ref q8, .int x2] : List Value).toArray below meth c H locs 0 0 Z (F0 m 106 ls [])) → (∀ q, z = .inr q → q = (ret, o_numbers, o_told)) → W p l e ({ frames := 2, cells := 0, slots := 0, locals := 43 } : Room) s m ([.ref q0, .ref q8, .int x2] : List Value).toArray below meth c H locs 0 0 Z (F0 m 5 ls []) := by
    intro n
    induction n with
    | zero => intro j1 j2 w3 w4 z h; exact (lp_0 h).elim
    | succ n ih =>
      intro j1 j2 w3 w4 z h H locs ls hP hl KK KR
      obtain ⟨y, h, hz⟩ := lp_h h
      refine lv_iload hx hb dX3_readNumbers_5 (lv_at hl 3 rfl) ?_
      refine lv_iconst (v := 4) hx hb dX3_readNumbers_7 (by decide) ?_
      refine lv_icmp_ge (tgt := 106) hx hb dX3_readNumbers_8 (by decide) (fun c5 => ?_) (fun c5 => ?_)
      · have h := if_t c5 h
        exact KK j1 j2 w3 w4 (lp_e h hz).symm H locs ls hP (lv_sub hl [0, 1, 2, 3] rfl)
      · have h := if_f c5 h
        refine lv_aload_n hx hb dX3_readNumbers_11 rfl (lv_at hl 1 rfl) ?_
        refine lv_iload_n hx hb dX3_readNumbers_12 rfl (lv_at hl 2 rfl) ?_
        obtain ⟨r6, hu, h⟩ := bnd_h h
        refine kc_i (kV hC (c_X5_figureAt l dC dI cc q8 q9 o1_length o1_letters j1 H.size r6 hu) cv_X3_59 kw313 rfl rfl ⟨(Nat.le_of_ble_eq_true rfl), (Nat.le_of_ble_eq_true rfl)⟩ hP [2, 3] rfl rfl rfl (q0 := 2) rfl (As := [.int j1]) (rest := []) rfl rfl hl.1 (Nat.le_of_ble_eq_true rfl) dX3_readNumbers_13 ⟨Nat.zero_le _, Nat.zero_le _⟩) hP hA [2, 3] rfl rfl (fun H locs hP => ?_)
        have hP : PD (dC, dI) A s.heap [(q0, .inr (3, [.ref q1, .ref q3, .ref q6, .ref q7, .int w3])), (q7, .inl (cc 0, 4, .inl w4)), (q8, .inr (5, [.ref q9, .int o1_length])), (q9, .inl (cc 1, 200, .inl o1_letters))] H locs := hP
        refine lv_istore (lv' := [(5, .int r6), (0, .ref q0), (1, .ref q8), (3, .int j1), (4, .int j2)]) hx hb dX3_readNumbers_16 hl (by decide) rfl (fun ls hl => ?_)
        refine lv_iload hx hb dX3_readNumbers_18 (lv_at hl 0 rfl) ?_
        refine lv_if_ge (tgt := 25) hx hb dX3_readNumbers_20 (by decide) (fun c7 => ?_) (fun c7 => ?_)
        · have h := if_t c7 h
          refine lv_iinc (v := (j1 + 1)) (lv' := [(3, .int (j1 + 1)), (5, .int r6), (0, .ref q0), (1, .ref q8), (4, .int j2)]) hx hb dX3_readNumbers_25 hl (k := 3) rfl rfl (by decide) rfl (fun ls hl => ?_)
          refine lv_aload_n hx hb dX3_readNumbers_28 rfl (lv_at hl 3 rfl) ?_
          refine lv_iload_n hx hb dX3_readNumbers_29 rfl (lv_at hl 0 rfl) ?_
          obtain ⟨r8, hu, h⟩ := bnd_h h
          refine kc_i (kV hC (c_X5_figureAt l dC dI cc q8 q9 o1_length o1_letters (j1 + 1) H.size r8 hu) cv_X3_59 kw313 rfl rfl ⟨(Nat.le_of_ble_eq_true rfl), (Nat.le_of_ble_eq_true rfl)⟩ hP [2, 3] rfl rfl rfl (q0 := 2) rfl (As := [.int (j1 + 1)]) (rest := []) rfl rfl hl.1 (Nat.le_of_ble_eq_true rfl) dX3_readNumbers_30 ⟨Nat.zero_le _, Nat.zero_le _⟩) hP hA [2, 3] rfl rfl (fun H locs hP => ?_)
          have hP : PD (dC, dI) A s.heap [(q0, .inr (3, [.ref q1, .ref q3, .ref q6, .ref q7, .int w3])), (q7, .inl (cc 0, 4, .inl w4)), (q8, .inr (5, [.ref q9, .int o1_length])), (q9, .inl (cc 1, 200, .inl o1_letters))] H locs := hP
          refine lv_istore (lv' := [(6, .int r8), (3, .int (j1 + 1)), (5, .int r6), (0, .ref q0), (1, .ref q8), (4, .int j2)]) hx hb dX3_readNumbers_33 hl (by decide) rfl (fun ls hl => ?_)
          refine lv_iload hx hb dX3_readNumbers_35 (lv_at hl 0 rfl) ?_
          refine lv_if_lt (tgt := 53) hx hb dX3_readNumbers_37 (by decide) (fun c9 => ?_) (fun c9 => ?_)
          · have h := if_t c9 h
            refine lv_aload_n hx hb dX3_readNumbers_53 rfl (lv_at hl 3 rfl) ?_
            refine g_get hC hP fg_X3_32 0 rfl rfl dX3_readNumbers_54 ?_
            refine lv_iload hx hb dX3_readNumbers_57 (lv_at hl 5 rfl) ?_
            refine lv_iload hx hb dX3_readNumbers_59 (lv_at hl 2 rfl) ?_
            obtain ⟨w10, hu, h⟩ := bnd_h h
            refine kc_v (kN hC (c_X9_put l dC dI cc q7 4 w4 j2 r6 H.size w10 hu) cn_X3_62 kw320 rfl rfl ⟨(Nat.le_of_ble_eq_true rfl), (Nat.le_of_ble_eq_true rfl)⟩ hP [1] rfl rfl (As := [.ref q7, .int j2, .int r6]) (rest := []) rfl rfl hl.1 (Nat.le_of_ble_eq_true rfl) dX3_readNumbers_61 ⟨Nat.zero_le _, Nat.zero_le _⟩) hP hA [1] rfl rfl (fun H locs hP => ?_)
            have hP : PD (dC, dI) A s.heap [(q0, .inr (3, [.ref q1, .ref q3, .ref q6, .ref q7, .int w3])), (q7, .inl (cc 0, 4, .inl w10)), (q8, .inr (5, [.ref q9, .int o1_length])), (q9, .inl (cc 1, 200, .inl o1_letters))] H locs := hP
            refine lv_aload_n hx hb dX3_readNumbers_64 rfl (lv_at hl 3 rfl) ?_
            refine lv_iload hx hb dX3_readNumbers_65 (lv_at hl 5 rfl) ?_
            refine lv_iconst (v := 1) hx hb dX3_readNumbers_67 (by decide) ?_
            refine lv_iadd hx hb dX3_readNumbers_68 ?_
            refine g_put hC hP fg_X3_66 0 rfl rfl rfl (Nat.le_of_ble_eq_true rfl) dX3_readNumbers_69 (fun H locs hP => ?_)
            have hP : PD (dC, dI) A s.heap [(q0, .inr (3, [.ref q1, .ref q3, .ref q6, .ref q7, .int (j2 + 1)])), (q7, .inl (cc 0, 4, .inl w10)), (q8, .inr (5, [.ref q9, .int o1_length])), (q9, .inl (cc 1, 200, .inl o1_letters))] H locs := hP
            refine lv_aload_n hx hb dX3_readNumbers_72 rfl (lv_at hl 4 rfl) ?_
            refine lv_iload_n hx hb dX3_readNumbers_73 rfl (lv_at hl 1 rfl) ?_
            obtain ⟨r11, hu, h⟩ := bnd_h h
            refine kc_i (kV hC (c_X5_letterAt l dC dI cc q8 q9 o1_length o1_letters (j1 + 1) H.size r11 hu) cv_X3_51 kw317 rfl rfl ⟨(Nat.le_of_ble_eq_true rfl), (Nat.le_of_ble_eq_true rfl)⟩ hP [2, 3] rfl rfl rfl (q0 := 2) rfl (As := [.int (j1 + 1)]) (rest := []) rfl rfl hl.1 (Nat.le_of_ble_eq_true rfl) dX3_readNumbers_74 ⟨Nat.zero_le _, Nat.zero_le _⟩) hP hA [2, 3] rfl rfl (fun H locs hP => ?_)
            have hP : PD (dC, dI) A s.heap [(q0, .inr (3, [.ref q1, .ref q3, .ref q6, .ref q7, .int (j2 + 1)])), (q7, .inl (cc 0, 4, .inl w10)), (q8, .inr (5, [.ref q9, .int o1_length])), (q9, .inl (cc 1, 200, .inl o1_letters))] H locs := hP
            refine lv_istore (lv' := [(7, .int r11), (6, .int r8), (3, .int (j1 + 1)), (5, .int r6), (0, .ref q0), (1, .ref q8), (4, .int j2)]) hx hb dX3_readNumbers_77 hl (by decide) rfl (fun ls hl => ?_)
            refine lv_iinc (v := ((j1 + 1) + 1)) (lv' := [(3, .int ((j1 + 1) + 1)), (7, .int r11), (6, .int r8), (5, .int r6), (0, .ref q0), (1, .ref q8), (4, .int j2)]) hx hb dX3_readNumbers_79 hl (k := 2) rfl rfl (by decide) rfl (fun ls hl => ?_)
            refine lv_iload hx hb dX3_readNumbers_82 (lv_at hl 1 rfl) ?_
            refine lv_bipush (v := 59) hx hb dX3_readNumbers_84 (by decide) ?_
            refine lv_icmp_ne (tgt := 91) hx hb dX3_readNumbers_86 (by decide) (fun c12 => ?_) (fun c12 => ?_)
            · have h := if_f c12 h
              refine lv_iload hx hb dX3_readNumbers_91 (lv_at hl 1 rfl) ?_
              refine lv_bipush (v := 44) hx hb dX3_readNumbers_93 (by decide) ?_
              refine lv_icmp_eq (tgt := 100) hx hb dX3_readNumbers_95 (by decide) (fun c13 => ?_) (fun c13 => ?_)
              · have h := if_t c13 h
                refine lv_iinc (v := (j2 + 1)) (lv' := [(4, .int (j2 + 1)), (3, .int ((j1 + 1) + 1)), (7, .int r11), (6, .int r8), (5, .int r6), (0, .ref q0), (1, .ref q8)]) hx hb dX3_readNumbers_100 hl (k := 6) rfl rfl (by decide) rfl (fun ls hl => ?_)
                refine lv_goto (tgt := 5) hx hb dX3_readNumbers_103 (by decide) ?_
                exact ih _ _ _ _ _ (lp_n h hz) H locs ls hP (lv_sub hl [5, 6, 1, 0] rfl) KK KR
              · have h := if_f c13 h
                refine lv_iconst (v := -1) hx hb dX3_readNumbers_98 (by decide) ?_
                rw [eZ]
                exact ret_i hC hr hlk hP dX3_readNumbers_99 (w10, (j2 + 1)) (Prod.mk.inj (KR _ (lp_e h hz).symm)) rfl
            · have h := if_t c12 h
              refine lv_iload_n hx hb dX3_readNumbers_89 rfl (lv_at hl 0 rfl) ?_
              rw [eZ]
              exact ret_i hC hr hlk hP dX3_readNumbers_90 (w10, (j2 + 1)) (Prod.mk.inj (KR _ (lp_e h hz).symm)) rfl
          · have h := if_f c9 h
            refine lv_iload hx hb dX3_readNumbers_40 (lv_at hl 2 rfl) ?_
            refine lv_bipush (v := 10) hx hb dX3_readNumbers_42 (by decide) ?_
            refine lv_imul hx hb dX3_readNumbers_44 ?_
            refine lv_iload hx hb dX3_readNumbers_45 (lv_at hl 0 rfl) ?_
            refine lv_iadd hx hb dX3_readNumbers_47 ?_
            refine lv_istore (lv' := [(5, .int ((r6 * 10) + r8)), (6, .int r8), (3, .int (j1 + 1)), (0, .ref q0), (1, .ref q8), (4, .int j2)]) hx hb dX3_readNumbers_48 hl (by decide) rfl (fun ls hl => ?_)
            refine lv_iinc (v := ((j1 + 1) + 1)) (lv' := [(3, .int ((j1 + 1) + 1)), (5, .int ((r6 * 10) + r8)), (6, .int r8), (0, .ref q0), (1, .ref q8), (4, .int j2)]) hx hb dX3_readNumbers_50 hl (k := 2) rfl rfl (by decide) rfl (fun ls hl => ?_)
            refine lv_aload_n hx hb dX3_readNumbers_53 rfl (lv_at hl 3 rfl) ?_
            refine g_get hC hP fg_X3_32 0 rfl rfl dX3_readNumbers_54 ?_
            refine lv_iload hx hb dX3_readNumbers_57 (lv_at hl 5 rfl) ?_
            refine lv_iload hx hb dX3_readNumbers_59 (lv_at hl 1 rfl) ?_
            obtain ⟨w14, hu, h⟩ := bnd_h h
            refine kc_v (kN hC (c_X9_put l dC dI cc q7 4 w4 j2 ((r6 * 10) + r8) H.size w14 hu) cn_X3_62 kw320 rfl rfl ⟨(Nat.le_of_ble_eq_true rfl), (Nat.le_of_ble_eq_true rfl)⟩ hP [1] rfl rfl (As := [.ref q7, .int j2, .int ((r6 * 10) + r8)]) (rest := []) rfl rfl hl.1 (Nat.le_of_ble_eq_true rfl) dX3_readNumbers_61 ⟨Nat.zero_le _, Nat.zero_le _⟩) hP hA [1] rfl rfl (fun H locs hP => ?_)
            have hP : PD (dC, dI) A s.heap [(q0, .inr (3, [.ref q1, .ref q3, .ref q6, .ref q7, .int w3])), (q7, .inl (cc 0, 4, .inl w14)), (q8, .inr (5, [.ref q9, .int o1_length])), (q9, .inl (cc 1, 200, .inl o1_letters))] H locs := hP
            refine lv_aload_n hx hb dX3_readNumbers_64 rfl (lv_at hl 3 rfl) ?_
            refine lv_iload hx hb dX3_readNumbers_65 (lv_at hl 5 rfl) ?_
            refine lv_iconst (v := 1) hx hb dX3_readNumbers_67 (by decide) ?_
            refine lv_iadd hx hb dX3_readNumbers_68 ?_
            refine g_put hC hP fg_X3_66 0 rfl rfl rfl (Nat.le_of_ble_eq_true rfl) dX3_readNumbers_69 (fun H locs hP => ?_)
            have hP : PD (dC, dI) A s.heap [(q0, .inr (3, [.ref q1, .ref q3, .ref q6, .ref q7, .int (j2 + 1)])), (q7, .inl (cc 0, 4, .inl w14)), (q8, .inr (5, [.ref q9, .int o1_length])), (q9, .inl (cc 1, 200, .inl o1_letters))] H locs := hP
            refine lv_aload_n hx hb dX3_readNumbers_72 rfl (lv_at hl 4 rfl) ?_
            refine lv_iload_n hx hb dX3_readNumbers_73 rfl (lv_at hl 0 rfl) ?_
            obtain ⟨r15, hu, h⟩ := bnd_h h
            refine kc_i (kV hC (c_X5_letterAt l dC dI cc q8 q9 o1_length o1_letters ((j1 + 1) + 1) H.size r15 hu) cv_X3_51 kw317 rfl rfl ⟨(Nat.le_of_ble_eq_true rfl), (Nat.le_of_ble_eq_true rfl)⟩ hP [2, 3] rfl rfl rfl (q0 := 2) rfl (As := [.int ((j1 + 1) + 1)]) (rest := []) rfl rfl hl.1 (Nat.le_of_ble_eq_true rfl) dX3_readNumbers_74 ⟨Nat.zero_le _, Nat.zero_le _⟩) hP hA [2, 3] rfl rfl (fun H locs hP => ?_)
            have hP : PD (dC, dI) A s.heap [(q0, .inr (3, [.ref q1, .ref q3, .ref q6, .ref q7, .int (j2 + 1)])), (q7, .inl (cc 0, 4, .inl w14)), (q8, .inr (5, [.ref q9, .int o1_length])), (q9, .inl (cc 1, 200, .inl o1_letters))] H locs := hP
            refine lv_istore (lv' := [(7, .int r15), (3, .int ((j1 + 1) + 1)), (5, .int ((r6 * 10) + r8)), (6, .int r8), (0, .ref q0), (1, .ref q8), (4, .int j2)]) hx hb dX3_readNumbers_77 hl (by decide) rfl (fun ls hl => ?_)
            refine lv_iinc (v := (((j1 + 1) + 1) + 1)) (lv' := [(3, .int (((j1 + 1) + 1) + 1)), (7, .int r15), (5, .int ((r6 * 10) + r8)), (6, .int r8), (0, .ref q0), (1, .ref q8), (4, .int j2)]) hx hb dX3_readNumbers_79 hl (k := 1) rfl rfl (by decide) rfl (fun ls hl => ?_)
            refine lv_iload hx hb dX3_readNumbers_82 (lv_at hl 1 rfl) ?_
            refine lv_bipush (v := 59) hx hb dX3_readNumbers_84 (by decide) ?_
            refine lv_icmp_ne (tgt := 91) hx hb dX3_readNumbers_86 (by decide) (fun c16 => ?_) (fun c16 => ?_)
            · have h := if_f c16 h
              refine lv_iload hx hb dX3_readNumbers_91 (lv_at hl 1 rfl) ?_
              refine lv_bipush (v := 44) hx hb dX3_readNumbers_93 (by decide) ?_
              refine lv_icmp_eq (tgt := 100) hx hb dX3_readNumbers_95 (by decide) (fun c17 => ?_) (fun c17 => ?_)
              · have h := if_t c17 h
                refine lv_iinc (v := (j2 + 1)) (lv' := [(4, .int (j2 + 1)), (3, .int (((j1 + 1) + 1) + 1)), (7, .int r15), (5, .int ((r6 * 10) + r8)), (6, .int r8), (0, .ref q0), (1, .ref q8)]) hx hb dX3_readNumbers_100 hl (k := 6) rfl rfl (by decide) rfl (fun ls hl => ?_)
                refine lv_goto (tgt := 5) hx hb dX3_readNumbers_103 (by decide) ?_
                exact ih _ _ _ _ _ (lp_n h hz) H locs ls hP (lv_sub hl [5, 6, 1, 0] rfl) KK KR
              · have h := if_f c17 h
                refine lv_iconst (v := -1) hx hb dX3_readNumbers_98 (by decide) ?_
                rw [eZ]
                exact ret_i hC hr hlk hP dX3_readNumbers_99 (w14, (j2 + 1)) (Prod.mk.inj (KR _ (lp_e h hz).symm)) rfl
            · have h := if_t c16 h
              refine lv_iload_n hx hb dX3_readNumbers_89 rfl (lv_at hl 0 rfl) ?_
              rw [eZ]
              exact ret_i hC hr hlk hP dX3_readNumbers_90 (w14, (j2 + 1)) (Prod.mk.inj (KR _ (lp_e h hz).symm)) rfl
        · have h := if_f c7 h
          refine lv_iconst (v := -1) hx hb dX3_readNumbers_23 (by decide) ?_
          rw [eZ]
          exact ret_i hC hr hlk hP dX3_readNumbers_24 (w4, w3) (Prod.mk.inj (KR _ (lp_e h hz).symm)) rfl
  refine L1 FU _ _ _ _ z hlp H locs ls hP (lv_sub hl [2, 3, 1, 0] rfl) (fun j1x j2x w3x w4x e H locs ls hP hl => ?_) (fun q e => Option.some.inj (hj q e))
  have h := hk _ e
  refine lv_iconst (v := -1) hx hb dX3_readNumbers_106 (by decide) ?_
  rw [eZ]
  exact ret_i hC hr hlk hP dX3_readNumbers_107 (w4x, w3x) (Prod.mk.inj (Option.some.inj h)) rfl
set_option maxHeartbeats 8000000 in
set_option maxRecDepth 100000 in
theorem c_X3_takeClog (l : Launch) (dC : Nat → ClassId) (dI : Nat → Nat → Nat) (cc : Nat → ClassId) (q0 q1 q3 q6 q7 q2 : Nat) (told : Int32) (shelf_clogs : Int32) (shelf_day : Int32) (shelf_cells : (Nat → Int32)) (numbers : (Nat → Int32)) (sz : Nat) (ret : Int32) (o_shelf_cells : (Nat → Int32)) (o_shelf_clogs : Int32) (hu : f_X3_takeClog told shelf_clogs shelf_day shelf_cells numbers = some (ret, o_shelf_cells, o_shelf_clogs)) : Met l yX3_takeClog (mw yX3_takeClog cX3_takeClog 1 (some .boolean)) ({ frames := 2, cells := 0, slots := 0, locals := 47 } : Room) (va_Pc [.ref q0] (mP (dC, dI) (ts cc) sz [(q0, .inr (3, [.ref q1, .ref q3, .ref q6, .ref q7, .int told])), (q1, .inr (4, [.ref q2, .int shelf_clogs, .int shelf_day])), (q2, .inl (cc 0, 50, .inl shelf_cells)), (q7, .inl (cc 0, 4, .inl numbers))])) ((fun A => va_Qi (fun (r : Int32) (w : (Nat → Int32) × Int32) => narrow .boolean (.int r) = .int r ∧ (r = ret ∧ w = (o_shelf_cells, o_shelf_clogs))) (fun (w : (Nat → Int32) × Int32) t => va_P (dC, dI) classes [(q0, .inr (3, [.ref q1, .ref q3, .ref q6, .ref q7, .int told])), (q1, .inr (4, [.ref q2, .int w.2, .int shelf_day])), (q2, .inl (cc 0, 50, .inl w.1)), (q7, .inl (cc 0, 4, .inl numbers))] t.heap) A) (va_A [(q0, .inr (3, [.ref q1, .ref q3, .ref q6, .ref q7, .int told])), (q1, .inr (4, [.ref q2, .int shelf_clogs, .int shelf_day])), (q2, .inl (cc 0, 50, .inl shelf_cells)), (q7, .inl (cc 0, 4, .inl numbers))] sz)) 0 0 (va_A [(q0, .inr (3, [.ref q1, .ref q3, .ref q6, .ref q7, .int told])), (q1, .inr (4, [.ref q2, .int shelf_clogs, .int shelf_day])), (q2, .inl (cc 0, 50, .inl shelf_cells)), (q7, .inl (cc 0, 4, .inl numbers))] sz) := by
  refine met_go (Qc := fun A => va_Qi (fun (r : Int32) (w : (Nat → Int32) × Int32) => narrow .boolean (.int r) = .int r ∧ (r = ret ∧ w = (o_shelf_cells, o_shelf_clogs))) (fun (w : (Nat → Int32) × Int32) t => va_P (dC, dI) classes [(q0, .inr (3, [.ref q1, .ref q3, .ref q6, .ref q7, .int told])), (q1, .inr (4, [.ref q2, .int w.2, .int shelf_day])), (q2, .inl (cc 0, 50, .inl w.1)), (q7, .inl (cc 0, 4, .inl numbers))] t.heap) A) (by decide) (Nat.le_of_ble_eq_true rfl) ?_
  intro p e s m below meth c A ls H locs hC hr hlk hin hA hP hl _
  have hC : CX p m c cX3_takeClog 1 s ([.ref q0] : List Value).toArray RX3 (dC, dI) (ts cc) := hC
  have hx := hC.1.1
  have hb := hC.1.2
  have h := hu
  have hu0 := hu
  unfold f_X3_takeClog at h
  have hl : lv_has ls 1 [(0, .ref q0)] := hl
  refine lv_aload_n hx hb dX3_takeClog_0 rfl (lv_at hl 0 rfl) ?_
  refine g_get hC hP fg_X3_66 0 rfl rfl dX3_takeClog_1 ?_
  refine lv_iconst (v := 4) hx hb dX3_takeClog_4 (by decide) ?_
  refine lv_icmp_ne (tgt := 58) hx hb dX3_takeClog_5 (by decide) (fun c1 => ?_) (fun c1 => ?_)
  · have h := if_f c1 h
    refine lv_iconst (v := 0) hx hb dX3_takeClog_58 (by decide) ?_
    exact ret_z hC hr rfl hlk hP dX3_takeClog_59 (shelf_cells, shelf_clogs) (Prod.mk.inj (Option.some.inj h)) rfl
  · have h := if_t c1 h
    refine lv_aload_n hx hb dX3_takeClog_8 rfl (lv_at hl 0 rfl) ?_
    refine g_get hC hP fg_X3_12 0 rfl rfl dX3_takeClog_9 ?_
    refine g_get hC hP fg_X3_85 1 rfl rfl dX3_takeClog_12 ?_
    refine lv_bipush (v := 10) hx hb dX3_takeClog_15 (by decide) ?_
    refine lv_icmp_ge (tgt := 58) hx hb dX3_takeClog_17 (by decide) (fun c2 => ?_) (fun c2 => ?_)
    · have h := if_t c2 h
      refine lv_iconst (v := 0) hx hb dX3_takeClog_58 (by decide) ?_
      exact ret_z hC hr rfl hlk hP dX3_takeClog_59 (shelf_cells, shelf_clogs) (Prod.mk.inj (Option.some.inj h)) rfl
    · have h := if_f c2 h
      refine lv_aload_n hx hb dX3_takeClog_20 rfl (lv_at hl 0 rfl) ?_
      refine g_get hC hP fg_X3_32 0 rfl rfl dX3_takeClog_21 ?_
      refine lv_iconst (v := 0) hx hb dX3_takeClog_24 (by decide) ?_
      obtain ⟨r3, hu, h⟩ := bnd_h h
      refine kc_i (kN hC (c_X9_at l dC dI cc q7 4 numbers 0 H.size r3 hu) cn_X3_88 kw332 rfl rfl ⟨(Nat.le_of_ble_eq_true rfl), (Nat.le_of_ble_eq_true rfl)⟩ hP [3] rfl rfl (As := [.ref q7, .int 0]) (rest := []) rfl rfl hl.1 (Nat.le_of_ble_eq_true rfl) dX3_takeClog_25 ⟨Nat.zero_le _, Nat.zero_le _⟩) hP hA [3] rfl rfl (fun H locs hP => ?_)
      have hP : PD (dC, dI) A s.heap [(q0, .inr (3, [.ref q1, .ref q3, .ref q6, .ref q7, .int told])), (q1, .inr (4, [.ref q2, .int shelf_clogs, .int shelf_day])), (q2, .inl (cc 0, 50, .inl shelf_cells)), (q7, .inl (cc 0, 4, .inl numbers))] H locs := hP
      refine lv_aload_n hx hb dX3_takeClog_28 rfl (lv_at hl 0 rfl) ?_
      refine g_get hC hP fg_X3_32 0 rfl rfl dX3_takeClog_29 ?_
      refine lv_iconst (v := 1) hx hb dX3_takeClog_32 (by decide) ?_
      obtain ⟨r4, hu, h⟩ := bnd_h h
      refine kc_i (kN hC (c_X9_at l dC dI cc q7 4 numbers 1 H.size r4 hu) cn_X3_88 kw332 rfl rfl ⟨(Nat.le_of_ble_eq_true rfl), (Nat.le_of_ble_eq_true rfl)⟩ hP [3] rfl rfl (As := [.ref q7, .int 1]) (rest := [.int r3]) rfl rfl hl.1 (Nat.le_of_ble_eq_true rfl) dX3_takeClog_33 ⟨Nat.zero_le _, Nat.zero_le _⟩) hP hA [3] rfl rfl (fun H locs hP => ?_)
      have hP : PD (dC, dI) A s.heap [(q0, .inr (3, [.ref q1, .ref q3, .ref q6, .ref q7, .int told])), (q1, .inr (4, [.ref q2, .int shelf_clogs, .int shelf_day])), (q2, .inl (cc 0, 50, .inl shelf_cells)), (q7, .inl (cc 0, 4, .inl numbers))] H locs := hP
      refine lv_aload_n hx hb dX3_takeClog_36 rfl (lv_at hl 0 rfl) ?_
      refine g_get hC hP fg_X3_32 0 rfl rfl dX3_takeClog_37 ?_
      refine lv_iconst (v := 2) hx hb dX3_takeClog_40 (by decide) ?_
      obtain ⟨r5, hu, h⟩ := bnd_h h
      refine kc_i (kN hC (c_X9_at l dC dI cc q7 4 numbers 2 H.size r5 hu) cn_X3_88 kw332 rfl rfl ⟨(Nat.le_of_ble_eq_true rfl), (Nat.le_of_ble_eq_true rfl)⟩ hP [3] rfl rfl (As := [.ref q7, .int 2]) (rest := [.int r4, .int r3]) rfl rfl hl.1 (Nat.le_of_ble_eq_true rfl) dX3_takeClog_41 ⟨Nat.zero_le _, Nat.zero_le _⟩) hP hA [3] rfl rfl (fun H locs hP => ?_)
      have hP : PD (dC, dI) A s.heap [(q0, .inr (3, [.ref q1, .ref q3, .ref q6, .ref q7, .int told])), (q1, .inr (4, [.ref q2, .int shelf_clogs, .int shelf_day])), (q2, .inl (cc 0, 50, .inl shelf_cells)), (q7, .inl (cc 0, 4, .inl numbers))] H locs := hP
      refine lv_aload_n hx hb dX3_takeClog_44 rfl (lv_at hl 0 rfl) ?_
      refine g_get hC hP fg_X3_32 0 rfl rfl dX3_takeClog_45 ?_
      refine lv_iconst (v := 3) hx hb dX3_takeClog_48 (by decide) ?_
      obtain ⟨r6, hu, h⟩ := bnd_h h
      refine kc_i (kN hC (c_X9_at l dC dI cc q7 4 numbers 3 H.size r6 hu) cn_X3_88 kw332 rfl rfl ⟨(Nat.le_of_ble_eq_true rfl), (Nat.le_of_ble_eq_true rfl)⟩ hP [3] rfl rfl (As := [.ref q7, .int 3]) (rest := [.int r5, .int r4, .int r3]) rfl rfl hl.1 (Nat.le_of_ble_eq_true rfl) dX3_takeClog_49 ⟨Nat.zero_le _, Nat.zero_le _⟩) hP hA [3] rfl rfl (fun H locs hP => ?_)
      have hP : PD (dC, dI) A s.heap [(q0, .inr (3, [.ref q1, .ref q3, .ref q6, .ref q7, .int told])), (q1, .inr (4, [.ref q2, .int shelf_clogs, .int shelf_day])), (q2, .inl (cc 0, 50, .inl shelf_cells)), (q7, .inl (cc 0, 4, .inl numbers))] H locs := hP
      obtain ⟨r7, hu, h⟩ := bnd_h h
      refine kc_z (kN hC (c_X9_isClog l dC dI cc r3 r4 r5 r6 H.size r7 hu) cn_X3_92 kw335 rfl rfl ⟨(Nat.le_of_ble_eq_true rfl), (Nat.le_of_ble_eq_true rfl)⟩ hP [] rfl rfl (As := [.int r3, .int r4, .int r5, .int r6]) (rest := []) rfl rfl hl.1 (Nat.le_of_ble_eq_true rfl) dX3_takeClog_52 ⟨Nat.zero_le _, Nat.zero_le _⟩) hP hA [] rfl rfl (fun hz_r7 H locs hP => ?_)
      have hP : PD (dC, dI) A s.heap [(q0, .inr (3, [.ref q1, .ref q3, .ref q6, .ref q7, .int told])), (q1, .inr (4, [.ref q2, .int shelf_clogs, .int shelf_day])), (q2, .inl (cc 0, 50, .inl shelf_cells)), (q7, .inl (cc 0, 4, .inl numbers))] H locs := hP
      refine lv_if_ne (tgt := 60) hx hb dX3_takeClog_55 (by decide) (fun c8 => ?_) (fun c8 => ?_)
      · have h := if_f c8 h
        refine lv_aload_n hx hb dX3_takeClog_60 rfl (lv_at hl 0 rfl) ?_
        refine g_get hC hP fg_X3_12 0 rfl rfl dX3_takeClog_61 ?_
        refine lv_aload_n hx hb dX3_takeClog_64 rfl (lv_at hl 0 rfl) ?_
        refine g_get hC hP fg_X3_32 0 rfl rfl dX3_takeClog_65 ?_
        refine lv_iconst (v := 0) hx hb dX3_takeClog_68 (by decide) ?_
        obtain ⟨r9, hu, h⟩ := bnd_h h
        refine kc_i (kN hC (c_X9_at l dC dI cc q7 4 numbers 0 H.size r9 hu) cn_X3_88 kw332 rfl rfl ⟨(Nat.le_of_ble_eq_true rfl), (Nat.le_of_ble_eq_true rfl)⟩ hP [3] rfl rfl (As := [.ref q7, .int 0]) (rest := [.ref q1]) rfl rfl hl.1 (Nat.le_of_ble_eq_true rfl) dX3_takeClog_69 ⟨Nat.zero_le _, Nat.zero_le _⟩) hP hA [3] rfl rfl (fun H locs hP => ?_)
        have hP : PD (dC, dI) A s.heap [(q0, .inr (3, [.ref q1, .ref q3, .ref q6, .ref q7, .int told])), (q1, .inr (4, [.ref q2, .int shelf_clogs, .int shelf_day])), (q2, .inl (cc 0, 50, .inl shelf_cells)), (q7, .inl (cc 0, 4, .inl numbers))] H locs := hP
        refine lv_aload_n hx hb dX3_takeClog_72 rfl (lv_at hl 0 rfl) ?_
        refine g_get hC hP fg_X3_32 0 rfl rfl dX3_takeClog_73 ?_
        refine lv_iconst (v := 1) hx hb dX3_takeClog_76 (by decide) ?_
        obtain ⟨r10, hu, h⟩ := bnd_h h
        refine kc_i (kN hC (c_X9_at l dC dI cc q7 4 numbers 1 H.size r10 hu) cn_X3_88 kw332 rfl rfl ⟨(Nat.le_of_ble_eq_true rfl), (Nat.le_of_ble_eq_true rfl)⟩ hP [3] rfl rfl (As := [.ref q7, .int 1]) (rest := [.int r9, .ref q1]) rfl rfl hl.1 (Nat.le_of_ble_eq_true rfl) dX3_takeClog_77 ⟨Nat.zero_le _, Nat.zero_le _⟩) hP hA [3] rfl rfl (fun H locs hP => ?_)
        have hP : PD (dC, dI) A s.heap [(q0, .inr (3, [.ref q1, .ref q3, .ref q6, .ref q7, .int told])), (q1, .inr (4, [.ref q2, .int shelf_clogs, .int shelf_day])), (q2, .inl (cc 0, 50, .inl shelf_cells)), (q7, .inl (cc 0, 4, .inl numbers))] H locs := hP
        refine lv_aload_n hx hb dX3_takeClog_80 rfl (lv_at hl 0 rfl) ?_
        refine g_get hC hP fg_X3_32 0 rfl rfl dX3_takeClog_81 ?_
        refine lv_iconst (v := 2) hx hb dX3_takeClog_84 (by decide) ?_
        obtain ⟨r11, hu, h⟩ := bnd_h h
        refine kc_i (kN hC (c_X9_at l dC dI cc q7 4 numbers 2 H.size r11 hu) cn_X3_88 kw332 rfl rfl ⟨(Nat.le_of_ble_eq_true rfl), (Nat.le_of_ble_eq_true rfl)⟩ hP [3] rfl rfl (As := [.ref q7, .int 2]) (rest := [.int r10, .int r9, .ref q1]) rfl rfl hl.1 (Nat.le_of_ble_eq_true rfl) dX3_takeClog_85 ⟨Nat.zero_le _, Nat.zero_le _⟩) hP hA [3] rfl rfl (fun H locs hP => ?_)
        have hP : PD (dC, dI) A s.heap [(q0, .inr (3, [.ref q1, .ref q3, .ref q6, .ref q7, .int told])), (q1, .inr (4, [.ref q2, .int shelf_clogs, .int shelf_day])), (q2, .inl (cc 0, 50, .inl shelf_cells)), (q7, .inl (cc 0, 4, .inl numbers))] H locs := hP
        refine lv_aload_n hx hb dX3_takeClog_88 rfl (lv_at hl 0 rfl) ?_
        refine g_get hC hP fg_X3_32 0 rfl rfl dX3_takeClog_89 ?_
        refine lv_iconst (v := 3) hx hb dX3_takeClog_92 (by decide) ?_
        obtain ⟨r12, hu, h⟩ := bnd_h h
        refine kc_i (kN hC (c_X9_at l dC dI cc q7 4 numbers 3 H.size r12 hu) cn_X3_88 kw332 rfl rfl ⟨(Nat.le_of_ble_eq_true rfl), (Nat.le_of_ble_eq_true rfl)⟩ hP [3] rfl rfl (As := [.ref q7, .int 3]) (rest := [.int r11, .int r10, .int r9, .ref q1]) rfl rfl hl.1 (Nat.le_of_ble_eq_true rfl) dX3_takeClog_93 ⟨Nat.zero_le _, Nat.zero_le _⟩) hP hA [3] rfl rfl (fun H locs hP => ?_)
        have hP : PD (dC, dI) A s.heap [(q0, .inr (3, [.ref q1, .ref q3, .ref q6, .ref q7, .int told])), (q1, .inr (4, [.ref q2, .int shelf_clogs, .int shelf_day])), (q2, .inl (cc 0, 50, .inl shelf_cells)), (q7, .inl (cc 0, 4, .inl numbers))] H locs := hP
        obtain ⟨⟨w13, w14⟩, hu, h⟩ := bnd_h h
        refine kc_v (kV hC (c_X4_add l dC dI cc q1 q2 shelf_clogs shelf_day shelf_cells r9 r10 r11 r12 H.size w13 w14 hu) cv_X3_96 kw345 rfl rfl ⟨(Nat.le_of_ble_eq_true rfl), (Nat.le_of_ble_eq_true rfl)⟩ hP [1, 2] rfl rfl rfl (q0 := 1) rfl (As := [.int r9, .int r10, .int r11, .int r12]) (rest := []) rfl rfl hl.1 (Nat.le_of_ble_eq_true rfl) dX3_takeClog_96 ⟨Nat.zero_le _, Nat.zero_le _⟩) hP hA [1, 2] rfl rfl (fun H locs hP => ?_)
        have hP : PD (dC, dI) A s.heap [(q0, .inr (3, [.ref q1, .ref q3, .ref q6, .ref q7, .int told])), (q1, .inr (4, [.ref q2, .int w14, .int shelf_day])), (q2, .inl (cc 0, 50, .inl w13)), (q7, .inl (cc 0, 4, .inl numbers))] H locs := hP
        refine lv_iconst (v := 1) hx hb dX3_takeClog_99 (by decide) ?_
        exact ret_z hC hr rfl hlk hP dX3_takeClog_100 (w13, w14) (Prod.mk.inj (Option.some.inj h)) rfl
      · have h := if_t c8 h
        refine lv_iconst (v := 0) hx hb dX3_takeClog_58 (by decide) ?_
        exact ret_z hC hr rfl hlk hP dX3_takeClog_59 (shelf_cells, shelf_clogs) (Prod.mk.inj (Option.some.inj h)) rfl
set_option maxHeartbeats 8000000 in
set_option maxRecDepth 100000 in
theorem c_X3_takeFeet (l : Launch) (dC : Nat → ClassId) (dI : Nat → Nat → Nat) (cc : Nat → ClassId) (q0 q1 q3 q6 q7 q4 q5 : Nat) (told : Int32) (waiting_number : Int32) (waiting_stocking : Int32) (waiting_lefts : (Nat → Int32)) (waiting_rights : (Nat → Int32)) (numbers : (Nat → Int32)) (sz : Nat) (ret : Int32) (o_waiting_lefts : (Nat → Int32)) (o_waiting_rights : (Nat → Int32)) (o_waiting_number : Int32) (hu : f_X3_takeFeet told waiting_number waiting_lefts waiting_rights numbers = some (ret, o_waiting_lefts, o_waiting_rights, o_waiting_number)) : Met l yX3_takeFeet (mw yX3_takeFeet cX3_takeFeet 1 (some .boolean)) ({ frames := 2, cells := 0, slots := 0, locals := 44 } : Room) (va_Pc [.ref q0] (mP (dC, dI) (ts cc) sz [(q0, .inr (3, [.ref q1, .ref q3, .ref q6, .ref q7, .int told])), (q3, .inr (6, [.ref q4, .ref q5, .int waiting_number, .int waiting_stocking])), (q4, .inl (cc 0, 5, .inl waiting_lefts)), (q5, .inl (cc 0, 5, .inl waiting_rights)), (q7, .inl (cc 0, 4, .inl numbers))])) ((fun A => va_Qi (fun (r : Int32) (w : (Nat → Int32) × (Nat → Int32) × Int32) => narrow .boolean (.int r) = .int r ∧ (r = ret ∧ w = (o_waiting_lefts, o_waiting_rights, o_waiting_number))) (fun (w : (Nat → Int32) × (Nat → Int32) × Int32) t => va_P (dC, dI) classes [(q0, .inr (3, [.ref q1, .ref q3, .ref q6, .ref q7, .int told])), (q3, .inr (6, [.ref q4, .ref q5, .int w.2.2, .int waiting_stocking])), (q4, .inl (cc 0, 5, .inl w.1)), (q5, .inl (cc 0, 5, .inl w.2.1)), (q7, .inl (cc 0, 4, .inl numbers))] t.heap) A) (va_A [(q0, .inr (3, [.ref q1, .ref q3, .ref q6, .ref q7, .int told])), (q3, .inr (6, [.ref q4, .ref q5, .int waiting_number, .int waiting_stocking])), (q4, .inl (cc 0, 5, .inl waiting_lefts)), (q5, .inl (cc 0, 5, .inl waiting_rights)), (q7, .inl (cc 0, 4, .inl numbers))] sz)) 0 0 (va_A [(q0, .inr (3, [.ref q1, .ref q3, .ref q6, .ref q7, .int told])), (q3, .inr (6, [.ref q4, .ref q5, .int waiting_number, .int waiting_stocking])), (q4, .inl (cc 0, 5, .inl waiting_lefts)), (q5, .inl (cc 0, 5, .inl waiting_rights)), (q7, .inl (cc 0, 4, .inl numbers))] sz) := by
  refine met_go (Qc := fun A => va_Qi (fun (r : Int32) (w : (Nat → Int32) × (Nat → Int32) × Int32) => narrow .boolean (.int r) = .int r ∧ (r = ret ∧ w = (o_waiting_lefts, o_waiting_rights, o_waiting_number))) (fun (w : (Nat → Int32) × (Nat → Int32) × Int32) t => va_P (dC, dI) classes [(q0, .inr (3, [.ref q1, .ref q3, .ref q6, .ref q7, .int told])), (q3, .inr (6, [.ref q4, .ref q5, .int w.2.2, .int waiting_stocking])), (q4, .inl (cc 0, 5, .inl w.1)), (q5, .inl (cc 0, 5, .inl w.2.1)), (q7, .inl (cc 0, 4, .inl numbers))] t.heap) A) (by decide) (Nat.le_of_ble_eq_true rfl) ?_
  intro p e s m below meth c A ls H locs hC hr hlk hin hA hP hl _
  have hC : CX p m c cX3_takeFeet 1 s ([.ref q0] : List Value).toArray RX3 (dC, dI) (ts cc) := hC
  have hx := hC.1.1
  have hb := hC.1.2
  have h := hu
  have hu0 := hu
  unfold f_X3_takeFeet at h
  have hl : lv_has ls 1 [(0, .ref q0)] := hl
  refine lv_aload_n hx hb dX3_takeFeet_0 rfl (lv_at hl 0 rfl) ?_
  refine g_get hC hP fg_X3_66 0 rfl rfl dX3_takeFeet_1 ?_
  refine lv_iconst (v := 2) hx hb dX3_takeFeet_4 (by decide) ?_
  refine lv_icmp_ne (tgt := 55) hx hb dX3_takeFeet_5 (by decide) (fun c1 => ?_) (fun c1 => ?_)
  · have h := if_f c1 h
    refine lv_iconst (v := 0) hx hb dX3_takeFeet_55 (by decide) ?_
    exact ret_z hC hr rfl hlk hP dX3_takeFeet_56 (waiting_lefts, waiting_rights, waiting_number) (Prod.mk.inj (Option.some.inj h)) rfl
  · have h := if_t c1 h
    refine lv_aload_n hx hb dX3_takeFeet_8 rfl (lv_at hl 0 rfl) ?_
    refine g_get hC hP fg_X3_21 0 rfl rfl dX3_takeFeet_9 ?_
    refine g_get hC hP fg_X3_100 1 rfl rfl dX3_takeFeet_12 ?_
    refine lv_iconst (v := 5) hx hb dX3_takeFeet_15 (by decide) ?_
    refine lv_icmp_ge (tgt := 55) hx hb dX3_takeFeet_16 (by decide) (fun c2 => ?_) (fun c2 => ?_)
    · have h := if_t c2 h
      refine lv_iconst (v := 0) hx hb dX3_takeFeet_55 (by decide) ?_
      exact ret_z hC hr rfl hlk hP dX3_takeFeet_56 (waiting_lefts, waiting_rights, waiting_number) (Prod.mk.inj (Option.some.inj h)) rfl
    · have h := if_f c2 h
      refine lv_aload_n hx hb dX3_takeFeet_19 rfl (lv_at hl 0 rfl) ?_
      refine g_get hC hP fg_X3_32 0 rfl rfl dX3_takeFeet_20 ?_
      refine lv_iconst (v := 0) hx hb dX3_takeFeet_23 (by decide) ?_
      obtain ⟨r3, hu, h⟩ := bnd_h h
      refine kc_i (kN hC (c_X9_at l dC dI cc q7 4 numbers 0 H.size r3 hu) cn_X3_88 kw332 rfl rfl ⟨(Nat.le_of_ble_eq_true rfl), (Nat.le_of_ble_eq_true rfl)⟩ hP [4] rfl rfl (As := [.ref q7, .int 0]) (rest := []) rfl rfl hl.1 (Nat.le_of_ble_eq_true rfl) dX3_takeFeet_24 ⟨Nat.zero_le _, Nat.zero_le _⟩) hP hA [4] rfl rfl (fun H locs hP => ?_)
      have hP : PD (dC, dI) A s.heap [(q0, .inr (3, [.ref q1, .ref q3, .ref q6, .ref q7, .int told])), (q3, .inr (6, [.ref q4, .ref q5, .int waiting_number, .int waiting_stocking])), (q4, .inl (cc 0, 5, .inl waiting_lefts)), (q5, .inl (cc 0, 5, .inl waiting_rights)), (q7, .inl (cc 0, 4, .inl numbers))] H locs := hP
      refine lv_bipush (v := 10) hx hb dX3_takeFeet_27 (by decide) ?_
      refine lv_bipush (v := 72) hx hb dX3_takeFeet_29 (by decide) ?_
      obtain ⟨r4, hu, h⟩ := bnd_h h
      refine kc_z (kN hC (c_X9_within l dC dI cc r3 10 72 H.size r4 hu) cn_X3_103 kw338 rfl rfl ⟨(Nat.le_of_ble_eq_true rfl), (Nat.le_of_ble_eq_true rfl)⟩ hP [] rfl rfl (As := [.int r3, .int 10, .int 72]) (rest := []) rfl rfl hl.1 (Nat.le_of_ble_eq_true rfl) dX3_takeFeet_31 ⟨Nat.zero_le _, Nat.zero_le _⟩) hP hA [] rfl rfl (fun hz_r4 H locs hP => ?_)
      have hP : PD (dC, dI) A s.heap [(q0, .inr (3, [.ref q1, .ref q3, .ref q6, .ref q7, .int told])), (q3, .inr (6, [.ref q4, .ref q5, .int waiting_number, .int waiting_stocking])), (q4, .inl (cc 0, 5, .inl waiting_lefts)), (q5, .inl (cc 0, 5, .inl waiting_rights)), (q7, .inl (cc 0, 4, .inl numbers))] H locs := hP
      refine lv_if_eq (tgt := 55) hx hb dX3_takeFeet_34 (by decide) (fun c5 => ?_) (fun c5 => ?_)
      · have h := if_t c5 h
        refine lv_iconst (v := 0) hx hb dX3_takeFeet_55 (by decide) ?_
        exact ret_z hC hr rfl hlk hP dX3_takeFeet_56 (waiting_lefts, waiting_rights, waiting_number) (Prod.mk.inj (Option.some.inj h)) rfl
      · have h := if_f c5 h
        refine lv_aload_n hx hb dX3_takeFeet_37 rfl (lv_at hl 0 rfl) ?_
        refine g_get hC hP fg_X3_32 0 rfl rfl dX3_takeFeet_38 ?_
        refine lv_iconst (v := 1) hx hb dX3_takeFeet_41 (by decide) ?_
        obtain ⟨r6, hu, h⟩ := bnd_h h
        refine kc_i (kN hC (c_X9_at l dC dI cc q7 4 numbers 1 H.size r6 hu) cn_X3_88 kw332 rfl rfl ⟨(Nat.le_of_ble_eq_true rfl), (Nat.le_of_ble_eq_true rfl)⟩ hP [4] rfl rfl (As := [.ref q7, .int 1]) (rest := []) rfl rfl hl.1 (Nat.le_of_ble_eq_true rfl) dX3_takeFeet_42 ⟨Nat.zero_le _, Nat.zero_le _⟩) hP hA [4] rfl rfl (fun H locs hP => ?_)
        have hP : PD (dC, dI) A s.heap [(q0, .inr (3, [.ref q1, .ref q3, .ref q6, .ref q7, .int told])), (q3, .inr (6, [.ref q4, .ref q5, .int waiting_number, .int waiting_stocking])), (q4, .inl (cc 0, 5, .inl waiting_lefts)), (q5, .inl (cc 0, 5, .inl waiting_rights)), (q7, .inl (cc 0, 4, .inl numbers))] H locs := hP
        refine lv_bipush (v := 10) hx hb dX3_takeFeet_45 (by decide) ?_
        refine lv_bipush (v := 72) hx hb dX3_takeFeet_47 (by decide) ?_
        obtain ⟨r7, hu, h⟩ := bnd_h h
        refine kc_z (kN hC (c_X9_within l dC dI cc r6 10 72 H.size r7 hu) cn_X3_103 kw338 rfl rfl ⟨(Nat.le_of_ble_eq_true rfl), (Nat.le_of_ble_eq_true rfl)⟩ hP [] rfl rfl (As := [.int r6, .int 10, .int 72]) (rest := []) rfl rfl hl.1 (Nat.le_of_ble_eq_true rfl) dX3_takeFeet_49 ⟨Nat.zero_le _, Nat.zero_le _⟩) hP hA [] rfl rfl (fun hz_r7 H locs hP => ?_)
        have hP : PD (dC, dI) A s.heap [(q0, .inr (3, [.ref q1, .ref q3, .ref q6, .ref q7, .int told])), (q3, .inr (6, [.ref q4, .ref q5, .int waiting_number, .int waiting_stocking])), (q4, .inl (cc 0, 5, .inl waiting_lefts)), (q5, .inl (cc 0, 5, .inl waiting_rights)), (q7, .inl (cc 0, 4, .inl numbers))] H locs := hP
        refine lv_if_ne (tgt := 57) hx hb dX3_takeFeet_52 (by decide) (fun c8 => ?_) (fun c8 => ?_)
        · have h := if_f c8 h
          refine lv_aload_n hx hb dX3_takeFeet_57 rfl (lv_at hl 0 rfl) ?_
          refine g_get hC hP fg_X3_21 0 rfl rfl dX3_takeFeet_58 ?_
          refine lv_aload_n hx hb dX3_takeFeet_61 rfl (lv_at hl 0 rfl) ?_
          refine g_get hC hP fg_X3_32 0 rfl rfl dX3_takeFeet_62 ?_
          refine lv_iconst (v := 0) hx hb dX3_takeFeet_65 (by decide) ?_
          obtain ⟨r9, hu, h⟩ := bnd_h h
          refine kc_i (kN hC (c_X9_at l dC dI cc q7 4 numbers 0 H.size r9 hu) cn_X3_88 kw332 rfl rfl ⟨(Nat.le_of_ble_eq_true rfl), (Nat.le_of_ble_eq_true rfl)⟩ hP [4] rfl rfl (As := [.ref q7, .int 0]) (rest := [.ref q3]) rfl rfl hl.1 (Nat.le_of_ble_eq_true rfl) dX3_takeFeet_66 ⟨Nat.zero_le _, Nat.zero_le _⟩) hP hA [4] rfl rfl (fun H locs hP => ?_)
          have hP : PD (dC, dI) A s.heap [(q0, .inr (3, [.ref q1, .ref q3, .ref q6, .ref q7, .int told])), (q3, .inr (6, [.ref q4, .ref q5, .int waiting_number, .int waiting_stocking])), (q4, .inl (cc 0, 5, .inl waiting_lefts)), (q5, .inl (cc 0, 5, .inl waiting_rights)), (q7, .inl (cc 0, 4, .inl numbers))] H locs := hP
          refine lv_aload_n hx hb dX3_takeFeet_69 rfl (lv_at hl 0 rfl) ?_
          refine g_get hC hP fg_X3_32 0 rfl rfl dX3_takeFeet_70 ?_
          refine lv_iconst (v := 1) hx hb dX3_takeFeet_73 (by decide) ?_
          obtain ⟨r10, hu, h⟩ := bnd_h h
          refine kc_i (kN hC (c_X9_at l dC dI cc q7 4 numbers 1 H.size r10 hu) cn_X3_88 kw332 rfl rfl ⟨(Nat.le_of_ble_eq_true rfl), (Nat.le_of_ble_eq_true rfl)⟩ hP [4] rfl rfl (As := [.ref q7, .int 1]) (rest := [.int r9, .ref q3]) rfl rfl hl.1 (Nat.le_of_ble_eq_true rfl) dX3_takeFeet_74 ⟨Nat.zero_le _, Nat.zero_le _⟩) hP hA [4] rfl rfl (fun H locs hP => ?_)
          have hP : PD (dC, dI) A s.heap [(q0, .inr (3, [.ref q1, .ref q3, .ref q6, .ref q7, .int told])), (q3, .inr (6, [.ref q4, .ref q5, .int waiting_number, .int waiting_stocking])), (q4, .inl (cc 0, 5, .inl waiting_lefts)), (q5, .inl (cc 0, 5, .inl waiting_rights)), (q7, .inl (cc 0, 4, .inl numbers))] H locs := hP
          obtain ⟨⟨w11, w12, w13⟩, hu, h⟩ := bnd_h h
          refine kc_v (kV hC (c_X6_add l dC dI cc q3 q4 q5 waiting_number waiting_stocking waiting_lefts waiting_rights r9 r10 H.size w11 w12 w13 hu) cv_X3_107 kw355 rfl rfl ⟨(Nat.le_of_ble_eq_true rfl), (Nat.le_of_ble_eq_true rfl)⟩ hP [1, 2, 3] rfl rfl rfl (q0 := 1) rfl (As := [.int r9, .int r10]) (rest := []) rfl rfl hl.1 (Nat.le_of_ble_eq_true rfl) dX3_takeFeet_77 ⟨Nat.zero_le _, Nat.zero_le _⟩) hP hA [1, 2, 3] rfl rfl (fun H locs hP => ?_)
          have hP : PD (dC, dI) A s.heap [(q0, .inr (3, [.ref q1, .ref q3, .ref q6, .ref q7, .int told])), (q3, .inr (6, [.ref q4, .ref q5, .int w13, .int waiting_stocking])), (q4, .inl (cc 0, 5, .inl w11)), (q5, .inl (cc 0, 5, .inl w12)), (q7, .inl (cc 0, 4, .inl numbers))] H locs := hP
          refine lv_iconst (v := 1) hx hb dX3_takeFeet_80 (by decide) ?_
          exact ret_z hC hr rfl hlk hP dX3_takeFeet_81 (w11, w12, w13) (Prod.mk.inj (Option.some.inj h)) rfl
        · have h := if_t c8 h
          refine lv_iconst (v := 0) hx hb dX3_takeFeet_55 (by decide) ?_
          exact ret_z hC hr rfl hlk hP dX3_takeFeet_56 (waiting_lefts, waiting_rights, waiting_number) (Prod.mk.inj (Option.some.inj h)) rfl
set_option maxHeartbeats 8000000 in
set_option maxRecDepth 100000 in
theorem c_X3_takeLog (l : Launch) (dC : Nat → ClassId) (dI : Nat → Nat → Nat) (cc : Nat → ClassId) (q0 q1 q3 q6 q7 : Nat) (told : Int32) (log_length : Int32) (log_block : Int32) (log_knots : Int64) (numbers : (Nat → Int32)) (sz : Nat) (ret : Int32) (o_log_length : Int32) (o_log_block : Int32) (hu : f_X3_takeLog told log_length log_block numbers = some (ret, o_log_length, o_log_block)) : Met l yX3_takeLog (mw yX3_takeLog cX3_takeLog 1 (some .boolean)) ({ frames := 1, cells := 0, slots := 0, locals := 22 } : Room) (va_Pc [.ref q0] (mP (dC, dI) (ts cc) sz [(q0, .inr (3, [.ref q1, .ref q3, .ref q6, .ref q7, .int told])), (q6, .inr (0, [.int log_length, .int log_block, .long log_knots])), (q7, .inl (cc 0, 4, .inl numbers))])) ((fun A => va_Qi (fun (r : Int32) (w : Int32 × Int32) => narrow .boolean (.int r) = .int r ∧ (r = ret ∧ w = (o_log_length, o_log_block))) (fun (w : Int32 × Int32) t => va_P (dC, dI) classes [(q0, .inr (3, [.ref q1, .ref q3, .ref q6, .ref q7, .int told])), (q6, .inr (0, [.int w.1, .int w.2, .long log_knots])), (q7, .inl (cc 0, 4, .inl numbers))] t.heap) A) (va_A [(q0, .inr (3, [.ref q1, .ref q3, .ref q6, .ref q7, .int told])), (q6, .inr (0, [.int log_length, .int log_block, .long log_knots])), (q7, .inl (cc 0, 4, .inl numbers))] sz)) 0 0 (va_A [(q0, .inr (3, [.ref q1, .ref q3, .ref q6, .ref q7, .int told])), (q6, .inr (0, [.int log_length, .int log_block, .long log_knots])), (q7, .inl (cc 0, 4, .inl numbers))] sz) := by
  refine met_go (Qc := fun A => va_Qi (fun (r : Int32) (w : Int32 × Int32) => narrow .boolean (.int r) = .int r ∧ (r = ret ∧ w = (o_log_length, o_log_block))) (fun (w : Int32 × Int32) t => va_P (dC, dI) classes [(q0, .inr (3, [.ref q1, .ref q3, .ref q6, .ref q7, .int told])), (q6, .inr (0, [.int w.1, .int w.2, .long log_knots])), (q7, .inl (cc 0, 4, .inl numbers))] t.heap) A) (by decide) (Nat.le_of_ble_eq_true rfl) ?_
  intro p e s m below meth c A ls H locs hC hr hlk hin hA hP hl _
  have hC : CX p m c cX3_takeLog 1 s ([.ref q0] : List Value).toArray RX3 (dC, dI) (ts cc) := hC
  have hx := hC.1.1
  have hb := hC.1.2
  have h := hu
  have hu0 := hu
  unfold f_X3_takeLog at h
  have hl : lv_has ls 1 [(0, .ref q0)] := hl
  refine lv_aload_n hx hb dX3_takeLog_0 rfl (lv_at hl 0 rfl) ?_
  refine g_get hC hP fg_X3_66 0 rfl rfl dX3_takeLog_1 ?_
  refine lv_iconst (v := 2) hx hb dX3_takeLog_4 (by decide) ?_
  refine lv_icmp_ne (tgt := 42) hx hb dX3_takeLog_5 (by decide) (fun c1 => ?_) (fun c1 => ?_)
  · have h := if_f c1 h
    refine lv_iconst (v := 0) hx hb dX3_takeLog_42 (by decide) ?_
    exact ret_z hC hr rfl hlk hP dX3_takeLog_43 (log_length, log_block) (Prod.mk.inj (Option.some.inj h)) rfl
  · have h := if_t c1 h
    refine lv_aload_n hx hb dX3_takeLog_8 rfl (lv_at hl 0 rfl) ?_
    refine g_get hC hP fg_X3_32 0 rfl rfl dX3_takeLog_9 ?_
    refine lv_iconst (v := 0) hx hb dX3_takeLog_12 (by decide) ?_
    obtain ⟨r2, hu, h⟩ := bnd_h h
    refine kc_i (kN hC (c_X9_at l dC dI cc q7 4 numbers 0 H.size r2 hu) cn_X3_88 kw332 rfl rfl ⟨(Nat.le_of_ble_eq_true rfl), (Nat.le_of_ble_eq_true rfl)⟩ hP [2] rfl rfl (As := [.ref q7, .int 0]) (rest := []) rfl rfl hl.1 (Nat.le_of_ble_eq_true rfl) dX3_takeLog_13 ⟨Nat.zero_le _, Nat.zero_le _⟩) hP hA [2] rfl rfl (fun H locs hP => ?_)
    have hP : PD (dC, dI) A s.heap [(q0, .inr (3, [.ref q1, .ref q3, .ref q6, .ref q7, .int told])), (q6, .inr (0, [.int log_length, .int log_block, .long log_knots])), (q7, .inl (cc 0, 4, .inl numbers))] H locs := hP
    refine lv_iconst (v := 1) hx hb dX3_takeLog_16 (by decide) ?_
    refine lv_bipush (v := 40) hx hb dX3_takeLog_17 (by decide) ?_
    obtain ⟨r3, hu, h⟩ := bnd_h h
    refine kc_z (kN hC (c_X9_within l dC dI cc r2 1 40 H.size r3 hu) cn_X3_103 kw338 rfl rfl ⟨(Nat.le_of_ble_eq_true rfl), (Nat.le_of_ble_eq_true rfl)⟩ hP [] rfl rfl (As := [.int r2, .int 1, .int 40]) (rest := []) rfl rfl hl.1 (Nat.le_of_ble_eq_true rfl) dX3_takeLog_19 ⟨Nat.zero_le _, Nat.zero_le _⟩) hP hA [] rfl rfl (fun hz_r3 H locs hP => ?_)
    have hP : PD (dC, dI) A s.heap [(q0, .inr (3, [.ref q1, .ref q3, .ref q6, .ref q7, .int told])), (q6, .inr (0, [.int log_length, .int log_block, .long log_knots])), (q7, .inl (cc 0, 4, .inl numbers))] H locs := hP
    refine lv_if_eq (tgt := 42) hx hb dX3_takeLog_22 (by decide) (fun c4 => ?_) (fun c4 => ?_)
    · have h := if_t c4 h
      refine lv_iconst (v := 0) hx hb dX3_takeLog_42 (by decide) ?_
      exact ret_z hC hr rfl hlk hP dX3_takeLog_43 (log_length, log_block) (Prod.mk.inj (Option.some.inj h)) rfl
    · have h := if_f c4 h
      refine lv_aload_n hx hb dX3_takeLog_25 rfl (lv_at hl 0 rfl) ?_
      refine g_get hC hP fg_X3_32 0 rfl rfl dX3_takeLog_26 ?_
      refine lv_iconst (v := 1) hx hb dX3_takeLog_29 (by decide) ?_
      obtain ⟨r5, hu, h⟩ := bnd_h h
      refine kc_i (kN hC (c_X9_at l dC dI cc q7 4 numbers 1 H.size r5 hu) cn_X3_88 kw332 rfl rfl ⟨(Nat.le_of_ble_eq_true rfl), (Nat.le_of_ble_eq_true rfl)⟩ hP [2] rfl rfl (As := [.ref q7, .int 1]) (rest := []) rfl rfl hl.1 (Nat.le_of_ble_eq_true rfl) dX3_takeLog_30 ⟨Nat.zero_le _, Nat.zero_le _⟩) hP hA [2] rfl rfl (fun H locs hP => ?_)
      have hP : PD (dC, dI) A s.heap [(q0, .inr (3, [.ref q1, .ref q3, .ref q6, .ref q7, .int told])), (q6, .inr (0, [.int log_length, .int log_block, .long log_knots])), (q7, .inl (cc 0, 4, .inl numbers))] H locs := hP
      refine lv_iconst (v := 2) hx hb dX3_takeLog_33 (by decide) ?_
      refine lv_bipush (v := 9) hx hb dX3_takeLog_34 (by decide) ?_
      obtain ⟨r6, hu, h⟩ := bnd_h h
      refine kc_z (kN hC (c_X9_within l dC dI cc r5 2 9 H.size r6 hu) cn_X3_103 kw338 rfl rfl ⟨(Nat.le_of_ble_eq_true rfl), (Nat.le_of_ble_eq_true rfl)⟩ hP [] rfl rfl (As := [.int r5, .int 2, .int 9]) (rest := []) rfl rfl hl.1 (Nat.le_of_ble_eq_true rfl) dX3_takeLog_36 ⟨Nat.zero_le _, Nat.zero_le _⟩) hP hA [] rfl rfl (fun hz_r6 H locs hP => ?_)
      have hP : PD (dC, dI) A s.heap [(q0, .inr (3, [.ref q1, .ref q3, .ref q6, .ref q7, .int told])), (q6, .inr (0, [.int log_length, .int log_block, .long log_knots])), (q7, .inl (cc 0, 4, .inl numbers))] H locs := hP
      refine lv_if_ne (tgt := 44) hx hb dX3_takeLog_39 (by decide) (fun c7 => ?_) (fun c7 => ?_)
      · have h := if_f c7 h
        refine lv_aload_n hx hb dX3_takeLog_44 rfl (lv_at hl 0 rfl) ?_
        refine g_get hC hP fg_X3_28 0 rfl rfl dX3_takeLog_45 ?_
        refine lv_aload_n hx hb dX3_takeLog_48 rfl (lv_at hl 0 rfl) ?_
        refine g_get hC hP fg_X3_32 0 rfl rfl dX3_takeLog_49 ?_
        refine lv_iconst (v := 0) hx hb dX3_takeLog_52 (by decide) ?_
        obtain ⟨r8, hu, h⟩ := bnd_h h
        refine kc_i (kN hC (c_X9_at l dC dI cc q7 4 numbers 0 H.size r8 hu) cn_X3_88 kw332 rfl rfl ⟨(Nat.le_of_ble_eq_true rfl), (Nat.le_of_ble_eq_true rfl)⟩ hP [2] rfl rfl (As := [.ref q7, .int 0]) (rest := [.ref q6]) rfl rfl hl.1 (Nat.le_of_ble_eq_true rfl) dX3_takeLog_53 ⟨Nat.zero_le _, Nat.zero_le _⟩) hP hA [2] rfl rfl (fun H locs hP => ?_)
        have hP : PD (dC, dI) A s.heap [(q0, .inr (3, [.ref q1, .ref q3, .ref q6, .ref q7, .int told])), (q6, .inr (0, [.int log_length, .int log_block, .long log_knots])), (q7, .inl (cc 0, 4, .inl numbers))] H locs := hP
        refine g_put hC hP fg_X3_110 1 rfl rfl rfl (Nat.le_of_ble_eq_true rfl) dX3_takeLog_56 (fun H locs hP => ?_)
        have hP : PD (dC, dI) A s.heap [(q0, .inr (3, [.ref q1, .ref q3, .ref q6, .ref q7, .int told])), (q6, .inr (0, [.int r8, .int log_block, .long log_knots])), (q7, .inl (cc 0, 4, .inl numbers))] H locs := hP
        refine lv_aload_n hx hb dX3_takeLog_59 rfl (lv_at hl 0 rfl) ?_
        refine g_get hC hP fg_X3_28 0 rfl rfl dX3_takeLog_60 ?_
        refine lv_aload_n hx hb dX3_takeLog_63 rfl (lv_at hl 0 rfl) ?_
        refine g_get hC hP fg_X3_32 0 rfl rfl dX3_takeLog_64 ?_
        refine lv_iconst (v := 1) hx hb dX3_takeLog_67 (by decide) ?_
        obtain ⟨r9, hu, h⟩ := bnd_h h
        refine kc_i (kN hC (c_X9_at l dC dI cc q7 4 numbers 1 H.size r9 hu) cn_X3_88 kw332 rfl rfl ⟨(Nat.le_of_ble_eq_true rfl), (Nat.le_of_ble_eq_true rfl)⟩ hP [2] rfl rfl (As := [.ref q7, .int 1]) (rest := [.ref q6]) rfl rfl hl.1 (Nat.le_of_ble_eq_true rfl) dX3_takeLog_68 ⟨Nat.zero_le _, Nat.zero_le _⟩) hP hA [2] rfl rfl (fun H locs hP => ?_)
        have hP : PD (dC, dI) A s.heap [(q0, .inr (3, [.ref q1, .ref q3, .ref q6, .ref q7, .int told])), (q6, .inr (0, [.int r8, .int log_block, .long log_knots])), (q7, .inl (cc 0, 4, .inl numbers))] H locs := hP
        refine g_put hC hP fg_X3_111 1 rfl rfl rfl (Nat.le_of_ble_eq_true rfl) dX3_takeLog_71 (fun H locs hP => ?_)
        have hP : PD (dC, dI) A s.heap [(q0, .inr (3, [.ref q1, .ref q3, .ref q6, .ref q7, .int told])), (q6, .inr (0, [.int r8, .int r9, .long log_knots])), (q7, .inl (cc 0, 4, .inl numbers))] H locs := hP
        refine lv_iconst (v := 1) hx hb dX3_takeLog_74 (by decide) ?_
        exact ret_z hC hr rfl hlk hP dX3_takeLog_75 (r8, r9) (Prod.mk.inj (Option.some.inj h)) rfl
      · have h := if_t c7 h
        refine lv_iconst (v := 0) hx hb dX3_takeLog_42 (by decide) ?_
        exact ret_z hC hr rfl hlk hP dX3_takeLog_43 (log_length, log_block) (Prod.mk.inj (Option.some.inj h)) rfl
set_option maxHeartbeats 8000000 in
set_option maxRecDepth 100000 in
theorem c_X3_takeKnot (l : Launch) (dC : Nat → ClassId) (dI : Nat → Nat → Nat) (cc : Nat → ClassId) (q0 q1 q3 q6 q7 : Nat) (told : Int32) (log_length : Int32) (log_block : Int32) (log_knots : Int64) (numbers : (Nat → Int32)) (sz : Nat) (ret : Int32) (o_log_knots : Int64) (hu : f_X3_takeKnot told log_knots numbers = some (ret, o_log_knots)) : Met l yX3_takeKnot (mw yX3_takeKnot cX3_takeKnot 1 (some .boolean)) ({ frames := 1, cells := 0, slots := 0, locals := 22 } : Room) (va_Pc [.ref q0] (mP (dC, dI) (ts cc) sz [(q0, .inr (3, [.ref q1, .ref q3, .ref q6, .ref q7, .int told])), (q6, .inr (0, [.int log_length, .int log_block, .long log_knots])), (q7, .inl (cc 0, 4, .inl numbers))])) ((fun A => va_Qi (fun (r : Int32) (w : Int64) => narrow .boolean (.int r) = .int r ∧ (r = ret ∧ w = o_log_knots)) (fun (w : Int64) t => va_P (dC, dI) classes [(q0, .inr (3, [.ref q1, .ref q3, .ref q6, .ref q7, .int told])), (q6, .inr (0, [.int log_length, .int log_block, .long w])), (q7, .inl (cc 0, 4, .inl numbers))] t.heap) A) (va_A [(q0, .inr (3, [.ref q1, .ref q3, .ref q6, .ref q7, .int told])), (q6, .inr (0, [.int log_length, .int log_block, .long log_knots])), (q7, .inl (cc 0, 4, .inl numbers))] sz)) 0 0 (va_A [(q0, .inr (3, [.ref q1, .ref q3, .ref q6, .ref q7, .int told])), (q6, .inr (0, [.int log_length, .int log_block, .long log_knots])), (q7, .inl (cc 0, 4, .inl numbers))] sz) := by
  refine met_go (Qc := fun A => va_Qi (fun (r : Int32) (w : Int64) => narrow .boolean (.int r) = .int r ∧ (r = ret ∧ w = o_log_knots)) (fun (w : Int64) t => va_P (dC, dI) classes [(q0, .inr (3, [.ref q1, .ref q3, .ref q6, .ref q7, .int told])), (q6, .inr (0, [.int log_length, .int log_block, .long w])), (q7, .inl (cc 0, 4, .inl numbers))] t.heap) A) (by decide) (Nat.le_of_ble_eq_true rfl) ?_
  intro p e s m below meth c A ls H locs hC hr hlk hin hA hP hl _
  have hC : CX p m c cX3_takeKnot 1 s ([.ref q0] : List Value).toArray RX3 (dC, dI) (ts cc) := hC
  have hx := hC.1.1
  have hb := hC.1.2
  have h := hu
  have hu0 := hu
  unfold f_X3_takeKnot at h
  have hl : lv_has ls 1 [(0, .ref q0)] := hl
  refine lv_aload_n hx hb dX3_takeKnot_0 rfl (lv_at hl 0 rfl) ?_
  refine g_get hC hP fg_X3_66 0 rfl rfl dX3_takeKnot_1 ?_
  refine lv_iconst (v := 1) hx hb dX3_takeKnot_4 (by decide) ?_
  refine lv_icmp_ne (tgt := 25) hx hb dX3_takeKnot_5 (by decide) (fun c1 => ?_) (fun c1 => ?_)
  · have h := if_f c1 h
    refine lv_iconst (v := 0) hx hb dX3_takeKnot_25 (by decide) ?_
    exact ret_z hC hr rfl hlk hP dX3_takeKnot_26 log_knots (Prod.mk.inj (Option.some.inj h)) rfl
  · have h := if_t c1 h
    refine lv_aload_n hx hb dX3_takeKnot_8 rfl (lv_at hl 0 rfl) ?_
    refine g_get hC hP fg_X3_32 0 rfl rfl dX3_takeKnot_9 ?_
    refine lv_iconst (v := 0) hx hb dX3_takeKnot_12 (by decide) ?_
    obtain ⟨r2, hu, h⟩ := bnd_h h
    refine kc_i (kN hC (c_X9_at l dC dI cc q7 4 numbers 0 H.size r2 hu) cn_X3_88 kw332 rfl rfl ⟨(Nat.le_of_ble_eq_true rfl), (Nat.le_of_ble_eq_true rfl)⟩ hP [2] rfl rfl (As := [.ref q7, .int 0]) (rest := []) rfl rfl hl.1 (Nat.le_of_ble_eq_true rfl) dX3_takeKnot_13 ⟨Nat.zero_le _, Nat.zero_le _⟩) hP hA [2] rfl rfl (fun H locs hP => ?_)
    have hP : PD (dC, dI) A s.heap [(q0, .inr (3, [.ref q1, .ref q3, .ref q6, .ref q7, .int told])), (q6, .inr (0, [.int log_length, .int log_block, .long log_knots])), (q7, .inl (cc 0, 4, .inl numbers))] H locs := hP
    refine lv_iconst (v := 0) hx hb dX3_takeKnot_16 (by decide) ?_
    refine lv_bipush (v := 39) hx hb dX3_takeKnot_17 (by decide) ?_
    obtain ⟨r3, hu, h⟩ := bnd_h h
    refine kc_z (kN hC (c_X9_within l dC dI cc r2 0 39 H.size r3 hu) cn_X3_103 kw338 rfl rfl ⟨(Nat.le_of_ble_eq_true rfl), (Nat.le_of_ble_eq_true rfl)⟩ hP [] rfl rfl (As := [.int r2, .int 0, .int 39]) (rest := []) rfl rfl hl.1 (Nat.le_of_ble_eq_true rfl) dX3_takeKnot_19 ⟨Nat.zero_le _, Nat.zero_le _⟩) hP hA [] rfl rfl (fun hz_r3 H locs hP => ?_)
    have hP : PD (dC, dI) A s.heap [(q0, .inr (3, [.ref q1, .ref q3, .ref q6, .ref q7, .int told])), (q6, .inr (0, [.int log_length, .int log_block, .long log_knots])), (q7, .inl (cc 0, 4, .inl numbers))] H locs := hP
    refine lv_if_ne (tgt := 27) hx hb dX3_takeKnot_22 (by decide) (fun c4 => ?_) (fun c4 => ?_)
    · have h := if_f c4 h
      refine lv_aload_n hx hb dX3_takeKnot_27 rfl (lv_at hl 0 rfl) ?_
      refine g_get hC hP fg_X3_28 0 rfl rfl dX3_takeKnot_28 ?_
      refine lv_dup hx hb dX3_takeKnot_31 rfl ?_
      refine g_get hC hP fg_X3_114 1 rfl rfl dX3_takeKnot_32 ?_
      refine lv_lconst (v := 1) hx hb dX3_takeKnot_35 (by decide) ?_
      refine lv_aload_n hx hb dX3_takeKnot_36 rfl (lv_at hl 0 rfl) ?_
      refine g_get hC hP fg_X3_32 0 rfl rfl dX3_takeKnot_37 ?_
      refine lv_iconst (v := 0) hx hb dX3_takeKnot_40 (by decide) ?_
      obtain ⟨r5, hu, h⟩ := bnd_h h
      refine kc_i (kN hC (c_X9_at l dC dI cc q7 4 numbers 0 H.size r5 hu) cn_X3_88 kw332 rfl rfl ⟨(Nat.le_of_ble_eq_true rfl), (Nat.le_of_ble_eq_true rfl)⟩ hP [2] rfl rfl (As := [.ref q7, .int 0]) (rest := [.long 1, .long log_knots, .ref q6]) rfl rfl hl.1 (Nat.le_of_ble_eq_true rfl) dX3_takeKnot_41 ⟨Nat.zero_le _, Nat.zero_le _⟩) hP hA [2] rfl rfl (fun H locs hP => ?_)
      have hP : PD (dC, dI) A s.heap [(q0, .inr (3, [.ref q1, .ref q3, .ref q6, .ref q7, .int told])), (q6, .inr (0, [.int log_length, .int log_block, .long log_knots])), (q7, .inl (cc 0, 4, .inl numbers))] H locs := hP
      refine lv_lshl hx hb dX3_takeKnot_44 rfl ?_
      refine lv_lor hx hb dX3_takeKnot_45 ?_
      refine lv_topl (fun v6 ev => ?_)
      have h := nm_h ev h
      refine g_put hC hP fg_X3_114 1 rfl rfl rfl (Nat.le_of_ble_eq_true rfl) dX3_takeKnot_46 (fun H locs hP => ?_)
      have hP : PD (dC, dI) A s.heap [(q0, .inr (3, [.ref q1, .ref q3, .ref q6, .ref q7, .int told])), (q6, .inr (0, [.int log_length, .int log_block, .long v6])), (q7, .inl (cc 0, 4, .inl numbers))] H locs := hP
      refine lv_iconst (v := 1) hx hb dX3_takeKnot_49 (by decide) ?_
      exact ret_z hC hr rfl hlk hP dX3_takeKnot_50 v6 (Prod.mk.inj (Option.some.inj h)) rfl
    · have h := if_t c4 h
      refine lv_iconst (v := 0) hx hb dX3_takeKnot_25 (by decide) ?_
      exact ret_z hC hr rfl hlk hP dX3_takeKnot_26 log_knots (Prod.mk.inj (Option.some.inj h)) rfl
set_option maxHeartbeats 8000000 in
set_option maxRecDepth 100000 in
theorem c_X3_takeStocking (l : Launch) (dC : Nat → ClassId) (dI : Nat → Nat → Nat) (cc : Nat → ClassId) (q0 q1 q3 q6 q7 q4 q5 : Nat) (told : Int32) (waiting_number : Int32) (waiting_stocking : Int32) (numbers : (Nat → Int32)) (sz : Nat) (ret : Int32) (o_waiting_stocking : Int32) (hu : f_X3_takeStocking told waiting_stocking numbers = some (ret, o_waiting_stocking)) : Met l yX3_takeStocking (mw yX3_takeStocking cX3_takeStocking 1 (some .boolean)) ({ frames := 1, cells := 0, slots := 0, locals := 22 } : Room) (va_Pc [.ref q0] (mP (dC, dI) (ts cc) sz [(q0, .inr (3, [.ref q1, .ref q3, .ref q6, .ref q7, .int told])), (q3, .inr (6, [.ref q4, .ref q5, .int waiting_number, .int waiting_stocking])), (q7, .inl (cc 0, 4, .inl numbers))])) ((fun A => va_Qi (fun (r : Int32) (w : Int32) => narrow .boolean (.int r) = .int r ∧ (r = ret ∧ w = o_waiting_stocking)) (fun (w : Int32) t => va_P (dC, dI) classes [(q0, .inr (3, [.ref q1, .ref q3, .ref q6, .ref q7, .int told])), (q3, .inr (6, [.ref q4, .ref q5, .int waiting_number, .int w])), (q7, .inl (cc 0, 4, .inl numbers))] t.heap) A) (va_A [(q0, .inr (3, [.ref q1, .ref q3, .ref q6, .ref q7, .int told])), (q3, .inr (6, [.ref q4, .ref q5, .int waiting_number, .int waiting_stocking])), (q7, .inl (cc 0, 4, .inl numbers))] sz)) 0 0 (va_A [(q0, .inr (3, [.ref q1, .ref q3, .ref q6, .ref q7, .int told])), (q3, .inr (6, [.ref q4, .ref q5, .int waiting_number, .int waiting_stocking])), (q7, .inl (cc 0, 4, .inl numbers))] sz) := by
  refine met_go (Qc := fun A => va_Qi (fun (r : Int32) (w : Int32) => narrow .boolean (.int r) = .int r ∧ (r = ret ∧ w = o_waiting_stocking)) (fun (w : Int32) t => va_P (dC, dI) classes [(q0, .inr (3, [.ref q1, .ref q3, .ref q6, .ref q7, .int told])), (q3, .inr (6, [.ref q4, .ref q5, .int waiting_number, .int w])), (q7, .inl (cc 0, 4, .inl numbers))] t.heap) A) (by decide) (Nat.le_of_ble_eq_true rfl) ?_
  intro p e s m below meth c A ls H locs hC hr hlk hin hA hP hl _
  have hC : CX p m c cX3_takeStocking 1 s ([.ref q0] : List Value).toArray RX3 (dC, dI) (ts cc) := hC
  have hx := hC.1.1
  have hb := hC.1.2
  have h := hu
  have hu0 := hu
  unfold f_X3_takeStocking at h
  have hl : lv_has ls 1 [(0, .ref q0)] := hl
  refine lv_aload_n hx hb dX3_takeStocking_0 rfl (lv_at hl 0 rfl) ?_
  refine g_get hC hP fg_X3_66 0 rfl rfl dX3_takeStocking_1 ?_
  refine lv_iconst (v := 1) hx hb dX3_takeStocking_4 (by decide) ?_
  refine lv_icmp_ne (tgt := 25) hx hb dX3_takeStocking_5 (by decide) (fun c1 => ?_) (fun c1 => ?_)
  · have h := if_f c1 h
    refine lv_iconst (v := 0) hx hb dX3_takeStocking_25 (by decide) ?_
    exact ret_z hC hr rfl hlk hP dX3_takeStocking_26 waiting_stocking (Prod.mk.inj (Option.some.inj h)) rfl
  · have h := if_t c1 h
    refine lv_aload_n hx hb dX3_takeStocking_8 rfl (lv_at hl 0 rfl) ?_
    refine g_get hC hP fg_X3_32 0 rfl rfl dX3_takeStocking_9 ?_
    refine lv_iconst (v := 0) hx hb dX3_takeStocking_12 (by decide) ?_
    obtain ⟨r2, hu, h⟩ := bnd_h h
    refine kc_i (kN hC (c_X9_at l dC dI cc q7 4 numbers 0 H.size r2 hu) cn_X3_88 kw332 rfl rfl ⟨(Nat.le_of_ble_eq_true rfl), (Nat.le_of_ble_eq_true rfl)⟩ hP [2] rfl rfl (As := [.ref q7, .int 0]) (rest := []) rfl rfl hl.1 (Nat.le_of_ble_eq_true rfl) dX3_takeStocking_13 ⟨Nat.zero_le _, Nat.zero_le _⟩) hP hA [2] rfl rfl (fun H locs hP => ?_)
    have hP : PD (dC, dI) A s.heap [(q0, .inr (3, [.ref q1, .ref q3, .ref q6, .ref q7, .int told])), (q3, .inr (6, [.ref q4, .ref q5, .int waiting_number, .int waiting_stocking])), (q7, .inl (cc 0, 4, .inl numbers))] H locs := hP
    refine lv_iconst (v := 0) hx hb dX3_takeStocking_16 (by decide) ?_
    refine lv_bipush (v := 6) hx hb dX3_takeStocking_17 (by decide) ?_
    obtain ⟨r3, hu, h⟩ := bnd_h h
    refine kc_z (kN hC (c_X9_within l dC dI cc r2 0 6 H.size r3 hu) cn_X3_103 kw338 rfl rfl ⟨(Nat.le_of_ble_eq_true rfl), (Nat.le_of_ble_eq_true rfl)⟩ hP [] rfl rfl (As := [.int r2, .int 0, .int 6]) (rest := []) rfl rfl hl.1 (Nat.le_of_ble_eq_true rfl) dX3_takeStocking_19 ⟨Nat.zero_le _, Nat.zero_le _⟩) hP hA [] rfl rfl (fun hz_r3 H locs hP => ?_)
    have hP : PD (dC, dI) A s.heap [(q0, .inr (3, [.ref q1, .ref q3, .ref q6, .ref q7, .int told])), (q3, .inr (6, [.ref q4, .ref q5, .int waiting_number, .int waiting_stocking])), (q7, .inl (cc 0, 4, .inl numbers))] H locs := hP
    refine lv_if_ne (tgt := 27) hx hb dX3_takeStocking_22 (by decide) (fun c4 => ?_) (fun c4 => ?_)
    · have h := if_f c4 h
      refine lv_aload_n hx hb dX3_takeStocking_27 rfl (lv_at hl 0 rfl) ?_
      refine g_get hC hP fg_X3_21 0 rfl rfl dX3_takeStocking_28 ?_
      refine lv_aload_n hx hb dX3_takeStocking_31 rfl (lv_at hl 0 rfl) ?_
      refine g_get hC hP fg_X3_32 0 rfl rfl dX3_takeStocking_32 ?_
      refine lv_iconst (v := 0) hx hb dX3_takeStocking_35 (by decide) ?_
      obtain ⟨r5, hu, h⟩ := bnd_h h
      refine kc_i (kN hC (c_X9_at l dC dI cc q7 4 numbers 0 H.size r5 hu) cn_X3_88 kw332 rfl rfl ⟨(Nat.le_of_ble_eq_true rfl), (Nat.le_of_ble_eq_true rfl)⟩ hP [2] rfl rfl (As := [.ref q7, .int 0]) (rest := [.ref q3]) rfl rfl hl.1 (Nat.le_of_ble_eq_true rfl) dX3_takeStocking_36 ⟨Nat.zero_le _, Nat.zero_le _⟩) hP hA [2] rfl rfl (fun H locs hP => ?_)
      have hP : PD (dC, dI) A s.heap [(q0, .inr (3, [.ref q1, .ref q3, .ref q6, .ref q7, .int told])), (q3, .inr (6, [.ref q4, .ref q5, .int waiting_number, .int waiting_stocking])), (q7, .inl (cc 0, 4, .inl numbers))] H locs := hP
      refine g_put hC hP fg_X3_118 1 rfl rfl rfl (Nat.le_of_ble_eq_true rfl) dX3_takeStocking_39 (fun H locs hP => ?_)
      have hP : PD (dC, dI) A s.heap [(q0, .inr (3, [.ref q1, .ref q3, .ref q6, .ref q7, .int told])), (q3, .inr (6, [.ref q4, .ref q5, .int waiting_number, .int r5])), (q7, .inl (cc 0, 4, .inl numbers))] H locs := hP
      refine lv_iconst (v := 1) hx hb dX3_takeStocking_42 (by decide) ?_
      exact ret_z hC hr rfl hlk hP dX3_takeStocking_43 r5 (Prod.mk.inj (Option.some.inj h)) rfl
    · have h := if_t c4 h
      refine lv_iconst (v := 0) hx hb dX3_takeStocking_25 (by decide) ?_
      exact ret_z hC hr rfl hlk hP dX3_takeStocking_26 waiting_stocking (Prod.mk.inj (Option.some.inj h)) rfl
set_option maxHeartbeats 8000000 in
set_option maxRecDepth 100000 in
theorem c_X3_take (l : Launch) (dC : Nat → ClassId) (dI : Nat → Nat → Nat) (cc : Nat → ClassId) (q0 q1 q3 q6 q7 q2 q4 q5 : Nat) (told : Int32) (shelf_clogs : Int32) (shelf_day : Int32) (shelf_cells : (Nat → Int32)) (waiting_number : Int32) (waiting_stocking : Int32) (waiting_lefts : (Nat → Int32)) (waiting_rights : (Nat → Int32)) (log_length : Int32) (log_block : Int32) (log_knots : Int64) (numbers : (Nat → Int32)) (x1 : Int32) (sz : Nat) (ret : Int32) (o_shelf_cells : (Nat → Int32)) (o_shelf_clogs : Int32) (o_waiting_lefts : (Nat → Int32)) (o_waiting_rights : (Nat → Int32)) (o_waiting_number : Int32) (o_waiting_stocking : Int32) (o_log_length : Int32) (o_log_block : Int32) (o_log_knots : Int64) (hu : f_X3_take x1 told shelf_clogs shelf_day shelf_cells waiting_number waiting_stocking waiting_lefts waiting_rights log_length log_block log_knots numbers = some (ret, o_shelf_cells, o_shelf_clogs, o_waiting_lefts, o_waiting_rights, o_waiting_number, o_waiting_stocking, o_log_length, o_log_block, o_log_knots)) : Met l yX3_take (mw yX3_take cX3_take 2 (some .boolean)) ({ frames := 3, cells := 0, slots := 0, locals := 67 } : Room) (va_Pc [.ref q0, .int x1] (mP (dC, dI) (ts cc) sz [(q0, .inr (3, [.ref q1, .ref q3, .ref q6, .ref q7, .int told])), (q1, .inr (4, [.ref q2, .int shelf_clogs, .int shelf_day])), (q2, .inl (cc 0, 50, .inl shelf_cells)), (q3, .inr (6, [.ref q4, .ref q5, .int waiting_number, .int waiting_stocking])), (q4, .inl (cc 0, 5, .inl waiting_lefts)), (q5, .inl (cc 0, 5, .inl waiting_rights)), (q6, .inr (0, [.int log_length, .int log_block, .long log_knots])), (q7, .inl (cc 0, 4, .inl numbers))])) ((fun A => va_Qi (fun (r : Int32) (w : (Nat → Int32) × Int32 × (Nat → Int32) × (Nat → Int32) × Int32 × Int32 × Int32 × Int32 × Int64) => narrow .boolean (.int r) = .int r ∧ (r = ret ∧ w = (o_shelf_cells, o_shelf_clogs, o_waiting_lefts, o_waiting_rights, o_waiting_number, o_waiting_stocking, o_log_length, o_log_block, o_log_knots))) (fun (w : (Nat → Int32) × Int32 × (Nat → Int32) × (Nat → Int32) × Int32 × Int32 × Int32 × Int32 × Int64) t => va_P (dC, dI) classes [(q0, .inr (3, [.ref q1, .ref q3, .ref q6, .ref q7, .int told])), (q1, .inr (4, [.ref q2, .int w.2.1, .int shelf_day])), (q2, .inl (cc 0, 50, .inl w.1)), (q3, .inr (6, [.ref q4, .ref q5, .int w.2.2.2.2.1, .int w.2.2.2.2.2.1])), (q4, .inl (cc 0, 5, .inl w.2.2.1)), (q5, .inl (cc 0, 5, .inl w.2.2.2.1)), (q6, .inr (0, [.int w.2.2.2.2.2.2.1, .int w.2.2.2.2.2.2.2.1, .long w.2.2.2.2.2.2.2.2])), (q7, .inl (cc 0, 4, .inl numbers))] t.heap) A) (va_A [(q0, .inr (3, [.ref q1, .ref q3, .ref q6, .ref q7, .int told])), (q1, .inr (4, [.ref q2, .int shelf_clogs, .int shelf_day])), (q2, .inl (cc 0, 50, .inl shelf_cells)), (q3, .inr (6, [.ref q4, .ref q5, .int waiting_number, .int waiting_stocking])), (q4, .inl (cc 0, 5, .inl waiting_lefts)), (q5, .inl (cc 0, 5, .inl waiting_rights)), (q6, .inr (0, [.int log_length, .int log_block, .long log_knots])), (q7, .inl (cc 0, 4, .inl numbers))] sz)) 0 0 (va_A [(q0, .inr (3, [.ref q1, .ref q3, .ref q6, .ref q7, .int told])), (q1, .inr (4, [.ref q2, .int shelf_clogs, .int shelf_day])), (q2, .inl (cc 0, 50, .inl shelf_cells)), (q3, .inr (6, [.ref q4, .ref q5, .int waiting_number, .int waiting_stocking])), (q4, .inl (cc 0, 5, .inl waiting_lefts)), (q5, .inl (cc 0, 5, .inl waiting_rights)), (q6, .inr (0, [.int log_length, .int log_block, .long log_knots])), (q7, .inl (cc 0, 4, .inl numbers))] sz) := by
  refine met_go (Qc := fun A => va_Qi (fun (r : Int32) (w : (Nat → Int32) × Int32 × (Nat → Int32) × (Nat → Int32) × Int32 × Int32 × Int32 × Int32 × Int64) => narrow .boolean (.int r) = .int r ∧ (r = ret ∧ w = (o_shelf_cells, o_shelf_clogs, o_waiting_lefts, o_waiting_rights, o_waiting_number, o_waiting_stocking, o_log_length, o_log_block, o_log_knots))) (fun (w : (Nat → Int32) × Int32 × (Nat → Int32) × (Nat → Int32) × Int32 × Int32 × Int32 × Int32 × Int64) t => va_P (dC, dI) classes [(q0, .inr (3, [.ref q1, .ref q3, .ref q6, .ref q7, .int told])), (q1, .inr (4, [.ref q2, .int w.2.1, .int shelf_day])), (q2, .inl (cc 0, 50, .inl w.1)), (q3, .inr (6, [.ref q4, .ref q5, .int w.2.2.2.2.1, .int w.2.2.2.2.2.1])), (q4, .inl (cc 0, 5, .inl w.2.2.1)), (q5, .inl (cc 0, 5, .inl w.2.2.2.1)), (q6, .inr (0, [.int w.2.2.2.2.2.2.1, .int w.2.2.2.2.2.2.2.1, .long w.2.2.2.2.2.2.2.2])), (q7, .inl (cc 0, 4, .inl numbers))] t.heap) A) (by decide) (Nat.le_of_ble_eq_true rfl) ?_
  intro p e s m below meth c A ls H locs hC hr hlk hin hA hP hl _
  have hC : CX p m c cX3_take 2 s ([.ref q0, .int x1] : List Value).toArray RX3 (dC, dI) (ts cc) := hC
  have hx := hC.1.1
  have hb := hC.1.2
  have h := hu
  have hu0 := hu
  unfold f_X3_take at h
  have hl : lv_has ls 2 [(0, .ref q0), (1, .int x1)] := hl
  refine lv_iload_n hx hb dX3_take_0 rfl (lv_at hl 1 rfl) ?_
  by_cases c1 : x1 = 99
  · have h := if_t c1 h
    refine lv_lookup (tgt := 52) hx hb dX3_take_1 (by decide) (by first | (rw [c1]; done) | (rw [c1]; rfl)) (by decide) ?_
    refine lv_aload_n hx hb dX3_take_52 rfl (lv_at hl 0 rfl) ?_
    obtain ⟨⟨r2, w3, w4⟩, hu, h⟩ := bnd_h h
    refine kc_z (kV hC (c_X3_takeClog l dC dI cc q0 q1 q3 q6 q7 q2 told shelf_clogs shelf_day shelf_cells numbers H.size r2 w3 w4 hu) cv_X3_69 kw329 rfl rfl ⟨(Nat.le_of_ble_eq_true rfl), (Nat.le_of_ble_eq_true rfl)⟩ hP [0, 1, 2, 7] rfl rfl rfl (q0 := 0) rfl (As := []) (rest := []) rfl rfl hl.1 (Nat.le_of_ble_eq_true rfl) dX3_take_53 ⟨Nat.zero_le _, Nat.zero_le _⟩) hP hA [0, 1, 2, 7] rfl rfl (fun hz_r2 H locs hP => ?_)
    have hP : PD (dC, dI) A s.heap [(q0, .inr (3, [.ref q1, .ref q3, .ref q6, .ref q7, .int told])), (q1, .inr (4, [.ref q2, .int w4, .int shelf_day])), (q2, .inl (cc 0, 50, .inl w3)), (q3, .inr (6, [.ref q4, .ref q5, .int waiting_number, .int waiting_stocking])), (q4, .inl (cc 0, 5, .inl waiting_lefts)), (q5, .inl (cc 0, 5, .inl waiting_rights)), (q6, .inr (0, [.int log_length, .int log_block, .long log_knots])), (q7, .inl (cc 0, 4, .inl numbers))] H locs := hP
    exact ret_z hC hr hz_r2 hlk hP dX3_take_56 (w3, w4, waiting_lefts, waiting_rights, waiting_number, waiting_stocking, log_length, log_block, log_knots) (Prod.mk.inj (Option.some.inj h)) rfl
  · have h := if_f c1 h
    by_cases c5 : x1 = 102
    · have h := if_t c5 h
      refine lv_lookup (tgt := 57) hx hb dX3_take_1 (by decide) (by first | (rw [c5]; done) | (rw [c5]; rfl)) (by decide) ?_
      refine lv_aload_n hx hb dX3_take_57 rfl (lv_at hl 0 rfl) ?_
      obtain ⟨⟨r6, w7, w8, w9⟩, hu, h⟩ := bnd_h h
      refine kc_z (kV hC (c_X3_takeFeet l dC dI cc q0 q1 q3 q6 q7 q4 q5 told waiting_number waiting_stocking waiting_lefts waiting_rights numbers H.size r6 w7 w8 w9 hu) cv_X3_73 kw350 rfl rfl ⟨(Nat.le_of_ble_eq_true rfl), (Nat.le_of_ble_eq_true rfl)⟩ hP [0, 3, 4, 5, 7] rfl rfl rfl (q0 := 0) rfl (As := []) (rest := []) rfl rfl hl.1 (Nat.le_of_ble_eq_true rfl) dX3_take_58 ⟨Nat.zero_le _, Nat.zero_le _⟩) hP hA [0, 3, 4, 5, 7] rfl rfl (fun hz_r6 H locs hP => ?_)
      have hP : PD (dC, dI) A s.heap [(q0, .inr (3, [.ref q1, .ref q3, .ref q6, .ref q7, .int told])), (q1, .inr (4, [.ref q2, .int shelf_clogs, .int shelf_day])), (q2, .inl (cc 0, 50, .inl shelf_cells)), (q3, .inr (6, [.ref q4, .ref q5, .int w9, .int waiting_stocking])), (q4, .inl (cc 0, 5, .inl w7)), (q5, .inl (cc 0, 5, .inl w8)), (q6, .inr (0, [.int log_length, .int log_block, .long log_knots])), (q7, .inl (cc 0, 4, .inl numbers))] H locs := hP
      exact ret_z hC hr hz_r6 hlk hP dX3_take_61 (shelf_cells, shelf_clogs, w7, w8, w9, waiting_stocking, log_length, log_block, log_knots) (Prod.mk.inj (Option.some.inj h)) rfl
    · have h := if_f c5 h
      by_cases c10 : x1 = 103
      · have h := if_t c10 h
        refine lv_lookup (tgt := 62) hx hb dX3_take_1 (by decide) (by first | (rw [c10]; done) | (rw [c10]; rfl)) (by decide) ?_
        refine lv_aload_n hx hb dX3_take_62 rfl (lv_at hl 0 rfl) ?_
        obtain ⟨⟨r11, w12, w13⟩, hu, h⟩ := bnd_h h
        refine kc_z (kV hC (c_X3_takeLog l dC dI cc q0 q1 q3 q6 q7 told log_length log_block log_knots numbers H.size r11 w12 w13 hu) cv_X3_76 kw360 rfl rfl ⟨(Nat.le_of_ble_eq_true rfl), (Nat.le_of_ble_eq_true rfl)⟩ hP [0, 6, 7] rfl rfl rfl (q0 := 0) rfl (As := []) (rest := []) rfl rfl hl.1 (Nat.le_of_ble_eq_true rfl) dX3_take_63 ⟨Nat.zero_le _, Nat.zero_le _⟩) hP hA [0, 6, 7] rfl rfl (fun hz_r11 H locs hP => ?_)
        have hP : PD (dC, dI) A s.heap [(q0, .inr (3, [.ref q1, .ref q3, .ref q6, .ref q7, .int told])), (q1, .inr (4, [.ref q2, .int shelf_clogs, .int shelf_day])), (q2, .inl (cc 0, 50, .inl shelf_cells)), (q3, .inr (6, [.ref q4, .ref q5, .int waiting_number, .int waiting_stocking])), (q4, .inl (cc 0, 5, .inl waiting_lefts)), (q5, .inl (cc 0, 5, .inl waiting_rights)), (q6, .inr (0, [.int w12, .int w13, .long log_knots])), (q7, .inl (cc 0, 4, .inl numbers))] H locs := hP
        exact ret_z hC hr hz_r11 hlk hP dX3_take_66 (shelf_cells, shelf_clogs, waiting_lefts, waiting_rights, waiting_number, waiting_stocking, w12, w13, log_knots) (Prod.mk.inj (Option.some.inj h)) rfl
      · have h := if_f c10 h
        by_cases c14 : x1 = 107
        · have h := if_t c14 h
          refine lv_lookup (tgt := 67) hx hb dX3_take_1 (by decide) (by first | (rw [c14]; done) | (rw [c14]; rfl)) (by decide) ?_
          refine lv_aload_n hx hb dX3_take_67 rfl (lv_at hl 0 rfl) ?_
          obtain ⟨⟨r15, w16⟩, hu, h⟩ := bnd_h h
          refine kc_z (kV hC (c_X3_takeKnot l dC dI cc q0 q1 q3 q6 q7 told log_length log_block log_knots numbers H.size r15 w16 hu) cv_X3_79 kw364 rfl rfl ⟨(Nat.le_of_ble_eq_true rfl), (Nat.le_of_ble_eq_true rfl)⟩ hP [0, 6, 7] rfl rfl rfl (q0 := 0) rfl (As := []) (rest := []) rfl rfl hl.1 (Nat.le_of_ble_eq_true rfl) dX3_take_68 ⟨Nat.zero_le _, Nat.zero_le _⟩) hP hA [0, 6, 7] rfl rfl (fun hz_r15 H locs hP => ?_)
          have hP : PD (dC, dI) A s.heap [(q0, .inr (3, [.ref q1, .ref q3, .ref q6, .ref q7, .int told])), (q1, .inr (4, [.ref q2, .int shelf_clogs, .int shelf_day])), (q2, .inl (cc 0, 50, .inl shelf_cells)), (q3, .inr (6, [.ref q4, .ref q5, .int waiting_number, .int waiting_stocking])), (q4, .inl (cc 0, 5, .inl waiting_lefts)), (q5, .inl (cc 0, 5, .inl waiting_rights)), (q6, .inr (0, [.int log_length, .int log_block, .long w16])), (q7, .inl (cc 0, 4, .inl numbers))] H locs := hP
          exact ret_z hC hr hz_r15 hlk hP dX3_take_71 (shelf_cells, shelf_clogs, waiting_lefts, waiting_rights, waiting_number, waiting_stocking, log_length, log_block, w16) (Prod.mk.inj (Option.some.inj h)) rfl
        · have h := if_f c14 h
          by_cases c17 : x1 = 115
          · have h := if_t c17 h
            refine lv_lookup (tgt := 72) hx hb dX3_take_1 (by decide) (by first | (rw [c17]; done) | (rw [c17]; rfl)) (by decide) ?_
            refine lv_aload_n hx hb dX3_take_72 rfl (lv_at hl 0 rfl) ?_
            obtain ⟨⟨r18, w19⟩, hu, h⟩ := bnd_h h
            refine kc_z (kV hC (c_X3_takeStocking l dC dI cc q0 q1 q3 q6 q7 q4 q5 told waiting_number waiting_stocking numbers H.size r18 w19 hu) cv_X3_82 kw368 rfl rfl ⟨(Nat.le_of_ble_eq_true rfl), (Nat.le_of_ble_eq_true rfl)⟩ hP [0, 3, 7] rfl rfl rfl (q0 := 0) rfl (As := []) (rest := []) rfl rfl hl.1 (Nat.le_of_ble_eq_true rfl) dX3_take_73 ⟨Nat.zero_le _, Nat.zero_le _⟩) hP hA [0, 3, 7] rfl rfl (fun hz_r18 H locs hP => ?_)
            have hP : PD (dC, dI) A s.heap [(q0, .inr (3, [.ref q1, .ref q3, .ref q6, .ref q7, .int told])), (q1, .inr (4, [.ref q2, .int shelf_clogs, .int shelf_day])), (q2, .inl (cc 0, 50, .inl shelf_cells)), (q3, .inr (6, [.ref q4, .ref q5, .int waiting_number, .int w19])), (q4, .inl (cc 0, 5, .inl waiting_lefts)), (q5, .inl (cc 0, 5, .inl waiting_rights)), (q6, .inr (0, [.int log_length, .int log_block, .long log_knots])), (q7, .inl (cc 0, 4, .inl numbers))] H locs := hP
            exact ret_z hC hr hz_r18 hlk hP dX3_take_76 (shelf_cells, shelf_clogs, waiting_lefts, waiting_rights, waiting_number, w19, log_length, log_block, log_knots) (Prod.mk.inj (Option.some.inj h)) rfl
          · have h := if_f c17 h
            refine lv_lookup (tgt := 77) hx hb dX3_take_1 (by decide) (sw_out_X3_take_1 c1 c5 c10 c14 c17) (by decide) ?_
            refine lv_iconst (v := 0) hx hb dX3_take_77 (by decide) ?_
            exact ret_z hC hr rfl hlk hP dX3_take_78 (shelf_cells, shelf_clogs, waiting_lefts, waiting_rights, waiting_number, waiting_stocking, log_length, log_block, log_knots) (Prod.mk.inj (Option.some.inj h)) rfl
set_option maxHeartbeats 8000000 in
set_option maxRecDepth 100000 in
theorem c_X3_read (l : Launch) (dC : Nat → ClassId) (dI : Nat → Nat → Nat) (cc : Nat → ClassId) (q0 q1 q3 q6 q7 q2 q4 q5 q8 q9 : Nat) (told : Int32) (shelf_clogs : Int32) (shelf_day : Int32) (shelf_cells : (Nat → Int32)) (waiting_number : Int32) (waiting_stocking : Int32) (waiting_lefts : (Nat → Int32)) (waiting_rights : (Nat → Int32)) (log_length : Int32) (log_block : Int32) (log_knots : Int64) (numbers : (Nat → Int32)) (o1_length : Int32) (o1_letters : (Nat → Int32)) (sz : Nat) (ret : Int32) (o_shelf_cells : (Nat → Int32)) (o_shelf_clogs : Int32) (o_shelf_day : Int32) (o_waiting_lefts : (Nat → Int32)) (o_waiting_rights : (Nat → Int32)) (o_waiting_number : Int32) (o_waiting_stocking : Int32) (o_log_length : Int32) (o_log_block : Int32) (o_log_knots : Int64) (o_numbers : (Nat → Int32)) (o_told : Int32) (hu : f_X3_read told shelf_cells waiting_lefts waiting_rights numbers o1_length o1_letters = some (ret, o_shelf_cells, o_shelf_clogs, o_shelf_day, o_waiting_lefts, o_waiting_rights, o_waiting_number, o_waiting_stocking, o_log_length, o_log_block, o_log_knots, o_numbers, o_told)) : Met l yX3_read (mw yX3_read cX3_read 5 (some .int)) ({ frames := 4, cells := 0, slots := 0, locals := 88 } : Room) (va_Pc [.ref q0, .ref q8] (mP (dC, dI) (ts cc) sz [(q0, .inr (3, [.ref q1, .ref q3, .ref q6, .ref q7, .int told])), (q1, .inr (4, [.ref q2, .int shelf_clogs, .int shelf_day])), (q2, .inl (cc 0, 50, .inl shelf_cells)), (q3, .inr (6, [.ref q4, .ref q5, .int waiting_number, .int waiting_stocking])), (q4, .inl (cc 0, 5, .inl waiting_lefts)), (q5, .inl (cc 0, 5, .inl waiting_rights)), (q6, .inr (0, [.int log_length, .int log_block, .long log_knots])), (q7, .inl (cc 0, 4, .inl numbers)), (q8, .inr (5, [.ref q9, .int o1_length])), (q9, .inl (cc 1, 200, .inl o1_letters))])) ((fun A => va_Qi (fun (r : Int32) (w : (Nat → Int32) × Int32 × Int32 × (Nat → Int32) × (Nat → Int32) × Int32 × Int32 × Int32 × Int32 × Int64 × (Nat → Int32) × Int32) => r = ret ∧ w = (o_shelf_cells, o_shelf_clogs, o_shelf_day, o_waiting_lefts, o_waiting_rights, o_waiting_number, o_waiting_stocking, o_log_length, o_log_block, o_log_knots, o_numbers, o_told)) (fun (w : (Nat → Int32) × Int32 × Int32 × (Nat → Int32) × (Nat → Int32) × Int32 × Int32 × Int32 × Int32 × Int64 × (Nat → Int32) × Int32) t => va_P (dC, dI) classes [(q0, .inr (3, [.ref q1, .ref q3, .ref q6, .ref q7, .int w.2.2.2.2.2.2.2.2.2.2.2])), (q1, .inr (4, [.ref q2, .int w.2.1, .int w.2.2.1])), (q2, .inl (cc 0, 50, .inl w.1)), (q3, .inr (6, [.ref q4, .ref q5, .int w.2.2.2.2.2.1, .int w.2.2.2.2.2.2.1])), (q4, .inl (cc 0, 5, .inl w.2.2.2.1)), (q5, .inl (cc 0, 5, .inl w.2.2.2.2.1)), (q6, .inr (0, [.int w.2.2.2.2.2.2.2.1, .int w.2.2.2.2.2.2.2.2.1, .long w.2.2.2.2.2.2.2.2.2.1])), (q7, .inl (cc 0, 4, .inl w.2.2.2.2.2.2.2.2.2.2.1)), (q8, .inr (5, [.ref q9, .int o1_length])), (q9, .inl (cc 1, 200, .inl o1_letters))] t.heap) A) (va_A [(q0, .inr (3, [.ref q1, .ref q3, .ref q6, .ref q7, .int told])), (q1, .inr (4, [.ref q2, .int shelf_clogs, .int shelf_day])), (q2, .inl (cc 0, 50, .inl shelf_cells)), (q3, .inr (6, [.ref q4, .ref q5, .int waiting_number, .int waiting_stocking])), (q4, .inl (cc 0, 5, .inl waiting_lefts)), (q5, .inl (cc 0, 5, .inl waiting_rights)), (q6, .inr (0, [.int log_length, .int log_block, .long log_knots])), (q7, .inl (cc 0, 4, .inl numbers)), (q8, .inr (5, [.ref q9, .int o1_length])), (q9, .inl (cc 1, 200, .inl o1_letters))] sz)) 0 0 (va_A [(q0, .inr (3, [.ref q1, .ref q3, .ref q6, .ref q7, .int told])), (q1, .inr (4, [.ref q2, .int shelf_clogs, .int shelf_day])), (q2, .inl (cc 0, 50, .inl shelf_cells)), (q3, .inr (6, [.ref q4, .ref q5, .int waiting_number, .int waiting_stocking])), (q4, .inl (cc 0, 5, .inl waiting_lefts)), (q5, .inl (cc 0, 5, .inl waiting_rights)), (q6, .inr (0, [.int log_length, .int log_block, .long log_knots])), (q7, .inl (cc 0, 4, .inl numbers)), (q8, .inr (5, [.ref q9, .int o1_length])), (q9, .inl (cc 1, 200, .inl o1_letters))] sz) := by
  refine met_go (Qc := fun A => va_Qi (fun (r : Int32) (w : (Nat → Int32) × Int32 × Int32 × (Nat → Int32) × (Nat → Int32) × Int32 × Int32 × Int32 × Int32 × Int64 × (Nat → Int32) × Int32) => r = ret ∧ w = (o_shelf_cells, o_shelf_clogs, o_shelf_day, o_waiting_lefts, o_waiting_rights, o_waiting_number, o_waiting_stocking, o_log_length, o_log_block, o_log_knots, o_numbers, o_told)) (fun (w : (Nat → Int32) × Int32 × Int32 × (Nat → Int32) × (Nat → Int32) × Int32 × Int32 × Int32 × Int32 × Int64 × (Nat → Int32) × Int32) t => va_P (dC, dI) classes [(q0, .inr (3, [.ref q1, .ref q3, .ref q6, .ref q7, .int w.2.2.2.2.2.2.2.2.2.2.2])), (q1, .inr (4, [.ref q2, .int w.2.1, .int w.2.2.1])), (q2, .inl (cc 0, 50, .inl w.1)), (q3, .inr (6, [.ref q4, .ref q5, .int w.2.2.2.2.2.1, .int w.2.2.2.2.2.2.1])), (q4, .inl (cc 0, 5, .inl w.2.2.2.1)), (q5, .inl (cc 0, 5, .inl w.2.2.2.2.1)), (q6, .inr (0, [.int w.2.2.2.2.2.2.2.1, .int w.2.2.2.2.2.2.2.2.1, .long w.2.2.2.2.2.2.2.2.2.1])), (q7, .inl (cc 0, 4, .inl w.2.2.2.2.2.2.2.2.2.2.1)), (q8, .inr (5, [.ref q9, .int o1_length])), (q9, .inl (cc 1, 200, .inl o1_letters))] t.heap) A) (by decide) (Nat.le_of_ble_eq_true rfl) ?_
  intro p e s m below meth c A ls H locs hC hr hlk hin hA hP hl _
  have hC : CX p m c cX3_read 5 s ([.ref q0, .ref q8] : List Value).toArray RX3 (dC, dI) (ts cc) := hC
  have hx := hC.1.1
  have hb := hC.1.2
  have h := hu
  have hu0 := hu
  unfold f_X3_read at h
  have hl : lv_has ls 5 [(0, .ref q0), (1, .ref q8)] := hl
  refine W_abs (fun Z eZ => ?_)
  refine lv_aload_n hx hb dX3_read_0 rfl (lv_at hl 0 rfl) ?_
  refine g_get hC hP fg_X3_12 0 rfl rfl dX3_read_1 ?_
  obtain ⟨⟨w1, w2⟩, hu, h⟩ := bnd_h h
  refine kc_v (kV hC (c_X4_clear l dC dI cc q1 q2 shelf_clogs shelf_day H.size w1 w2 hu) cv_X3_36 kw297 rfl rfl ⟨(Nat.le_of_ble_eq_true rfl), (Nat.le_of_ble_eq_true rfl)⟩ hP [1] rfl rfl rfl (q0 := 1) rfl (As := []) (rest := []) rfl rfl hl.1 (Nat.le_of_ble_eq_true rfl) dX3_read_4 ⟨Nat.zero_le _, Nat.zero_le _⟩) hP hA [1] rfl rfl (fun H locs hP => ?_)
  have hP : PD (dC, dI) A s.heap [(q0, .inr (3, [.ref q1, .ref q3, .ref q6, .ref q7, .int told])), (q1, .inr (4, [.ref q2, .int w1, .int w2])), (q2, .inl (cc 0, 50, .inl shelf_cells)), (q3, .inr (6, [.ref q4, .ref q5, .int waiting_number, .int waiting_stocking])), (q4, .inl (cc 0, 5, .inl waiting_lefts)), (q5, .inl (cc 0, 5, .inl waiting_rights)), (q6, .inr (0, [.int log_length, .int log_block, .long log_knots])), (q7, .inl (cc 0, 4, .inl numbers)), (q8, .inr (5, [.ref q9, .int o1_length])), (q9, .inl (cc 1, 200, .inl o1_letters))] H locs := hP
  refine lv_aload_n hx hb dX3_read_7 rfl (lv_at hl 0 rfl) ?_
  refine g_get hC hP fg_X3_21 0 rfl rfl dX3_read_8 ?_
  obtain ⟨⟨w3, w4⟩, hu, h⟩ := bnd_h h
  refine kc_v (kV hC (c_X6_clear l dC dI cc q3 q4 q5 waiting_number waiting_stocking H.size w3 w4 hu) cv_X3_39 kw301 rfl rfl ⟨(Nat.le_of_ble_eq_true rfl), (Nat.le_of_ble_eq_true rfl)⟩ hP [3] rfl rfl rfl (q0 := 3) rfl (As := []) (rest := []) rfl rfl hl.1 (Nat.le_of_ble_eq_true rfl) dX3_read_11 ⟨Nat.zero_le _, Nat.zero_le _⟩) hP hA [3] rfl rfl (fun H locs hP => ?_)
  have hP : PD (dC, dI) A s.heap [(q0, .inr (3, [.ref q1, .ref q3, .ref q6, .ref q7, .int told])), (q1, .inr (4, [.ref q2, .int w1, .int w2])), (q2, .inl (cc 0, 50, .inl shelf_cells)), (q3, .inr (6, [.ref q4, .ref q5, .int w3, .int w4])), (q4, .inl (cc 0, 5, .inl waiting_lefts)), (q5, .inl (cc 0, 5, .inl waiting_rights)), (q6, .inr (0, [.int log_length, .int log_block, .long log_knots])), (q7, .inl (cc 0, 4, .inl numbers)), (q8, .inr (5, [.ref q9, .int o1_length])), (q9, .inl (cc 1, 200, .inl o1_letters))] H locs := hP
  refine lv_aload_n hx hb dX3_read_14 rfl (lv_at hl 0 rfl) ?_
  refine g_get hC hP fg_X3_28 0 rfl rfl dX3_read_15 ?_
  obtain ⟨⟨w5, w6, w7⟩, hu, h⟩ := bnd_h h
  refine kc_v (kV hC (c_X0_clear l dC dI cc q6 log_length log_block log_knots H.size w5 w6 w7 hu) cv_X3_40 kw305 rfl rfl ⟨(Nat.le_of_ble_eq_true rfl), (Nat.le_of_ble_eq_true rfl)⟩ hP [6] rfl rfl rfl (q0 := 6) rfl (As := []) (rest := []) rfl rfl hl.1 (Nat.le_of_ble_eq_true rfl) dX3_read_18 ⟨Nat.zero_le _, Nat.zero_le _⟩) hP hA [6] rfl rfl (fun H locs hP => ?_)
  have hP : PD (dC, dI) A s.heap [(q0, .inr (3, [.ref q1, .ref q3, .ref q6, .ref q7, .int told])), (q1, .inr (4, [.ref q2, .int w1, .int w2])), (q2, .inl (cc 0, 50, .inl shelf_cells)), (q3, .inr (6, [.ref q4, .ref q5, .int w3, .int w4])), (q4, .inl (cc 0, 5, .inl waiting_lefts)), (q5, .inl (cc 0, 5, .inl waiting_rights)), (q6, .inr (0, [.int w5, .int w6, .long w7])), (q7, .inl (cc 0, 4, .inl numbers)), (q8, .inr (5, [.ref q9, .int o1_length])), (q9, .inl (cc 1, 200, .inl o1_letters))] H locs := hP
  refine lv_aload_n hx hb dX3_read_21 rfl (lv_at hl 1 rfl) ?_
  refine lv_ifnonnull (tgt := 28) hx hb dX3_read_22 (by decide) ?_
  refine lv_iconst (v := 0) hx hb dX3_read_28 (by decide) ?_
  refine lv_istore_n (lv' := [(2, .int 0), (0, .ref q0), (1, .ref q8)]) hx hb dX3_read_29 rfl hl (by decide) rfl (fun ls hl => ?_)
  refine lv_iconst (v := 0) hx hb dX3_read_30 (by decide) ?_
  refine lv_istore_n (lv' := [(3, .int 0), (2, .int 0), (0, .ref q0), (1, .ref q8)]) hx hb dX3_read_31 rfl hl (by decide) rfl (fun ls hl => ?_)
  obtain ⟨z, hlp, hk, hj⟩ := bndE_h h
  have L1 : ∀ (n : Nat) (j8 : Int32) (j9 : Int32) (w10 : Int32) (w11 : Int32) (w12 : (Nat → Int32)) (w13 : Int32) (w14 : Int32) (w15 : (Nat → Int32)) (w16 : (Nat → Int32)) (w17 : Int32) (w18 : Int32) (w19 : Int64) (w20 : (Nat → Int32)) (z : ((Int32 × Int32 × Int32 × Int32 × (Nat → Int32) × Int32 × Int32 × (Nat → Int32) × (Nat → Int32) × Int32 × Int32 × Int64 × (Nat → Int32)) ⊕ (Int32 × (Nat → Int32) × Int32 × Int32 × (Nat → Int32) × (Nat → Int32) × Int32 × Int32 × Int32 × Int32 × Int64 × (Nat → Int32) × Int32))), lp (u13 (b_X3_read_1 o1_length o1_letters w2)) n (j8, j9, w10, w11, w12, w13, w14, w15, w16, w17, w18, w19, w20) = some z → ∀ (H : Heap) (locs : List Loc) (ls : Array Slot), PD (dC, dI) A s.heap [(q0, .inr (3, [.ref q1, .ref q3, .ref q6, .ref q7, .int w10])), (q1, .inr (4, [.ref q2, .int w11, .int w2])), (q2, .inl (cc 0, 50, .inl w12)), (q3, .inr (6, [.ref q4, .ref q5, .int w13, .int w14])), (q4, .inl (cc 0, 5, .inl w15)), (q5, .inl (cc 0, 5, .inl w16)), (q6, .inr (0, [.int w17, .int w18, .long w19])), (q7, .inl (cc 0, 4, .inl w20)), (q8, .inr (5, [.ref q9, .int o1_length])), (q9, .inl (cc 1, 200, .inl o1_letters))] H locs → lv_has ls 5 [(0, .ref q0), (1, .ref q8), (2, .int j8), (3, .int j9)] → (∀ (j8x : Int32) (j9x : Int32) (w10x : Int32) (w11x : Int32) (w12x : (Nat → Int32)) (w13x : Int32) (w14x : Int32) (w15x : (Nat → Int32)) (w16x : (Nat → Int32)) (w17x : Int32) (w18x : Int32) (w19x : Int64) (w20x : (Nat → Int32)), z = .inl (j8x, j9x, w10x, w11x, w12x, w13x, w14x, w15x, w16x, w17x, w18x, w19x, w20x) → ∀ (H : Heap) (locs : List Loc) (ls : Array Slot), PD (dC, dI) A s.heap [(q0, .inr (3, [.ref q1, .ref q3, .ref q6, .ref q7, .int w10x])), (q1, .inr (4, [.ref q2, .int w11x, .int w2])), (q2, .inl (cc 0, 50, .inl w12x)), (q3, .inr (6, [.ref q4, .ref q5, .int w13x, .int w14x])), (q4, .inl (cc 0, 5, .inl w15x)), (q5, .inl (cc 0, 5, .inl w16x)), (q6, .inr (0, [.int w17x, .int w18x, .long w19x])), (q7, .inl (cc 0, 4, .inl w20x)), (q8, .inr (5, [.ref q9, .int o1_length])), (q9, .inl (cc 1, 200, .inl o1_letters))] H locs → lv_has ls 5 [(0, .ref q0), (1, .ref q8), (2, .int j8x), (3, .int j9x)] → W p l e ({ frames := 4, cells := 0, slots := 0, locals := 88 } : Room) s m ([.ref q0, .ref q8] : List Value).toArray below meth c H locs 0 0 Z (F0 m 85 ls [])) → (∀ q, z = .inr q → q = (ret, o_shelf_cells, o_shelf_clogs, o_shelf_day, o_waiting_lefts, o_waiting_rights, o_waiting_number, o_waiting_stocking, o_log_length, o_log_block, o_log_knots, o_numbers, o_told)) → W p l e ({ frames := 4, cells := 0, slots := 0, locals := 88 } : Room) s m ([.ref q0, .ref q8] : List Value).toArray below meth c H locs 0 0 Z (F0 m 32 ls []) := by
    intro n
    induction n with
    | zero => intro j8 j9 w10 w11 w12 w13 w14 w15 w16 w17 w18 w19 w20 z h; exact (lp_0 h).elim
    | succ n ih =>
      intro j8 j9 w10 w11 w12 w13 w14 w15 w16 w17 w18 w19 w20 z h H locs ls hP hl KK KR
      obtain ⟨y, h, hz⟩ := lp_h h
      refine lv_iload_n hx hb dX3_read_32 rfl (lv_at hl 3 rfl) ?_
      refine lv_sipush (v := 200) hx hb dX3_read_33 (by decide) ?_
      refine lv_icmp_ge (tgt := 85) hx hb dX3_read_36 (by decide) (fun c21 => ?_) (fun c21 => ?_)
      · have h := if_t c21 h
        exact KK j8 j9 w10 w11 w12 w13 w14 w15 w16 w17 w18 w19 w20 (lp_e h hz).symm H locs ls hP (lv_sub hl [0, 1, 2, 3] rfl)
      · have h := if_f c21 h
        refine lv_iload_n hx hb dX3_read_39 rfl (lv_at hl 2 rfl) ?_
        refine lv_aload_n hx hb dX3_read_40 rfl (lv_at hl 1 rfl) ?_
        refine g_get hC hP fg_X3_41 8 rfl rfl dX3_read_41 ?_
        refine lv_icmp_ge (tgt := 85) hx hb dX3_read_44 (by decide) (fun c22 => ?_) (fun c22 => ?_)
        · have h := if_t c22 h
          exact KK j8 j9 w10 w11 w12 w13 w14 w15 w16 w17 w18 w19 w20 (lp_e h hz).symm H locs ls hP (lv_sub hl [0, 1, 2, 3] rfl)
        · have h := if_f c22 h
          refine lv_aload_n hx hb dX3_read_47 rfl (lv_at hl 0 rfl) ?_
          refine lv_aload_n hx hb dX3_read_48 rfl (lv_at hl 1 rfl) ?_
          refine lv_iload_n hx hb dX3_read_49 rfl (lv_at hl 2 rfl) ?_
          refine lv_iconst (v := 1) hx hb dX3_read_50 (by decide) ?_
          refine lv_iadd hx hb dX3_read_51 ?_
          obtain ⟨⟨r23, w24, w25⟩, hu, h⟩ := bnd_h h
          refine kc_i (kV hC (c_X3_readNumbers l dC dI cc q0 q1 q3 q6 q7 q8 q9 w10 w20 o1_length o1_letters (j8 + 1) H.size r23 w24 w25 hu) cv_X3_47 kw309 rfl rfl ⟨(Nat.le_of_ble_eq_true rfl), (Nat.le_of_ble_eq_true rfl)⟩ hP [0, 7, 8, 9] rfl rfl rfl (q0 := 0) rfl (As := [.ref q8, .int (j8 + 1)]) (rest := []) rfl rfl hl.1 (Nat.le_of_ble_eq_true rfl) dX3_read_52 ⟨Nat.zero_le _, Nat.zero_le _⟩) hP hA [0, 7, 8, 9] rfl rfl (fun H locs hP => ?_)
          have hP : PD (dC, dI) A s.heap [(q0, .inr (3, [.ref q1, .ref q3, .ref q6, .ref q7, .int w25])), (q1, .inr (4, [.ref q2, .int w11, .int w2])), (q2, .inl (cc 0, 50, .inl w12)), (q3, .inr (6, [.ref q4, .ref q5, .int w13, .int w14])), (q4, .inl (cc 0, 5, .inl w15)), (q5, .inl (cc 0, 5, .inl w16)), (q6, .inr (0, [.int w17, .int w18, .long w19])), (q7, .inl (cc 0, 4, .inl w24)), (q8, .inr (5, [.ref q9, .int o1_length])), (q9, .inl (cc 1, 200, .inl o1_letters))] H locs := hP
          refine lv_istore (lv' := [(4, .int r23), (0, .ref q0), (1, .ref q8), (2, .int j8), (3, .int j9)]) hx hb dX3_read_55 hl (by decide) rfl (fun ls hl => ?_)
          refine lv_iload hx hb dX3_read_57 (lv_at hl 0 rfl) ?_
          refine lv_if_lt (tgt := 74) hx hb dX3_read_59 (by decide) (fun c26 => ?_) (fun c26 => ?_)
          · have h := if_t c26 h
            refine lv_iload_n hx hb dX3_read_74 rfl (lv_at hl 3 rfl) ?_
            rw [eZ]
            exact ret_i hC hr hlk hP dX3_read_75 (w12, w11, w2, w15, w16, w13, w14, w17, w18, w19, w24, w25) (Prod.mk.inj (KR _ (lp_e h hz).symm)) rfl
          · have h := if_f c26 h
            refine lv_aload_n hx hb dX3_read_62 rfl (lv_at hl 1 rfl) ?_
            refine lv_aload_n hx hb dX3_read_63 rfl (lv_at hl 2 rfl) ?_
            refine lv_iload_n hx hb dX3_read_64 rfl (lv_at hl 3 rfl) ?_
            obtain ⟨r27, hu, h⟩ := bnd_h h
            refine kc_i (kV hC (c_X5_letterAt l dC dI cc q8 q9 o1_length o1_letters j8 H.size r27 hu) cv_X3_51 kw317 rfl rfl ⟨(Nat.le_of_ble_eq_true rfl), (Nat.le_of_ble_eq_true rfl)⟩ hP [8, 9] rfl rfl rfl (q0 := 8) rfl (As := [.int j8]) (rest := [.ref q0]) rfl rfl hl.1 (Nat.le_of_ble_eq_true rfl) dX3_read_65 ⟨Nat.zero_le _, Nat.zero_le _⟩) hP hA [8, 9] rfl rfl (fun H locs hP => ?_)
            have hP : PD (dC, dI) A s.heap [(q0, .inr (3, [.ref q1, .ref q3, .ref q6, .ref q7, .int w25])), (q1, .inr (4, [.ref q2, .int w11, .int w2])), (q2, .inl (cc 0, 50, .inl w12)), (q3, .inr (6, [.ref q4, .ref q5, .int w13, .int w14])), (q4, .inl (cc 0, 5, .inl w15)), (q5, .inl (cc 0, 5, .inl w16)), (q6, .inr (0, [.int w17, .int w18, .long w19])), (q7, .inl (cc 0, 4, .inl w24)), (q8, .inr (5, [.ref q9, .int o1_length])), (q9, .inl (cc 1, 200, .inl o1_letters))] H locs := hP
            obtain ⟨⟨r28, w29, w30, w31, w32, w33, w34, w35, w36, w37⟩, hu, h⟩ := bnd_h h
            refine kc_z (kV hC (c_X3_take l dC dI cc q0 q1 q3 q6 q7 q2 q4 q5 w25 w11 w2 w12 w13 w14 w15 w16 w17 w18 w19 w24 r27 H.size r28 w29 w30 w31 w32 w33 w34 w35 w36 w37 hu) cv_X3_55 kw325 rfl rfl ⟨(Nat.le_of_ble_eq_true rfl), (Nat.le_of_ble_eq_true rfl)⟩ hP [0, 1, 2, 3, 4, 5, 6, 7] rfl rfl rfl (q0 := 0) rfl (As := [.int r27]) (rest := []) rfl rfl hl.1 (Nat.le_of_ble_eq_true rfl) dX3_read_68 ⟨Nat.zero_le _, Nat.zero_le _⟩) hP hA [0, 1, 2, 3, 4, 5, 6, 7] rfl rfl (fun hz_r28 H locs hP => ?_)
            have hP : PD (dC, dI) A s.heap [(q0, .inr (3, [.ref q1, .ref q3, .ref q6, .ref q7, .int w25])), (q1, .inr (4, [.ref q2, .int w30, .int w2])), (q2, .inl (cc 0, 50, .inl w29)), (q3, .inr (6, [.ref q4, .ref q5, .int w33, .int w34])), (q4, .inl (cc 0, 5, .inl w31)), (q5, .inl (cc 0, 5, .inl w32)), (q6, .inr (0, [.int w35, .int w36, .long w37])), (q7, .inl (cc 0, 4, .inl w24)), (q8, .inr (5, [.ref q9, .int o1_length])), (q9, .inl (cc 1, 200, .inl o1_letters))] H locs := hP
            refine lv_if_ne (tgt := 76) hx hb dX3_read_71 (by decide) (fun c38 => ?_) (fun c38 => ?_)
            · have h := if_f c38 h
              refine lv_iload hx hb dX3_read_76 (lv_at hl 0 rfl) ?_
              refine lv_istore_n (lv' := [(2, .int r23), (4, .int r23), (0, .ref q0), (1, .ref q8), (3, .int j9)]) hx hb dX3_read_78 rfl hl (by decide) rfl (fun ls hl => ?_)
              refine lv_iinc (v := (j9 + 1)) (lv' := [(3, .int (j9 + 1)), (2, .int r23), (4, .int r23), (0, .ref q0), (1, .ref q8)]) hx hb dX3_read_79 hl (k := 4) rfl rfl (by decide) rfl (fun ls hl => ?_)
              refine lv_goto (tgt := 32) hx hb dX3_read_82 (by decide) ?_
              exact ih _ _ _ _ _ _ _ _ _ _ _ _ _ _ (lp_n h hz) H locs ls hP (lv_sub hl [3, 4, 1, 0] rfl) KK KR
            · have h := if_t c38 h
              refine lv_iload_n hx hb dX3_read_74 rfl (lv_at hl 3 rfl) ?_
              rw [eZ]
              exact ret_i hC hr hlk hP dX3_read_75 (w29, w30, w2, w31, w32, w33, w34, w35, w36, w37, w24, w25) (Prod.mk.inj (KR _ (lp_e h hz).symm)) rfl
  refine L1 FU _ _ _ _ _ _ _ _ _ _ _ _ _ z hlp H locs ls hP (lv_sub hl [2, 3, 1, 0] rfl) (fun j8x j9x w10x w11x w12x w13x w14x w15x w16x w17x w18x w19x w20x e H locs ls hP hl => ?_) (fun q e => Option.some.inj (hj q e))
  have h := hk _ e
  refine lv_bipush (v := -4) hx hb dX3_read_85 (by decide) ?_
  rw [eZ]
  exact ret_i hC hr hlk hP dX3_read_87 (w12x, w11x, w2, w15x, w16x, w13x, w14x, w17x, w18x, w19x, w20x, w10x) (Prod.mk.inj (Option.some.inj h)) rfl
