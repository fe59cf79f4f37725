theorem kw59 : Cond.fieldLink RX1 24 "LeftAndRight$Shelf" "clogs" "I" ∈ Tg := mem_Tg (List.mem_append_right _ (List.mem_of_getElem? (i := 59) (by decide +kernel))) (by decide +kernel)
theorem kw567 : Cond.methodLink RX1 30 Lib.Math.min.name ∈ Tg := mem_Tg (List.mem_append_right _ (List.mem_of_getElem? (i := 567) (by decide +kernel))) (by decide +kernel)
theorem kw568 : Cond.methodLink RX1 36 Lib.Math.max.name ∈ Tg := mem_Tg (List.mem_append_right _ (List.mem_of_getElem? (i := 568) (by decide +kernel))) (by decide +kernel)
theorem in1 : ∀ w ∈ u_ws RX1 TX1 8, w ∈ Tg := by decide +kernel
theorem kw194 : Cond.fieldLink RX1 39 "LeftAndRight$Pairing" "clogs" "I" ∈ Tg := mem_Tg (List.mem_append_right _ (List.mem_of_getElem? (i := 194) (by decide +kernel))) (by decide +kernel)
theorem kw569 : Cond.methodLink RX1 40 yX4_ofSide ∈ Tg := mem_Tg (List.mem_append_right _ (List.mem_of_getElem? (i := 569) (by decide +kernel))) (by decide +kernel)
theorem kw570 : Cond.instanceMethod yX4_ofSide ∈ Tg := mem_Tg (List.mem_append_right _ (List.mem_of_getElem? (i := 570) (by decide +kernel))) (by decide +kernel)
theorem kw571 : Cond.selects RX4 yX4_ofSide yX4_ofSide ∈ Tg := mem_Tg (List.mem_append_right _ (List.mem_of_getElem? (i := 571) (by decide +kernel))) (by decide +kernel)
theorem kw193 : Cond.fieldLink RX1 44 "LeftAndRight$Pairing" "lefts" "I" ∈ Tg := mem_Tg (List.mem_append_right _ (List.mem_of_getElem? (i := 193) (by decide +kernel))) (by decide +kernel)
theorem kw190 : Cond.fieldLink RX1 15 "LeftAndRight$Pairing" "mates" "[I" ∈ Tg := mem_Tg (List.mem_append_right _ (List.mem_of_getElem? (i := 190) (by decide +kernel))) (by decide +kernel)
theorem kw573 : Cond.methodLink RX1 47 yX4_matesOf ∈ Tg := mem_Tg (List.mem_append_right _ (List.mem_of_getElem? (i := 573) (by decide +kernel))) (by decide +kernel)
theorem kw555 : Cond.instanceMethod yX4_matesOf ∈ Tg := mem_Tg (List.mem_append_right _ (List.mem_of_getElem? (i := 555) (by decide +kernel))) (by decide +kernel)
theorem kw556 : Cond.selects RX4 yX4_matesOf yX4_matesOf ∈ Tg := mem_Tg (List.mem_append_right _ (List.mem_of_getElem? (i := 556) (by decide +kernel))) (by decide +kernel)
theorem kn24 : (RX1, 50, yX9_put, "LeftAndRight") ∈ NSt := List.mem_of_getElem? (i := 24) rfl
theorem kw191 : Cond.fieldLink RX1 18 "LeftAndRight$Pairing" "sizes" "[I" ∈ Tg := mem_Tg (List.mem_append_right _ (List.mem_of_getElem? (i := 191) (by decide +kernel))) (by decide +kernel)
theorem kw64 : Cond.fieldLink RX1 54 "LeftAndRight$Shelf" "day" "I" ∈ Tg := mem_Tg (List.mem_append_right _ (List.mem_of_getElem? (i := 64) (by decide +kernel))) (by decide +kernel)
theorem kw575 : Cond.methodLink RX1 57 yX4_sizeOn ∈ Tg := mem_Tg (List.mem_append_right _ (List.mem_of_getElem? (i := 575) (by decide +kernel))) (by decide +kernel)
theorem kn26 : (RX1, 86, yX9_at, "LeftAndRight") ∈ NSt := List.mem_of_getElem? (i := 26) rfl
theorem kw596 : Cond.methodLink RX1 97 Lib.Math.abs.name ∈ Tg := mem_Tg (List.mem_append_right _ (List.mem_of_getElem? (i := 596) (by decide +kernel))) (by decide +kernel)
theorem kw189 : Cond.fieldLink RX1 9 "LeftAndRight$Pairing" "sets" "[I" ∈ Tg := mem_Tg (List.mem_append_right _ (List.mem_of_getElem? (i := 189) (by decide +kernel))) (by decide +kernel)
theorem kw592 : Cond.methodLink RX1 94 yX1_distance ∈ Tg := mem_Tg (List.mem_append_right _ (List.mem_of_getElem? (i := 592) (by decide +kernel))) (by decide +kernel)
theorem kw594 : Cond.instanceMethod yX1_distance ∈ Tg := mem_Tg (List.mem_append_right _ (List.mem_of_getElem? (i := 594) (by decide +kernel))) (by decide +kernel)
theorem ks13 : Cond.selects RX1 yX1_distance yX1_distance ∈ Tg := mem_Tg (List.mem_append_left _ (List.mem_of_getElem? (i := 13) (by decide +kernel))) (by decide +kernel)
theorem kw10 : Cond.initialized RX1 ∈ Tg := mem_Tg (List.mem_append_right _ (List.mem_of_getElem? (i := 10) (by decide +kernel))) (by decide +kernel)
theorem kn25 : (RX1, 75, yX9_hasBit, "LeftAndRight") ∈ NSt := List.mem_of_getElem? (i := 25) rfl
theorem kw585 : Cond.static yX9_hasBit ∈ Tg := mem_Tg (List.mem_append_right _ (List.mem_of_getElem? (i := 585) (by decide +kernel))) (by decide +kernel)
theorem kw588 : Cond.methodLink RX1 90 yX1_worthOf ∈ Tg := mem_Tg (List.mem_append_right _ (List.mem_of_getElem? (i := 588) (by decide +kernel))) (by decide +kernel)
theorem kw590 : Cond.instanceMethod yX1_worthOf ∈ Tg := mem_Tg (List.mem_append_right _ (List.mem_of_getElem? (i := 590) (by decide +kernel))) (by decide +kernel)
theorem ks12 : Cond.selects RX1 yX1_worthOf yX1_worthOf ∈ Tg := mem_Tg (List.mem_append_left _ (List.mem_of_getElem? (i := 12) (by decide +kernel))) (by decide +kernel)
theorem kw192 : Cond.fieldLink RX1 21 "LeftAndRight$Pairing" "partners" "[I" ∈ Tg := mem_Tg (List.mem_append_right _ (List.mem_of_getElem? (i := 192) (by decide +kernel))) (by decide +kernel)
theorem kw195 : Cond.fieldLink RX1 69 "LeftAndRight$Pairing" "number" "I" ∈ Tg := mem_Tg (List.mem_append_right _ (List.mem_of_getElem? (i := 195) (by decide +kernel))) (by decide +kernel)
theorem kw197 : Cond.fieldLink RX1 72 "LeftAndRight$Pairing" "apart" "I" ∈ Tg := mem_Tg (List.mem_append_right _ (List.mem_of_getElem? (i := 197) (by decide +kernel))) (by decide +kernel)
theorem kw580 : Cond.methodLink RX1 60 yX1_bestWithout ∈ Tg := mem_Tg (List.mem_append_right _ (List.mem_of_getElem? (i := 580) (by decide +kernel))) (by decide +kernel)
theorem kw582 : Cond.instanceMethod yX1_bestWithout ∈ Tg := mem_Tg (List.mem_append_right _ (List.mem_of_getElem? (i := 582) (by decide +kernel))) (by decide +kernel)
theorem ks11 : Cond.selects RX1 yX1_bestWithout yX1_bestWithout ∈ Tg := mem_Tg (List.mem_append_left _ (List.mem_of_getElem? (i := 11) (by decide +kernel))) (by decide +kernel)
theorem kw597 : Cond.methodLink RX1 63 yJ7_fill_53178 ∈ Tg := mem_Tg (List.mem_append_right _ (List.mem_of_getElem? (i := 597) (by decide +kernel))) (by decide +kernel)
theorem kw598 : Cond.static yJ7_fill_53178 ∈ Tg := mem_Tg (List.mem_append_right _ (List.mem_of_getElem? (i := 598) (by decide +kernel))) (by decide +kernel)
theorem kw18 : Cond.initialized RJ7 ∈ Tg := mem_Tg (List.mem_append_right _ (List.mem_of_getElem? (i := 18) (by decide +kernel))) (by decide +kernel)
theorem kw600 : Cond.methodLink RX1 79 yX1_firstBest ∈ Tg := mem_Tg (List.mem_append_right _ (List.mem_of_getElem? (i := 600) (by decide +kernel))) (by decide +kernel)
theorem kw602 : Cond.instanceMethod yX1_firstBest ∈ Tg := mem_Tg (List.mem_append_right _ (List.mem_of_getElem? (i := 602) (by decide +kernel))) (by decide +kernel)
theorem ks14 : Cond.selects RX1 yX1_firstBest yX1_firstBest ∈ Tg := mem_Tg (List.mem_append_left _ (List.mem_of_getElem? (i := 14) (by decide +kernel))) (by decide +kernel)
theorem kw604 : Cond.methodLink RX1 82 yX1_join ∈ Tg := mem_Tg (List.mem_append_right _ (List.mem_of_getElem? (i := 604) (by decide +kernel))) (by decide +kernel)
theorem kw606 : Cond.instanceMethod yX1_join ∈ Tg := mem_Tg (List.mem_append_right _ (List.mem_of_getElem? (i := 606) (by decide +kernel))) (by decide +kernel)
theorem ks15 : Cond.selects RX1 yX1_join yX1_join ∈ Tg := mem_Tg (List.mem_append_left _ (List.mem_of_getElem? (i := 15) (by decide +kernel))) (by decide +kernel)
theorem kw641 : Cond.methodLink RX1 116 yX1_giveOnTopOf ∈ Tg := mem_Tg (List.mem_append_right _ (List.mem_of_getElem? (i := 641) (by decide +kernel))) (by decide +kernel)
theorem kw643 : Cond.instanceMethod yX1_giveOnTopOf ∈ Tg := mem_Tg (List.mem_append_right _ (List.mem_of_getElem? (i := 643) (by decide +kernel))) (by decide +kernel)
theorem ks17 : Cond.selects RX1 yX1_giveOnTopOf yX1_giveOnTopOf ∈ Tg := mem_Tg (List.mem_append_left _ (List.mem_of_getElem? (i := 17) (by decide +kernel))) (by decide +kernel)
theorem kw86 : Cond.fieldLink RX1 100 "LeftAndRight$Waiting" "number" "I" ∈ Tg := mem_Tg (List.mem_append_right _ (List.mem_of_getElem? (i := 86) (by decide +kernel))) (by decide +kernel)
theorem kw631 : Cond.methodLink RX1 103 yX6_suits ∈ Tg := mem_Tg (List.mem_append_right _ (List.mem_of_getElem? (i := 631) (by decide +kernel))) (by decide +kernel)
theorem kw632 : Cond.instanceMethod yX6_suits ∈ Tg := mem_Tg (List.mem_append_right _ (List.mem_of_getElem? (i := 632) (by decide +kernel))) (by decide +kernel)
theorem kw633 : Cond.selects RX6 yX6_suits yX6_suits ∈ Tg := mem_Tg (List.mem_append_right _ (List.mem_of_getElem? (i := 633) (by decide +kernel))) (by decide +kernel)
theorem kw637 : Cond.methodLink RX1 107 yX1_giveOut ∈ Tg := mem_Tg (List.mem_append_right _ (List.mem_of_getElem? (i := 637) (by decide +kernel))) (by decide +kernel)
theorem kw639 : Cond.instanceMethod yX1_giveOut ∈ Tg := mem_Tg (List.mem_append_right _ (List.mem_of_getElem? (i := 639) (by decide +kernel))) (by decide +kernel)
theorem ks16 : Cond.selects RX1 yX1_giveOut yX1_giveOut ∈ Tg := mem_Tg (List.mem_append_left _ (List.mem_of_getElem? (i := 16) (by decide +kernel))) (by decide +kernel)
theorem kw645 : Cond.methodLink RX1 111 yJ6_bitCount_0f7a4 ∈ Tg := mem_Tg (List.mem_append_right _ (List.mem_of_getElem? (i := 645) (by decide +kernel))) (by decide +kernel)
theorem kw618 : Cond.static yJ6_bitCount_0f7a4 ∈ Tg := mem_Tg (List.mem_append_right _ (List.mem_of_getElem? (i := 618) (by decide +kernel))) (by decide +kernel)
theorem kw19 : Cond.initialized RJ6 ∈ Tg := mem_Tg (List.mem_append_right _ (List.mem_of_getElem? (i := 19) (by decide +kernel))) (by decide +kernel)
theorem dX1_look_0 : decode cX1_look 0 = .ok (.aload_n 1, 1) := by decide +kernel
theorem dX1_look_1 : decode cX1_look 1 = .ok (.ifnonnull 4, 3) := by decide +kernel
theorem dX1_look_5 : decode cX1_look 5 = .ok (.aload_n 0, 1) := by decide +kernel
theorem dX1_look_6 : decode cX1_look 6 = .ok (.iconst 0, 1) := by decide +kernel
theorem dX1_look_7 : decode cX1_look 7 = .ok (.bipush 10, 2) := by decide +kernel
theorem dX1_look_9 : decode cX1_look 9 = .ok (.aload_n 1, 1) := by decide +kernel
theorem dX1_look_10 : decode cX1_look 10 = .ok (.getfield 24, 3) := by decide +kernel
theorem dX1_look_13 : decode cX1_look 13 = .ok (.invokestatic 30, 3) := by decide +kernel
theorem dX1_look_16 : decode cX1_look 16 = .ok (.invokestatic 36, 3) := by decide +kernel
theorem dX1_look_19 : decode cX1_look 19 = .ok (.putfield 39, 3) := by decide +kernel
theorem dX1_look_22 : decode cX1_look 22 = .ok (.aload_n 0, 1) := by decide +kernel
theorem dX1_look_23 : decode cX1_look 23 = .ok (.aload_n 1, 1) := by decide +kernel
theorem dX1_look_24 : decode cX1_look 24 = .ok (.iconst 0, 1) := by decide +kernel
theorem kw572 : Cond.code yX4_ofSide cX4_ofSide 4 (some .int) ∈ Tg := mem_Tg (List.mem_append_right _ (List.mem_of_getElem? (i := 572) (by decide +kernel))) (by decide +kernel)
theorem dX1_look_25 : decode cX1_look 25 = .ok (.invokevirtual 40, 3) := by decide +kernel
theorem dX1_look_28 : decode cX1_look 28 = .ok (.putfield 44, 3) := by decide +kernel
theorem dX1_look_31 : decode cX1_look 31 = .ok (.iconst 0, 1) := by decide +kernel
theorem dX1_look_32 : decode cX1_look 32 = .ok (.istore_n 2, 1) := by decide +kernel
theorem dX1_look_33 : decode cX1_look 33 = .ok (.iload_n 2, 1) := by decide +kernel
theorem dX1_look_34 : decode cX1_look 34 = .ok (.aload_n 0, 1) := by decide +kernel
theorem dX1_look_35 : decode cX1_look 35 = .ok (.getfield 39, 3) := by decide +kernel
theorem dX1_look_38 : decode cX1_look 38 = .ok (.if_icmp .ge 39, 3) := by decide +kernel
theorem dX1_look_41 : decode cX1_look 41 = .ok (.aload_n 0, 1) := by decide +kernel
theorem dX1_look_42 : decode cX1_look 42 = .ok (.getfield 15, 3) := by decide +kernel
theorem dX1_look_45 : decode cX1_look 45 = .ok (.iload_n 2, 1) := by decide +kernel
theorem dX1_look_46 : decode cX1_look 46 = .ok (.aload_n 1, 1) := by decide +kernel
theorem dX1_look_47 : decode cX1_look 47 = .ok (.iload_n 2, 1) := by decide +kernel
theorem kw557 : Cond.code yX4_matesOf cX4_matesOf 4 (some .int) ∈ Tg := mem_Tg (List.mem_append_right _ (List.mem_of_getElem? (i := 557) (by decide +kernel))) (by decide +kernel)
theorem dX1_look_48 : decode cX1_look 48 = .ok (.invokevirtual 47, 3) := by decide +kernel
theorem dX1_look_51 : decode cX1_look 51 = .ok (.invokestatic 50, 3) := by decide +kernel
theorem dX1_look_54 : decode cX1_look 54 = .ok (.aload_n 0, 1) := by decide +kernel
theorem dX1_look_55 : decode cX1_look 55 = .ok (.getfield 18, 3) := by decide +kernel
theorem dX1_look_58 : decode cX1_look 58 = .ok (.iload_n 2, 1) := by decide +kernel
theorem dX1_look_59 : decode cX1_look 59 = .ok (.aload_n 1, 1) := by decide +kernel
theorem dX1_look_60 : decode cX1_look 60 = .ok (.iload_n 2, 1) := by decide +kernel
theorem dX1_look_61 : decode cX1_look 61 = .ok (.aload_n 1, 1) := by decide +kernel
theorem dX1_look_62 : decode cX1_look 62 = .ok (.getfield 54, 3) := by decide +kernel
theorem dX1_look_65 : decode cX1_look 65 = .ok (.invokevirtual 57, 3) := by decide +kernel
theorem dX1_look_68 : decode cX1_look 68 = .ok (.invokestatic 50, 3) := by decide +kernel
theorem dX1_look_71 : decode cX1_look 71 = .ok (.iinc 2 1, 3) := by decide +kernel
theorem dX1_look_74 : decode cX1_look 74 = .ok (.goto (-41), 3) := by decide +kernel
theorem dX1_look_77 : decode cX1_look 77 = .ok (.return_, 1) := by decide +kernel
theorem dX1_distance_0 : decode cX1_distance 0 = .ok (.aload_n 0, 1) := by decide +kernel
theorem dX1_distance_1 : decode cX1_distance 1 = .ok (.getfield 18, 3) := by decide +kernel
theorem dX1_distance_4 : decode cX1_distance 4 = .ok (.iload_n 1, 1) := by decide +kernel
theorem dX1_distance_5 : decode cX1_distance 5 = .ok (.invokestatic 86, 3) := by decide +kernel
theorem dX1_distance_8 : decode cX1_distance 8 = .ok (.aload_n 0, 1) := by decide +kernel
theorem dX1_distance_9 : decode cX1_distance 9 = .ok (.getfield 18, 3) := by decide +kernel
theorem dX1_distance_12 : decode cX1_distance 12 = .ok (.iload_n 2, 1) := by decide +kernel
theorem dX1_distance_13 : decode cX1_distance 13 = .ok (.invokestatic 86, 3) := by decide +kernel
theorem dX1_distance_16 : decode cX1_distance 16 = .ok (.isub, 1) := by decide +kernel
theorem dX1_distance_17 : decode cX1_distance 17 = .ok (.invokestatic 97, 3) := by decide +kernel
theorem dX1_distance_20 : decode cX1_distance 20 = .ok (.ireturn, 1) := by decide +kernel
theorem dX1_worthOf_0 : decode cX1_worthOf 0 = .ok (.aload_n 0, 1) := by decide +kernel
theorem dX1_worthOf_1 : decode cX1_worthOf 1 = .ok (.getfield 9, 3) := by decide +kernel
theorem dX1_worthOf_4 : decode cX1_worthOf 4 = .ok (.iload_n 1, 1) := by decide +kernel
theorem dX1_worthOf_5 : decode cX1_worthOf 5 = .ok (.iconst 1, 1) := by decide +kernel
theorem dX1_worthOf_6 : decode cX1_worthOf 6 = .ok (.iload_n 2, 1) := by decide +kernel
theorem dX1_worthOf_7 : decode cX1_worthOf 7 = .ok (.ishl, 1) := by decide +kernel
theorem dX1_worthOf_8 : decode cX1_worthOf 8 = .ok (.ior, 1) := by decide +kernel
theorem dX1_worthOf_9 : decode cX1_worthOf 9 = .ok (.iconst 1, 1) := by decide +kernel
theorem dX1_worthOf_10 : decode cX1_worthOf 10 = .ok (.iload_n 3, 1) := by decide +kernel
theorem dX1_worthOf_11 : decode cX1_worthOf 11 = .ok (.ishl, 1) := by decide +kernel
theorem dX1_worthOf_12 : decode cX1_worthOf 12 = .ok (.ior, 1) := by decide +kernel
theorem dX1_worthOf_13 : decode cX1_worthOf 13 = .ok (.invokestatic 86, 3) := by decide +kernel
theorem dX1_worthOf_16 : decode cX1_worthOf 16 = .ok (.sipush 1000, 3) := by decide +kernel
theorem dX1_worthOf_19 : decode cX1_worthOf 19 = .ok (.iadd, 1) := by decide +kernel
theorem dX1_worthOf_20 : decode cX1_worthOf 20 = .ok (.aload_n 0, 1) := by decide +kernel
theorem dX1_worthOf_21 : decode cX1_worthOf 21 = .ok (.iload_n 2, 1) := by decide +kernel
theorem dX1_worthOf_22 : decode cX1_worthOf 22 = .ok (.iload_n 3, 1) := by decide +kernel
theorem kw595 : Cond.code yX1_distance cX1_distance 3 (some .int) ∈ Tg := mem_Tg (List.mem_append_right _ (List.mem_of_getElem? (i := 595) (by decide +kernel))) (by decide +kernel)
theorem dX1_worthOf_23 : decode cX1_worthOf 23 = .ok (.invokevirtual 94, 3) := by decide +kernel
theorem dX1_worthOf_26 : decode cX1_worthOf 26 = .ok (.isub, 1) := by decide +kernel
theorem dX1_worthOf_27 : decode cX1_worthOf 27 = .ok (.ireturn, 1) := by decide +kernel
theorem dX1_bestWithout_0 : decode cX1_bestWithout 0 = .ok (.iconst 0, 1) := by decide +kernel
theorem dX1_bestWithout_1 : decode cX1_bestWithout 1 = .ok (.istore_n 2, 1) := by decide +kernel
theorem dX1_bestWithout_2 : decode cX1_bestWithout 2 = .ok (.iload_n 2, 1) := by decide +kernel
theorem dX1_bestWithout_3 : decode cX1_bestWithout 3 = .ok (.aload_n 0, 1) := by decide +kernel
theorem dX1_bestWithout_4 : decode cX1_bestWithout 4 = .ok (.getfield 39, 3) := by decide +kernel
theorem dX1_bestWithout_7 : decode cX1_bestWithout 7 = .ok (.if_icmp .ge 24, 3) := by decide +kernel
theorem dX1_bestWithout_10 : decode cX1_bestWithout 10 = .ok (.aload_n 0, 1) := by decide +kernel
theorem dX1_bestWithout_11 : decode cX1_bestWithout 11 = .ok (.getfield 44, 3) := by decide +kernel
theorem dX1_bestWithout_14 : decode cX1_bestWithout 14 = .ok (.iload_n 1, 1) := by decide +kernel
theorem dX1_bestWithout_15 : decode cX1_bestWithout 15 = .ok (.iconst (-1), 1) := by decide +kernel
theorem dX1_bestWithout_16 : decode cX1_bestWithout 16 = .ok (.ixor, 1) := by decide +kernel
theorem dX1_bestWithout_17 : decode cX1_bestWithout 17 = .ok (.iand, 1) := by decide +kernel
theorem dX1_bestWithout_18 : decode cX1_bestWithout 18 = .ok (.iload_n 2, 1) := by decide +kernel
theorem kw586 : Cond.code yX9_hasBit cX9_hasBit 2 (some .boolean) ∈ Tg := mem_Tg (List.mem_append_right _ (List.mem_of_getElem? (i := 586) (by decide +kernel))) (by decide +kernel)
theorem dX1_bestWithout_19 : decode cX1_bestWithout 19 = .ok (.invokestatic 75, 3) := by decide +kernel
theorem dX1_bestWithout_22 : decode cX1_bestWithout 22 = .ok (.ifCond .ne 9, 3) := by decide +kernel
theorem dX1_bestWithout_25 : decode cX1_bestWithout 25 = .ok (.iinc 2 1, 3) := by decide +kernel
theorem dX1_bestWithout_28 : decode cX1_bestWithout 28 = .ok (.goto (-26), 3) := by decide +kernel
theorem dX1_bestWithout_31 : decode cX1_bestWithout 31 = .ok (.iload_n 2, 1) := by decide +kernel
theorem dX1_bestWithout_32 : decode cX1_bestWithout 32 = .ok (.aload_n 0, 1) := by decide +kernel
theorem dX1_bestWithout_33 : decode cX1_bestWithout 33 = .ok (.getfield 39, 3) := by decide +kernel
theorem dX1_bestWithout_36 : decode cX1_bestWithout 36 = .ok (.if_icmp .ge 14, 3) := by decide +kernel
theorem dX1_bestWithout_50 : decode cX1_bestWithout 50 = .ok (.iconst 0, 1) := by decide +kernel
theorem dX1_bestWithout_51 : decode cX1_bestWithout 51 = .ok (.ireturn, 1) := by decide +kernel
theorem dX1_bestWithout_39 : decode cX1_bestWithout 39 = .ok (.aload_n 0, 1) := by decide +kernel
theorem dX1_bestWithout_40 : decode cX1_bestWithout 40 = .ok (.getfield 44, 3) := by decide +kernel
theorem dX1_bestWithout_43 : decode cX1_bestWithout 43 = .ok (.iload_n 1, 1) := by decide +kernel
theorem dX1_bestWithout_44 : decode cX1_bestWithout 44 = .ok (.iand, 1) := by decide +kernel
theorem dX1_bestWithout_45 : decode cX1_bestWithout 45 = .ok (.iload_n 2, 1) := by decide +kernel
theorem dX1_bestWithout_46 : decode cX1_bestWithout 46 = .ok (.ishr, 1) := by decide +kernel
theorem dX1_bestWithout_47 : decode cX1_bestWithout 47 = .ok (.ifCond .eq 5, 3) := by decide +kernel
theorem dX1_bestWithout_52 : decode cX1_bestWithout 52 = .ok (.aload_n 0, 1) := by decide +kernel
theorem dX1_bestWithout_53 : decode cX1_bestWithout 53 = .ok (.getfield 9, 3) := by decide +kernel
theorem dX1_bestWithout_56 : decode cX1_bestWithout 56 = .ok (.iload_n 1, 1) := by decide +kernel
theorem dX1_bestWithout_57 : decode cX1_bestWithout 57 = .ok (.iconst 1, 1) := by decide +kernel
theorem dX1_bestWithout_58 : decode cX1_bestWithout 58 = .ok (.iload_n 2, 1) := by decide +kernel
theorem dX1_bestWithout_59 : decode cX1_bestWithout 59 = .ok (.ishl, 1) := by decide +kernel
theorem dX1_bestWithout_60 : decode cX1_bestWithout 60 = .ok (.ior, 1) := by decide +kernel
theorem dX1_bestWithout_61 : decode cX1_bestWithout 61 = .ok (.invokestatic 86, 3) := by decide +kernel
theorem dX1_bestWithout_64 : decode cX1_bestWithout 64 = .ok (.istore_n 3, 1) := by decide +kernel
theorem dX1_bestWithout_65 : decode cX1_bestWithout 65 = .ok (.iconst 0, 1) := by decide +kernel
theorem dX1_bestWithout_66 : decode cX1_bestWithout 66 = .ok (.istore 4, 2) := by decide +kernel
theorem dX1_bestWithout_68 : decode cX1_bestWithout 68 = .ok (.iload 4, 2) := by decide +kernel
theorem dX1_bestWithout_70 : decode cX1_bestWithout 70 = .ok (.aload_n 0, 1) := by decide +kernel
theorem dX1_bestWithout_71 : decode cX1_bestWithout 71 = .ok (.getfield 39, 3) := by decide +kernel
theorem dX1_bestWithout_74 : decode cX1_bestWithout 74 = .ok (.if_icmp .ge 42, 3) := by decide +kernel
theorem dX1_bestWithout_77 : decode cX1_bestWithout 77 = .ok (.aload_n 0, 1) := by decide +kernel
theorem dX1_bestWithout_78 : decode cX1_bestWithout 78 = .ok (.getfield 15, 3) := by decide +kernel
theorem dX1_bestWithout_81 : decode cX1_bestWithout 81 = .ok (.iload_n 2, 1) := by decide +kernel
theorem dX1_bestWithout_82 : decode cX1_bestWithout 82 = .ok (.invokestatic 86, 3) := by decide +kernel
theorem dX1_bestWithout_85 : decode cX1_bestWithout 85 = .ok (.iload_n 1, 1) := by decide +kernel
theorem dX1_bestWithout_86 : decode cX1_bestWithout 86 = .ok (.iconst (-1), 1) := by decide +kernel
theorem dX1_bestWithout_87 : decode cX1_bestWithout 87 = .ok (.ixor, 1) := by decide +kernel
theorem dX1_bestWithout_88 : decode cX1_bestWithout 88 = .ok (.iand, 1) := by decide +kernel
theorem dX1_bestWithout_89 : decode cX1_bestWithout 89 = .ok (.iload 4, 2) := by decide +kernel
theorem dX1_bestWithout_91 : decode cX1_bestWithout 91 = .ok (.invokestatic 75, 3) := by decide +kernel
theorem dX1_bestWithout_94 : decode cX1_bestWithout 94 = .ok (.ifCond .eq 16, 3) := by decide +kernel
theorem dX1_bestWithout_110 : decode cX1_bestWithout 110 = .ok (.iinc 4 1, 3) := by decide +kernel
theorem dX1_bestWithout_113 : decode cX1_bestWithout 113 = .ok (.goto (-45), 3) := by decide +kernel
theorem dX1_bestWithout_97 : decode cX1_bestWithout 97 = .ok (.iload_n 3, 1) := by decide +kernel
theorem dX1_bestWithout_98 : decode cX1_bestWithout 98 = .ok (.aload_n 0, 1) := by decide +kernel
theorem dX1_bestWithout_99 : decode cX1_bestWithout 99 = .ok (.iload_n 1, 1) := by decide +kernel
theorem dX1_bestWithout_100 : decode cX1_bestWithout 100 = .ok (.iload_n 2, 1) := by decide +kernel
theorem dX1_bestWithout_101 : decode cX1_bestWithout 101 = .ok (.iload 4, 2) := by decide +kernel
theorem kw591 : Cond.code yX1_worthOf cX1_worthOf 4 (some .int) ∈ Tg := mem_Tg (List.mem_append_right _ (List.mem_of_getElem? (i := 591) (by decide +kernel))) (by decide +kernel)
theorem dX1_bestWithout_103 : decode cX1_bestWithout 103 = .ok (.invokevirtual 90, 3) := by decide +kernel
theorem dX1_bestWithout_106 : decode cX1_bestWithout 106 = .ok (.invokestatic 36, 3) := by decide +kernel
theorem dX1_bestWithout_109 : decode cX1_bestWithout 109 = .ok (.istore_n 3, 1) := by decide +kernel
theorem dX1_bestWithout_116 : decode cX1_bestWithout 116 = .ok (.iload_n 3, 1) := by decide +kernel
theorem dX1_bestWithout_117 : decode cX1_bestWithout 117 = .ok (.ireturn, 1) := by decide +kernel
theorem dX1_firstBest_0 : decode cX1_firstBest 0 = .ok (.iconst 0, 1) := by decide +kernel
theorem dX1_firstBest_1 : decode cX1_firstBest 1 = .ok (.istore_n 3, 1) := by decide +kernel
theorem dX1_firstBest_2 : decode cX1_firstBest 2 = .ok (.iload_n 3, 1) := by decide +kernel
theorem dX1_firstBest_3 : decode cX1_firstBest 3 = .ok (.aload_n 0, 1) := by decide +kernel
theorem dX1_firstBest_4 : decode cX1_firstBest 4 = .ok (.getfield 39, 3) := by decide +kernel
theorem dX1_firstBest_7 : decode cX1_firstBest 7 = .ok (.if_icmp .ge 48, 3) := by decide +kernel
theorem dX1_firstBest_10 : decode cX1_firstBest 10 = .ok (.aload_n 0, 1) := by decide +kernel
theorem dX1_firstBest_11 : decode cX1_firstBest 11 = .ok (.getfield 15, 3) := by decide +kernel
theorem dX1_firstBest_14 : decode cX1_firstBest 14 = .ok (.iload_n 2, 1) := by decide +kernel
theorem dX1_firstBest_15 : decode cX1_firstBest 15 = .ok (.invokestatic 86, 3) := by decide +kernel
theorem dX1_firstBest_18 : decode cX1_firstBest 18 = .ok (.iload_n 1, 1) := by decide +kernel
theorem dX1_firstBest_19 : decode cX1_firstBest 19 = .ok (.iconst (-1), 1) := by decide +kernel
theorem dX1_firstBest_20 : decode cX1_firstBest 20 = .ok (.ixor, 1) := by decide +kernel
theorem dX1_firstBest_21 : decode cX1_firstBest 21 = .ok (.iand, 1) := by decide +kernel
theorem dX1_firstBest_22 : decode cX1_firstBest 22 = .ok (.iload_n 3, 1) := by decide +kernel
theorem dX1_firstBest_23 : decode cX1_firstBest 23 = .ok (.invokestatic 75, 3) := by decide +kernel
theorem dX1_firstBest_26 : decode cX1_firstBest 26 = .ok (.ifCond .eq 23, 3) := by decide +kernel
theorem dX1_firstBest_49 : decode cX1_firstBest 49 = .ok (.iinc 3 1, 3) := by decide +kernel
theorem dX1_firstBest_52 : decode cX1_firstBest 52 = .ok (.goto (-50), 3) := by decide +kernel
theorem dX1_firstBest_29 : decode cX1_firstBest 29 = .ok (.aload_n 0, 1) := by decide +kernel
theorem dX1_firstBest_30 : decode cX1_firstBest 30 = .ok (.iload_n 1, 1) := by decide +kernel
theorem dX1_firstBest_31 : decode cX1_firstBest 31 = .ok (.iload_n 2, 1) := by decide +kernel
theorem dX1_firstBest_32 : decode cX1_firstBest 32 = .ok (.iload_n 3, 1) := by decide +kernel
theorem dX1_firstBest_33 : decode cX1_firstBest 33 = .ok (.invokevirtual 90, 3) := by decide +kernel
theorem dX1_firstBest_36 : decode cX1_firstBest 36 = .ok (.aload_n 0, 1) := by decide +kernel
theorem dX1_firstBest_37 : decode cX1_firstBest 37 = .ok (.getfield 9, 3) := by decide +kernel
theorem dX1_firstBest_40 : decode cX1_firstBest 40 = .ok (.iload_n 1, 1) := by decide +kernel
theorem dX1_firstBest_41 : decode cX1_firstBest 41 = .ok (.invokestatic 86, 3) := by decide +kernel
theorem dX1_firstBest_44 : decode cX1_firstBest 44 = .ok (.if_icmp .ne 5, 3) := by decide +kernel
theorem dX1_firstBest_47 : decode cX1_firstBest 47 = .ok (.iload_n 3, 1) := by decide +kernel
theorem dX1_firstBest_48 : decode cX1_firstBest 48 = .ok (.ireturn, 1) := by decide +kernel
theorem dX1_firstBest_55 : decode cX1_firstBest 55 = .ok (.bipush (-4), 2) := by decide +kernel
theorem dX1_firstBest_57 : decode cX1_firstBest 57 = .ok (.ireturn, 1) := by decide +kernel
theorem dX1_join_0 : decode cX1_join 0 = .ok (.aload_n 0, 1) := by decide +kernel
theorem dX1_join_1 : decode cX1_join 1 = .ok (.getfield 21, 3) := by decide +kernel
theorem dX1_join_4 : decode cX1_join 4 = .ok (.iload_n 1, 1) := by decide +kernel
theorem dX1_join_5 : decode cX1_join 5 = .ok (.iload_n 2, 1) := by decide +kernel
theorem dX1_join_6 : decode cX1_join 6 = .ok (.invokestatic 50, 3) := by decide +kernel
theorem dX1_join_9 : decode cX1_join 9 = .ok (.aload_n 0, 1) := by decide +kernel
theorem dX1_join_10 : decode cX1_join 10 = .ok (.getfield 21, 3) := by decide +kernel
theorem dX1_join_13 : decode cX1_join 13 = .ok (.iload_n 2, 1) := by decide +kernel
theorem dX1_join_14 : decode cX1_join 14 = .ok (.iload_n 1, 1) := by decide +kernel
theorem dX1_join_15 : decode cX1_join 15 = .ok (.invokestatic 50, 3) := by decide +kernel
theorem dX1_join_18 : decode cX1_join 18 = .ok (.aload_n 0, 1) := by decide +kernel
theorem dX1_join_19 : decode cX1_join 19 = .ok (.dup, 1) := by decide +kernel
theorem dX1_join_20 : decode cX1_join 20 = .ok (.getfield 69, 3) := by decide +kernel
theorem dX1_join_23 : decode cX1_join 23 = .ok (.iconst 1, 1) := by decide +kernel
theorem dX1_join_24 : decode cX1_join 24 = .ok (.iadd, 1) := by decide +kernel
theorem dX1_join_25 : decode cX1_join 25 = .ok (.putfield 69, 3) := by decide +kernel
theorem dX1_join_28 : decode cX1_join 28 = .ok (.aload_n 0, 1) := by decide +kernel
theorem dX1_join_29 : decode cX1_join 29 = .ok (.dup, 1) := by decide +kernel
theorem dX1_join_30 : decode cX1_join 30 = .ok (.getfield 72, 3) := by decide +kernel
theorem dX1_join_33 : decode cX1_join 33 = .ok (.aload_n 0, 1) := by decide +kernel
theorem dX1_join_34 : decode cX1_join 34 = .ok (.iload_n 1, 1) := by decide +kernel
theorem dX1_join_35 : decode cX1_join 35 = .ok (.iload_n 2, 1) := by decide +kernel
theorem dX1_join_36 : decode cX1_join 36 = .ok (.invokevirtual 94, 3) := by decide +kernel
theorem dX1_join_39 : decode cX1_join 39 = .ok (.iadd, 1) := by decide +kernel
theorem dX1_join_40 : decode cX1_join 40 = .ok (.putfield 72, 3) := by decide +kernel
theorem dX1_join_43 : decode cX1_join 43 = .ok (.return_, 1) := by decide +kernel
theorem dX1_match_0 : decode cX1_match 0 = .ok (.iconst 1, 1) := by decide +kernel
theorem dX1_match_1 : decode cX1_match 1 = .ok (.aload_n 0, 1) := by decide +kernel
theorem dX1_match_2 : decode cX1_match 2 = .ok (.getfield 39, 3) := by decide +kernel
theorem dX1_match_5 : decode cX1_match 5 = .ok (.ishl, 1) := by decide +kernel
theorem dX1_match_6 : decode cX1_match 6 = .ok (.iconst 1, 1) := by decide +kernel
theorem dX1_match_7 : decode cX1_match 7 = .ok (.isub, 1) := by decide +kernel
theorem dX1_match_8 : decode cX1_match 8 = .ok (.istore_n 1, 1) := by decide +kernel
theorem dX1_match_9 : decode cX1_match 9 = .ok (.iload_n 1, 1) := by decide +kernel
theorem dX1_match_10 : decode cX1_match 10 = .ok (.ifCond .lt 22, 3) := by decide +kernel
theorem dX1_match_13 : decode cX1_match 13 = .ok (.aload_n 0, 1) := by decide +kernel
theorem dX1_match_14 : decode cX1_match 14 = .ok (.getfield 9, 3) := by decide +kernel
theorem dX1_match_17 : decode cX1_match 17 = .ok (.iload_n 1, 1) := by decide +kernel
theorem dX1_match_18 : decode cX1_match 18 = .ok (.aload_n 0, 1) := by decide +kernel
theorem dX1_match_19 : decode cX1_match 19 = .ok (.iload_n 1, 1) := by decide +kernel
theorem kw583 : Cond.code yX1_bestWithout cX1_bestWithout 5 (some .int) ∈ Tg := mem_Tg (List.mem_append_right _ (List.mem_of_getElem? (i := 583) (by decide +kernel))) (by decide +kernel)
theorem dX1_match_20 : decode cX1_match 20 = .ok (.invokevirtual 60, 3) := by decide +kernel
theorem dX1_match_23 : decode cX1_match 23 = .ok (.invokestatic 50, 3) := by decide +kernel
theorem dX1_match_26 : decode cX1_match 26 = .ok (.iinc 1 (-1), 3) := by decide +kernel
theorem dX1_match_29 : decode cX1_match 29 = .ok (.goto (-20), 3) := by decide +kernel
theorem dX1_match_32 : decode cX1_match 32 = .ok (.aload_n 0, 1) := by decide +kernel
theorem dX1_match_33 : decode cX1_match 33 = .ok (.getfield 21, 3) := by decide +kernel
theorem dX1_match_36 : decode cX1_match 36 = .ok (.bipush (-4), 2) := by decide +kernel
theorem kw599 : Cond.code yJ7_fill_53178 cJ7_fill_53178 4 none ∈ Tg := mem_Tg (List.mem_append_right _ (List.mem_of_getElem? (i := 599) (by decide +kernel))) (by decide +kernel)
theorem dX1_match_38 : decode cX1_match 38 = .ok (.invokestatic 63, 3) := by decide +kernel
theorem dX1_match_41 : decode cX1_match 41 = .ok (.aload_n 0, 1) := by decide +kernel
theorem dX1_match_42 : decode cX1_match 42 = .ok (.iconst 0, 1) := by decide +kernel
theorem dX1_match_43 : decode cX1_match 43 = .ok (.putfield 69, 3) := by decide +kernel
theorem dX1_match_46 : decode cX1_match 46 = .ok (.aload_n 0, 1) := by decide +kernel
theorem dX1_match_47 : decode cX1_match 47 = .ok (.iconst 0, 1) := by decide +kernel
theorem dX1_match_48 : decode cX1_match 48 = .ok (.putfield 72, 3) := by decide +kernel
theorem dX1_match_51 : decode cX1_match 51 = .ok (.iconst 0, 1) := by decide +kernel
theorem dX1_match_52 : decode cX1_match 52 = .ok (.istore_n 1, 1) := by decide +kernel
theorem dX1_match_53 : decode cX1_match 53 = .ok (.iconst 0, 1) := by decide +kernel
theorem dX1_match_54 : decode cX1_match 54 = .ok (.istore_n 2, 1) := by decide +kernel
theorem dX1_match_55 : decode cX1_match 55 = .ok (.iload_n 2, 1) := by decide +kernel
theorem dX1_match_56 : decode cX1_match 56 = .ok (.aload_n 0, 1) := by decide +kernel
theorem dX1_match_57 : decode cX1_match 57 = .ok (.getfield 39, 3) := by decide +kernel
theorem dX1_match_60 : decode cX1_match 60 = .ok (.if_icmp .ge 49, 3) := by decide +kernel
theorem dX1_match_63 : decode cX1_match 63 = .ok (.aload_n 0, 1) := by decide +kernel
theorem dX1_match_64 : decode cX1_match 64 = .ok (.getfield 44, 3) := by decide +kernel
theorem dX1_match_67 : decode cX1_match 67 = .ok (.iload_n 2, 1) := by decide +kernel
theorem dX1_match_68 : decode cX1_match 68 = .ok (.invokestatic 75, 3) := by decide +kernel
theorem dX1_match_71 : decode cX1_match 71 = .ok (.ifCond .eq 32, 3) := by decide +kernel
theorem dX1_match_103 : decode cX1_match 103 = .ok (.iinc 2 1, 3) := by decide +kernel
theorem dX1_match_106 : decode cX1_match 106 = .ok (.goto (-51), 3) := by decide +kernel
theorem dX1_match_74 : decode cX1_match 74 = .ok (.aload_n 0, 1) := by decide +kernel
theorem dX1_match_75 : decode cX1_match 75 = .ok (.iload_n 1, 1) := by decide +kernel
theorem dX1_match_76 : decode cX1_match 76 = .ok (.iload_n 2, 1) := by decide +kernel
theorem kw603 : Cond.code yX1_firstBest cX1_firstBest 4 (some .int) ∈ Tg := mem_Tg (List.mem_append_right _ (List.mem_of_getElem? (i := 603) (by decide +kernel))) (by decide +kernel)
theorem dX1_match_77 : decode cX1_match 77 = .ok (.invokevirtual 79, 3) := by decide +kernel
theorem dX1_match_80 : decode cX1_match 80 = .ok (.istore_n 3, 1) := by decide +kernel
theorem dX1_match_81 : decode cX1_match 81 = .ok (.iload_n 1, 1) := by decide +kernel
theorem dX1_match_82 : decode cX1_match 82 = .ok (.iconst 1, 1) := by decide +kernel
theorem dX1_match_83 : decode cX1_match 83 = .ok (.iload_n 2, 1) := by decide +kernel
theorem dX1_match_84 : decode cX1_match 84 = .ok (.ishl, 1) := by decide +kernel
theorem dX1_match_85 : decode cX1_match 85 = .ok (.ior, 1) := by decide +kernel
theorem dX1_match_86 : decode cX1_match 86 = .ok (.istore_n 1, 1) := by decide +kernel
theorem dX1_match_87 : decode cX1_match 87 = .ok (.iload_n 3, 1) := by decide +kernel
theorem dX1_match_88 : decode cX1_match 88 = .ok (.ifCond .lt 15, 3) := by decide +kernel
theorem dX1_match_91 : decode cX1_match 91 = .ok (.iload_n 1, 1) := by decide +kernel
theorem dX1_match_92 : decode cX1_match 92 = .ok (.iconst 1, 1) := by decide +kernel
theorem dX1_match_93 : decode cX1_match 93 = .ok (.iload_n 3, 1) := by decide +kernel
theorem dX1_match_94 : decode cX1_match 94 = .ok (.ishl, 1) := by decide +kernel
theorem dX1_match_95 : decode cX1_match 95 = .ok (.ior, 1) := by decide +kernel
theorem dX1_match_96 : decode cX1_match 96 = .ok (.istore_n 1, 1) := by decide +kernel
theorem dX1_match_97 : decode cX1_match 97 = .ok (.aload_n 0, 1) := by decide +kernel
theorem dX1_match_98 : decode cX1_match 98 = .ok (.iload_n 2, 1) := by decide +kernel
theorem dX1_match_99 : decode cX1_match 99 = .ok (.iload_n 3, 1) := by decide +kernel
theorem kw607 : Cond.code yX1_join cX1_join 3 none ∈ Tg := mem_Tg (List.mem_append_right _ (List.mem_of_getElem? (i := 607) (by decide +kernel))) (by decide +kernel)
theorem dX1_match_100 : decode cX1_match 100 = .ok (.invokevirtual 82, 3) := by decide +kernel
theorem dX1_match_109 : decode cX1_match 109 = .ok (.return_, 1) := by decide +kernel
theorem dX1_partnerOf_0 : decode cX1_partnerOf 0 = .ok (.iload_n 1, 1) := by decide +kernel
theorem dX1_partnerOf_1 : decode cX1_partnerOf 1 = .ok (.ifCond .lt 22, 3) := by decide +kernel
theorem dX1_partnerOf_23 : decode cX1_partnerOf 23 = .ok (.bipush (-4), 2) := by decide +kernel
theorem dX1_partnerOf_25 : decode cX1_partnerOf 25 = .ok (.ireturn, 1) := by decide +kernel
theorem dX1_partnerOf_4 : decode cX1_partnerOf 4 = .ok (.iload_n 1, 1) := by decide +kernel
theorem dX1_partnerOf_5 : decode cX1_partnerOf 5 = .ok (.aload_n 0, 1) := by decide +kernel
theorem dX1_partnerOf_6 : decode cX1_partnerOf 6 = .ok (.getfield 39, 3) := by decide +kernel
theorem dX1_partnerOf_9 : decode cX1_partnerOf 9 = .ok (.if_icmp .ge 14, 3) := by decide +kernel
theorem dX1_partnerOf_12 : decode cX1_partnerOf 12 = .ok (.aload_n 0, 1) := by decide +kernel
theorem dX1_partnerOf_13 : decode cX1_partnerOf 13 = .ok (.getfield 21, 3) := by decide +kernel
theorem dX1_partnerOf_16 : decode cX1_partnerOf 16 = .ok (.iload_n 1, 1) := by decide +kernel
theorem dX1_partnerOf_17 : decode cX1_partnerOf 17 = .ok (.invokestatic 86, 3) := by decide +kernel
theorem dX1_partnerOf_20 : decode cX1_partnerOf 20 = .ok (.goto 5, 3) := by decide +kernel
theorem dX1_giveOnTopOf_0 : decode cX1_giveOnTopOf 0 = .ok (.iconst 0, 1) := by decide +kernel
theorem dX1_giveOnTopOf_1 : decode cX1_giveOnTopOf 1 = .ok (.istore_n 3, 1) := by decide +kernel
theorem dX1_giveOnTopOf_2 : decode cX1_giveOnTopOf 2 = .ok (.iload_n 3, 1) := by decide +kernel
theorem dX1_giveOnTopOf_3 : decode cX1_giveOnTopOf 3 = .ok (.aload_n 0, 1) := by decide +kernel
theorem dX1_giveOnTopOf_4 : decode cX1_giveOnTopOf 4 = .ok (.getfield 39, 3) := by decide +kernel
theorem dX1_giveOnTopOf_7 : decode cX1_giveOnTopOf 7 = .ok (.if_icmp .ge 76, 3) := by decide +kernel
theorem dX1_giveOnTopOf_10 : decode cX1_giveOnTopOf 10 = .ok (.aload_n 0, 1) := by decide +kernel
theorem dX1_giveOnTopOf_11 : decode cX1_giveOnTopOf 11 = .ok (.getfield 44, 3) := by decide +kernel
theorem dX1_giveOnTopOf_14 : decode cX1_giveOnTopOf 14 = .ok (.iload_n 2, 1) := by decide +kernel
theorem dX1_giveOnTopOf_15 : decode cX1_giveOnTopOf 15 = .ok (.iand, 1) := by decide +kernel
theorem dX1_giveOnTopOf_16 : decode cX1_giveOnTopOf 16 = .ok (.iload_n 3, 1) := by decide +kernel
theorem dX1_giveOnTopOf_17 : decode cX1_giveOnTopOf 17 = .ok (.invokestatic 75, 3) := by decide +kernel
theorem dX1_giveOnTopOf_20 : decode cX1_giveOnTopOf 20 = .ok (.ifCond .eq 57, 3) := by decide +kernel
theorem dX1_giveOnTopOf_77 : decode cX1_giveOnTopOf 77 = .ok (.iinc 3 1, 3) := by decide +kernel
theorem dX1_giveOnTopOf_80 : decode cX1_giveOnTopOf 80 = .ok (.goto (-78), 3) := by decide +kernel
theorem dX1_giveOnTopOf_23 : decode cX1_giveOnTopOf 23 = .ok (.iconst 0, 1) := by decide +kernel
theorem dX1_giveOnTopOf_24 : decode cX1_giveOnTopOf 24 = .ok (.istore 4, 2) := by decide +kernel
theorem dX1_giveOnTopOf_26 : decode cX1_giveOnTopOf 26 = .ok (.iload 4, 2) := by decide +kernel
theorem dX1_giveOnTopOf_28 : decode cX1_giveOnTopOf 28 = .ok (.aload_n 0, 1) := by decide +kernel
theorem dX1_giveOnTopOf_29 : decode cX1_giveOnTopOf 29 = .ok (.getfield 39, 3) := by decide +kernel
theorem dX1_giveOnTopOf_32 : decode cX1_giveOnTopOf 32 = .ok (.if_icmp .ge 45, 3) := by decide +kernel
theorem dX1_giveOnTopOf_35 : decode cX1_giveOnTopOf 35 = .ok (.aload_n 0, 1) := by decide +kernel
theorem dX1_giveOnTopOf_36 : decode cX1_giveOnTopOf 36 = .ok (.getfield 15, 3) := by decide +kernel
theorem dX1_giveOnTopOf_39 : decode cX1_giveOnTopOf 39 = .ok (.iload_n 3, 1) := by decide +kernel
theorem dX1_giveOnTopOf_40 : decode cX1_giveOnTopOf 40 = .ok (.invokestatic 86, 3) := by decide +kernel
theorem dX1_giveOnTopOf_43 : decode cX1_giveOnTopOf 43 = .ok (.iload_n 2, 1) := by decide +kernel
theorem dX1_giveOnTopOf_44 : decode cX1_giveOnTopOf 44 = .ok (.iand, 1) := by decide +kernel
theorem dX1_giveOnTopOf_45 : decode cX1_giveOnTopOf 45 = .ok (.iload 4, 2) := by decide +kernel
theorem dX1_giveOnTopOf_47 : decode cX1_giveOnTopOf 47 = .ok (.invokestatic 75, 3) := by decide +kernel
theorem dX1_giveOnTopOf_50 : decode cX1_giveOnTopOf 50 = .ok (.ifCond .eq 21, 3) := by decide +kernel
theorem dX1_giveOnTopOf_71 : decode cX1_giveOnTopOf 71 = .ok (.iinc 4 1, 3) := by decide +kernel
theorem dX1_giveOnTopOf_74 : decode cX1_giveOnTopOf 74 = .ok (.goto (-48), 3) := by decide +kernel
theorem dX1_giveOnTopOf_53 : decode cX1_giveOnTopOf 53 = .ok (.aload_n 0, 1) := by decide +kernel
theorem dX1_giveOnTopOf_54 : decode cX1_giveOnTopOf 54 = .ok (.getfield 9, 3) := by decide +kernel
theorem dX1_giveOnTopOf_57 : decode cX1_giveOnTopOf 57 = .ok (.iload_n 1, 1) := by decide +kernel
theorem dX1_giveOnTopOf_58 : decode cX1_giveOnTopOf 58 = .ok (.iconst 1, 1) := by decide +kernel
theorem dX1_giveOnTopOf_59 : decode cX1_giveOnTopOf 59 = .ok (.iload_n 3, 1) := by decide +kernel
theorem dX1_giveOnTopOf_60 : decode cX1_giveOnTopOf 60 = .ok (.ishl, 1) := by decide +kernel
theorem dX1_giveOnTopOf_61 : decode cX1_giveOnTopOf 61 = .ok (.ior, 1) := by decide +kernel
theorem dX1_giveOnTopOf_62 : decode cX1_giveOnTopOf 62 = .ok (.iconst 1, 1) := by decide +kernel
theorem dX1_giveOnTopOf_63 : decode cX1_giveOnTopOf 63 = .ok (.iload 4, 2) := by decide +kernel
theorem dX1_giveOnTopOf_65 : decode cX1_giveOnTopOf 65 = .ok (.ishl, 1) := by decide +kernel
theorem dX1_giveOnTopOf_66 : decode cX1_giveOnTopOf 66 = .ok (.ior, 1) := by decide +kernel
theorem dX1_giveOnTopOf_67 : decode cX1_giveOnTopOf 67 = .ok (.iconst 1, 1) := by decide +kernel
theorem dX1_giveOnTopOf_68 : decode cX1_giveOnTopOf 68 = .ok (.invokestatic 50, 3) := by decide +kernel
theorem dX1_giveOnTopOf_83 : decode cX1_giveOnTopOf 83 = .ok (.return_, 1) := by decide +kernel
theorem dX1_giveOut_0 : decode cX1_giveOut 0 = .ok (.iconst 1, 1) := by decide +kernel
theorem dX1_giveOut_1 : decode cX1_giveOut 1 = .ok (.aload_n 0, 1) := by decide +kernel
theorem dX1_giveOut_2 : decode cX1_giveOut 2 = .ok (.getfield 39, 3) := by decide +kernel
theorem dX1_giveOut_5 : decode cX1_giveOut 5 = .ok (.ishl, 1) := by decide +kernel
theorem dX1_giveOut_6 : decode cX1_giveOut 6 = .ok (.iconst 1, 1) := by decide +kernel
theorem dX1_giveOut_7 : decode cX1_giveOut 7 = .ok (.isub, 1) := by decide +kernel
theorem dX1_giveOut_8 : decode cX1_giveOut 8 = .ok (.istore_n 2, 1) := by decide +kernel
theorem dX1_giveOut_9 : decode cX1_giveOut 9 = .ok (.iload_n 2, 1) := by decide +kernel
theorem dX1_giveOut_10 : decode cX1_giveOut 10 = .ok (.ifCond .lt 30, 3) := by decide +kernel
theorem dX1_giveOut_13 : decode cX1_giveOut 13 = .ok (.aload_n 0, 1) := by decide +kernel
theorem dX1_giveOut_14 : decode cX1_giveOut 14 = .ok (.getfield 9, 3) := by decide +kernel
theorem dX1_giveOut_17 : decode cX1_giveOut 17 = .ok (.iload_n 2, 1) := by decide +kernel
theorem dX1_giveOut_18 : decode cX1_giveOut 18 = .ok (.invokestatic 86, 3) := by decide +kernel
theorem dX1_giveOut_21 : decode cX1_giveOut 21 = .ok (.ifCond .eq 13, 3) := by decide +kernel
theorem dX1_giveOut_34 : decode cX1_giveOut 34 = .ok (.iinc 2 (-1), 3) := by decide +kernel
theorem dX1_giveOut_37 : decode cX1_giveOut 37 = .ok (.goto (-28), 3) := by decide +kernel
theorem dX1_giveOut_24 : decode cX1_giveOut 24 = .ok (.aload_n 0, 1) := by decide +kernel
theorem dX1_giveOut_25 : decode cX1_giveOut 25 = .ok (.iload_n 2, 1) := by decide +kernel
theorem dX1_giveOut_26 : decode cX1_giveOut 26 = .ok (.iload_n 1, 1) := by decide +kernel
theorem dX1_giveOut_27 : decode cX1_giveOut 27 = .ok (.iload_n 2, 1) := by decide +kernel
theorem dX1_giveOut_28 : decode cX1_giveOut 28 = .ok (.iconst (-1), 1) := by decide +kernel
theorem dX1_giveOut_29 : decode cX1_giveOut 29 = .ok (.ixor, 1) := by decide +kernel
theorem dX1_giveOut_30 : decode cX1_giveOut 30 = .ok (.iand, 1) := by decide +kernel
theorem kw644 : Cond.code yX1_giveOnTopOf cX1_giveOnTopOf 5 none ∈ Tg := mem_Tg (List.mem_append_right _ (List.mem_of_getElem? (i := 644) (by decide +kernel))) (by decide +kernel)
theorem dX1_giveOut_31 : decode cX1_giveOut 31 = .ok (.invokevirtual 116, 3) := by decide +kernel
theorem dX1_giveOut_40 : decode cX1_giveOut 40 = .ok (.return_, 1) := by decide +kernel
theorem dX1_serve_0 : decode cX1_serve 0 = .ok (.aload_n 1, 1) := by decide +kernel
theorem dX1_serve_1 : decode cX1_serve 1 = .ok (.ifnonnull 5, 3) := by decide +kernel
theorem dX1_serve_6 : decode cX1_serve 6 = .ok (.aload_n 0, 1) := by decide +kernel
theorem dX1_serve_7 : decode cX1_serve 7 = .ok (.getfield 9, 3) := by decide +kernel
theorem dX1_serve_10 : decode cX1_serve 10 = .ok (.iconst 0, 1) := by decide +kernel
theorem dX1_serve_11 : decode cX1_serve 11 = .ok (.invokestatic 63, 3) := by decide +kernel
theorem dX1_serve_14 : decode cX1_serve 14 = .ok (.aload_n 0, 1) := by decide +kernel
theorem dX1_serve_15 : decode cX1_serve 15 = .ok (.getfield 9, 3) := by decide +kernel
theorem dX1_serve_18 : decode cX1_serve 18 = .ok (.iconst 0, 1) := by decide +kernel
theorem dX1_serve_19 : decode cX1_serve 19 = .ok (.iconst 1, 1) := by decide +kernel
theorem dX1_serve_20 : decode cX1_serve 20 = .ok (.invokestatic 50, 3) := by decide +kernel
theorem dX1_serve_23 : decode cX1_serve 23 = .ok (.iconst 0, 1) := by decide +kernel
theorem dX1_serve_24 : decode cX1_serve 24 = .ok (.istore_n 2, 1) := by decide +kernel
theorem dX1_serve_25 : decode cX1_serve 25 = .ok (.iload_n 2, 1) := by decide +kernel
theorem dX1_serve_26 : decode cX1_serve 26 = .ok (.aload_n 1, 1) := by decide +kernel
theorem dX1_serve_27 : decode cX1_serve 27 = .ok (.getfield 100, 3) := by decide +kernel
theorem dX1_serve_30 : decode cX1_serve 30 = .ok (.if_icmp .ge 75, 3) := by decide +kernel
theorem dX1_serve_33 : decode cX1_serve 33 = .ok (.iconst 0, 1) := by decide +kernel
theorem dX1_serve_34 : decode cX1_serve 34 = .ok (.istore_n 3, 1) := by decide +kernel
theorem dX1_serve_35 : decode cX1_serve 35 = .ok (.iconst 0, 1) := by decide +kernel
theorem dX1_serve_36 : decode cX1_serve 36 = .ok (.istore 4, 2) := by decide +kernel
theorem dX1_serve_38 : decode cX1_serve 38 = .ok (.iload 4, 2) := by decide +kernel
theorem dX1_serve_40 : decode cX1_serve 40 = .ok (.aload_n 0, 1) := by decide +kernel
theorem dX1_serve_41 : decode cX1_serve 41 = .ok (.getfield 39, 3) := by decide +kernel
theorem dX1_serve_44 : decode cX1_serve 44 = .ok (.if_icmp .ge 50, 3) := by decide +kernel
theorem dX1_serve_47 : decode cX1_serve 47 = .ok (.aload_n 1, 1) := by decide +kernel
theorem dX1_serve_48 : decode cX1_serve 48 = .ok (.iload_n 2, 1) := by decide +kernel
theorem dX1_serve_49 : decode cX1_serve 49 = .ok (.aload_n 0, 1) := by decide +kernel
theorem dX1_serve_50 : decode cX1_serve 50 = .ok (.getfield 44, 3) := by decide +kernel
theorem dX1_serve_53 : decode cX1_serve 53 = .ok (.iload 4, 2) := by decide +kernel
theorem dX1_serve_55 : decode cX1_serve 55 = .ok (.invokestatic 75, 3) := by decide +kernel
theorem dX1_serve_58 : decode cX1_serve 58 = .ok (.ifCond .eq 7, 3) := by decide +kernel
theorem dX1_serve_65 : decode cX1_serve 65 = .ok (.iconst 1, 1) := by decide +kernel
theorem dX1_serve_66 : decode cX1_serve 66 = .ok (.aload_n 0, 1) := by decide +kernel
theorem dX1_serve_67 : decode cX1_serve 67 = .ok (.getfield 18, 3) := by decide +kernel
theorem dX1_serve_70 : decode cX1_serve 70 = .ok (.iload 4, 2) := by decide +kernel
theorem dX1_serve_72 : decode cX1_serve 72 = .ok (.invokestatic 86, 3) := by decide +kernel
theorem kw634 : Cond.code yX6_suits cX6_suits 5 (some .boolean) ∈ Tg := mem_Tg (List.mem_append_right _ (List.mem_of_getElem? (i := 634) (by decide +kernel))) (by decide +kernel)
theorem dX1_serve_75 : decode cX1_serve 75 = .ok (.invokevirtual 103, 3) := by decide +kernel
theorem dX1_serve_78 : decode cX1_serve 78 = .ok (.ifCond .eq 10, 3) := by decide +kernel
theorem dX1_serve_88 : decode cX1_serve 88 = .ok (.iinc 4 1, 3) := by decide +kernel
theorem dX1_serve_91 : decode cX1_serve 91 = .ok (.goto (-53), 3) := by decide +kernel
theorem dX1_serve_81 : decode cX1_serve 81 = .ok (.iload_n 3, 1) := by decide +kernel
theorem dX1_serve_82 : decode cX1_serve 82 = .ok (.iconst 1, 1) := by decide +kernel
theorem dX1_serve_83 : decode cX1_serve 83 = .ok (.iload 4, 2) := by decide +kernel
theorem dX1_serve_85 : decode cX1_serve 85 = .ok (.ishl, 1) := by decide +kernel
theorem dX1_serve_86 : decode cX1_serve 86 = .ok (.ior, 1) := by decide +kernel
theorem dX1_serve_87 : decode cX1_serve 87 = .ok (.istore_n 3, 1) := by decide +kernel
theorem dX1_serve_61 : decode cX1_serve 61 = .ok (.iconst 0, 1) := by decide +kernel
theorem dX1_serve_62 : decode cX1_serve 62 = .ok (.goto 4, 3) := by decide +kernel
theorem dX1_serve_94 : decode cX1_serve 94 = .ok (.aload_n 0, 1) := by decide +kernel
theorem dX1_serve_95 : decode cX1_serve 95 = .ok (.iload_n 3, 1) := by decide +kernel
theorem kw640 : Cond.code yX1_giveOut cX1_giveOut 3 none ∈ Tg := mem_Tg (List.mem_append_right _ (List.mem_of_getElem? (i := 640) (by decide +kernel))) (by decide +kernel)
theorem dX1_serve_96 : decode cX1_serve 96 = .ok (.invokevirtual 107, 3) := by decide +kernel
theorem dX1_serve_99 : decode cX1_serve 99 = .ok (.iinc 2 1, 3) := by decide +kernel
theorem dX1_serve_102 : decode cX1_serve 102 = .ok (.goto (-77), 3) := by decide +kernel
theorem dX1_serve_105 : decode cX1_serve 105 = .ok (.iconst 0, 1) := by decide +kernel
theorem dX1_serve_106 : decode cX1_serve 106 = .ok (.istore_n 2, 1) := by decide +kernel
theorem dX1_serve_107 : decode cX1_serve 107 = .ok (.iconst 0, 1) := by decide +kernel
theorem dX1_serve_108 : decode cX1_serve 108 = .ok (.istore_n 3, 1) := by decide +kernel
theorem dX1_serve_109 : decode cX1_serve 109 = .ok (.iload_n 3, 1) := by decide +kernel
theorem dX1_serve_110 : decode cX1_serve 110 = .ok (.iconst 1, 1) := by decide +kernel
theorem dX1_serve_111 : decode cX1_serve 111 = .ok (.aload_n 0, 1) := by decide +kernel
theorem dX1_serve_112 : decode cX1_serve 112 = .ok (.getfield 39, 3) := by decide +kernel
theorem dX1_serve_115 : decode cX1_serve 115 = .ok (.ishl, 1) := by decide +kernel
theorem dX1_serve_116 : decode cX1_serve 116 = .ok (.if_icmp .ge 31, 3) := by decide +kernel
theorem dX1_serve_119 : decode cX1_serve 119 = .ok (.aload_n 0, 1) := by decide +kernel
theorem dX1_serve_120 : decode cX1_serve 120 = .ok (.getfield 9, 3) := by decide +kernel
theorem dX1_serve_123 : decode cX1_serve 123 = .ok (.iload_n 3, 1) := by decide +kernel
theorem dX1_serve_124 : decode cX1_serve 124 = .ok (.invokestatic 86, 3) := by decide +kernel
theorem dX1_serve_127 : decode cX1_serve 127 = .ok (.ifCond .eq 14, 3) := by decide +kernel
theorem dX1_serve_141 : decode cX1_serve 141 = .ok (.iinc 3 1, 3) := by decide +kernel
theorem dX1_serve_144 : decode cX1_serve 144 = .ok (.goto (-35), 3) := by decide +kernel
theorem dX1_serve_130 : decode cX1_serve 130 = .ok (.iload_n 2, 1) := by decide +kernel
theorem dX1_serve_131 : decode cX1_serve 131 = .ok (.iload_n 3, 1) := by decide +kernel
theorem kw619 : Cond.code yJ6_bitCount_0f7a4 cJ6_bitCount_0f7a4 1 (some .int) ∈ Tg := mem_Tg (List.mem_append_right _ (List.mem_of_getElem? (i := 619) (by decide +kernel))) (by decide +kernel)
theorem dX1_serve_132 : decode cX1_serve 132 = .ok (.invokestatic 111, 3) := by decide +kernel
theorem dX1_serve_135 : decode cX1_serve 135 = .ok (.iconst 2, 1) := by decide +kernel
theorem dX1_serve_136 : decode cX1_serve 136 = .ok (.idiv, 1) := by decide +kernel
theorem dX1_serve_137 : decode cX1_serve 137 = .ok (.invokestatic 36, 3) := by decide +kernel
theorem dX1_serve_140 : decode cX1_serve 140 = .ok (.istore_n 2, 1) := by decide +kernel
theorem dX1_serve_147 : decode cX1_serve 147 = .ok (.iload_n 2, 1) := by decide +kernel
theorem dX1_serve_148 : decode cX1_serve 148 = .ok (.ireturn, 1) := by decide +kernel
theorem fg_X1_24 : FG RX1 24 4 1 .int false := ⟨RX4, TX4, 3, tyX4, rfl, in4, by decide, tyX4_ok, nmX4, kw59, rfl, by decide +kernel⟩
theorem mh_X1_30 : MH RX1 30 Lib.Math.min.name Lib.Math.min.code 2 := ⟨kw567, kw377, kw9, kw378⟩
theorem mh_X1_36 : MH RX1 36 Lib.Math.max.name Lib.Math.max.code 2 := ⟨kw568, kw170, kw9, kw171⟩
theorem fg_X1_39 : FG RX1 39 1 5 .int false := ⟨RX1, TX1, 8, tyX1, rfl, in1, by decide, tyX1_ok, nmX1, kw194, rfl, by decide +kernel⟩
theorem cv_X1_40 : CVw RX1 40 RX4 yX4_ofSide 1 := ⟨by decide +kernel, kw569, kw570, kw571, kw4⟩
theorem fg_X1_44 : FG RX1 44 1 4 .int false := ⟨RX1, TX1, 8, tyX1, rfl, in1, by decide, tyX1_ok, nmX1, kw193, rfl, by decide +kernel⟩
theorem fg_X1_15 : FG RX1 15 1 1 (.array .int) true := ⟨RX1, TX1, 8, tyX1, rfl, in1, by decide, tyX1_ok, nmX1, kw190, rfl, by decide +kernel⟩
theorem cv_X1_47 : CVw RX1 47 RX4 yX4_matesOf 1 := ⟨by decide +kernel, kw573, kw555, kw556, kw4⟩
theorem cn_X1_50 : CNw RX1 50 yX9_put "LeftAndRight" 3 := ⟨by decide +kernel, kn24, kw319, kw1⟩
theorem fg_X1_18 : FG RX1 18 1 2 (.array .int) true := ⟨RX1, TX1, 8, tyX1, rfl, in1, by decide, tyX1_ok, nmX1, kw191, rfl, by decide +kernel⟩
theorem fg_X1_54 : FG RX1 54 4 2 .int false := ⟨RX4, TX4, 3, tyX4, rfl, in4, by decide, tyX4_ok, nmX4, kw64, rfl, by decide +kernel⟩
theorem cv_X1_57 : CVw RX1 57 RX4 yX4_sizeOn 2 := ⟨by decide +kernel, kw575, kw457, kw458, kw4⟩
theorem cn_X1_86 : CNw RX1 86 yX9_at "LeftAndRight" 2 := ⟨by decide +kernel, kn26, kw331, kw1⟩
theorem mh_X1_97 : MH RX1 97 Lib.Math.abs.name Lib.Math.abs.code 1 := ⟨kw596, kw522, kw9, kw523⟩
theorem fg_X1_9 : FG RX1 9 1 0 (.array .int) true := ⟨RX1, TX1, 8, tyX1, rfl, in1, by decide, tyX1_ok, nmX1, kw189, rfl, by decide +kernel⟩
theorem cv_X1_94 : CVw RX1 94 RX1 yX1_distance 2 := ⟨by decide +kernel, kw592, kw594, ks13, kw10⟩
theorem cn_X1_75 : CNw RX1 75 yX9_hasBit "LeftAndRight" 2 := ⟨by decide +kernel, kn25, kw585, kw1⟩
theorem cv_X1_90 : CVw RX1 90 RX1 yX1_worthOf 3 := ⟨by decide +kernel, kw588, kw590, ks12, kw10⟩
theorem fg_X1_21 : FG RX1 21 1 3 (.array .int) true := ⟨RX1, TX1, 8, tyX1, rfl, in1, by decide, tyX1_ok, nmX1, kw192, rfl, by decide +kernel⟩
theorem fg_X1_69 : FG RX1 69 1 6 .int false := ⟨RX1, TX1, 8, tyX1, rfl, in1, by decide, tyX1_ok, nmX1, kw195, rfl, by decide +kernel⟩
theorem fg_X1_72 : FG RX1 72 1 7 .int false := ⟨RX1, TX1, 8, tyX1, rfl, in1, by decide, tyX1_ok, nmX1, kw197, rfl, by decide +kernel⟩
theorem cv_X1_60 : CVw RX1 60 RX1 yX1_bestWithout 1 := ⟨by decide +kernel, kw580, kw582, ks11, kw10⟩
theorem cs_X1_63 : CSw RX1 63 yJ7_fill_53178 2 := ⟨by decide +kernel, kw597, kw598, kw18⟩
theorem cv_X1_79 : CVw RX1 79 RX1 yX1_firstBest 2 := ⟨by decide +kernel, kw600, kw602, ks14, kw10⟩
theorem cv_X1_82 : CVw RX1 82 RX1 yX1_join 2 := ⟨by decide +kernel, kw604, kw606, ks15, kw10⟩
theorem cv_X1_116 : CVw RX1 116 RX1 yX1_giveOnTopOf 2 := ⟨by decide +kernel, kw641, kw643, ks17, kw10⟩
theorem fg_X1_100 : FG RX1 100 6 2 .int false := ⟨RX6, TX6, 4, tyX6, rfl, in6, by decide, tyX6_ok, nmX6, kw86, rfl, by decide +kernel⟩
theorem cv_X1_103 : CVw RX1 103 RX6 yX6_suits 3 := ⟨by decide +kernel, kw631, kw632, kw633, kw5⟩
theorem cv_X1_107 : CVw RX1 107 RX1 yX1_giveOut 1 := ⟨by decide +kernel, kw637, kw639, ks16, kw10⟩
theorem cs_X1_111 : CSw RX1 111 yJ6_bitCount_0f7a4 1 := ⟨by decide +kernel, kw645, kw618, kw19⟩
set_option maxHeartbeats 8000000 in
set_option maxRecDepth 100000 in
theorem c_X1_look (l : Launch) (dC : Nat → ClassId) (dI : Nat → Nat → Nat) (cc : Nat → ClassId) (q0 q1 q2 q3 q4 q5 q6 : Nat) (lefts_ : Int32) (clogs : Int32) (number : Int32) (apart : Int32) (mates : (Nat → Int32)) (sizes : (Nat → Int32)) (o1_clogs : Int32) (o1_day : Int32) (o1_cells : (Nat → Int32)) (sz : Nat) (o_mates : (Nat → Int32)) (o_sizes : (Nat → Int32)) (o_lefts_ : Int32) (o_clogs : Int32) (hu : f_X1_look mates sizes o1_clogs o1_day o1_cells = some (o_mates, o_sizes, o_lefts_, o_clogs)) : Met l yX1_look (mw yX1_look cX1_look 3 none) ({ frames := 5, cells := 0, slots := 0, locals := 115 } : Room) (va_Pc [.ref q0, .ref q5] (mP (dC, dI) (ts cc) sz [(q0, .inr (1, [.ref q1, .ref q2, .ref q3, .ref q4, .int lefts_, .int clogs, .int number, .int apart])), (q2, .inl (cc 0, 10, .inl mates)), (q3, .inl (cc 0, 10, .inl sizes)), (q5, .inr (4, [.ref q6, .int o1_clogs, .int o1_day])), (q6, .inl (cc 0, 50, .inl o1_cells))])) ((fun A => va_Qv (fun (w : (Nat → Int32) × (Nat → Int32) × Int32 × Int32) => w = (o_mates, o_sizes, o_lefts_, o_clogs)) (fun (w : (Nat → Int32) × (Nat → Int32) × Int32 × Int32) t => va_P (dC, dI) classes [(q0, .inr (1, [.ref q1, .ref q2, .ref q3, .ref q4, .int w.2.2.1, .int w.2.2.2, .int number, .int apart])), (q2, .inl (cc 0, 10, .inl w.1)), (q3, .inl (cc 0, 10, .inl w.2.1)), (q5, .inr (4, [.ref q6, .int o1_clogs, .int o1_day])), (q6, .inl (cc 0, 50, .inl o1_cells))] t.heap) A) (va_A [(q0, .inr (1, [.ref q1, .ref q2, .ref q3, .ref q4, .int lefts_, .int clogs, .int number, .int apart])), (q2, .inl (cc 0, 10, .inl mates)), (q3, .inl (cc 0, 10, .inl sizes)), (q5, .inr (4, [.ref q6, .int o1_clogs, .int o1_day])), (q6, .inl (cc 0, 50, .inl o1_cells))] sz)) 0 0 (va_A [(q0, .inr (1, [.ref q1, .ref q2, .ref q3, .ref q4, .int lefts_, .int clogs, .int number, .int apart])), (q2, .inl (cc 0, 10, .inl mates)), (q3, .inl (cc 0, 10, .inl sizes)), (q5, .inr (4, [.ref q6, .int o1_clogs, .int o1_day])), (q6, .inl (cc 0, 50, .inl o1_cells))] sz) := by
  refine met_go (Qc := fun A => va_Qv (fun (w : (Nat → Int32) × (Nat → Int32) × Int32 × Int32) => w = (o_mates, o_sizes, o_lefts_, o_clogs)) (fun (w : (Nat → Int32) × (Nat → Int32) × Int32 × Int32) t => va_P (dC, dI) classes [(q0, .inr (1, [.ref q1, .ref q2, .ref q3, .ref q4, .int w.2.2.1, .int w.2.2.2, .int number, .int apart])), (q2, .inl (cc 0, 10, .inl w.1)), (q3, .inl (cc 0, 10, .inl w.2.1)), (q5, .inr (4, [.ref q6, .int o1_clogs, .int o1_day])), (q6, .inl (cc 0, 50, .inl o1_cells))] t.heap) A) (by decide) (Nat.le_of_ble_eq_true rfl) ?_
  intro p e s m below meth c A ls H locs hC hr hlk hin hA hP hl _
  have hC : CX p m c cX1_look 3 s ([.ref q0, .ref q5] : List Value).toArray RX1 (dC, dI) (ts cc) := hC
  have hx := hC.1.1
  have hb := hC.1.2
  have h := hu
  have hu0 := hu
  unfold f_X1_look at h
  have hl : lv_has ls 3 [(0, .ref q0), (1, .ref q5)] := hl
  refine W_abs (fun Z eZ => ?_)
  refine lv_aload_n hx hb dX1_look_0 rfl (lv_at hl 1 rfl) ?_
  refine lv_ifnonnull (tgt := 5) hx hb dX1_look_1 (by decide) ?_
  refine lv_aload_n hx hb dX1_look_5 rfl (lv_at hl 0 rfl) ?_
  refine lv_iconst (v := 0) hx hb dX1_look_6 (by decide) ?_
  refine lv_bipush (v := 10) hx hb dX1_look_7 (by decide) ?_
  refine lv_aload_n hx hb dX1_look_9 rfl (lv_at hl 1 rfl) ?_
  refine g_get hC hP fg_X1_24 3 rfl rfl dX1_look_10 ?_
  refine g_min hC hl.1 mh_X1_30 (Nat.le_of_ble_eq_true rfl) (Nat.le_of_ble_eq_true rfl) (Nat.zero_le _) (Nat.zero_le _) dX1_look_13 ?_
  refine lv_topi (fun v1 ev => ?_)
  have h := nm_h ev h
  refine g_max hC hl.1 mh_X1_36 (Nat.le_of_ble_eq_true rfl) (Nat.le_of_ble_eq_true rfl) (Nat.zero_le _) (Nat.zero_le _) dX1_look_16 ?_
  refine lv_topi (fun v2 ev => ?_)
  have h := nm_h ev h
  refine g_put hC hP fg_X1_39 0 rfl rfl rfl (Nat.le_of_ble_eq_true rfl) dX1_look_19 (fun H locs hP => ?_)
  have hP : PD (dC, dI) A s.heap [(q0, .inr (1, [.ref q1, .ref q2, .ref q3, .ref q4, .int lefts_, .int v2, .int number, .int apart])), (q2, .inl (cc 0, 10, .inl mates)), (q3, .inl (cc 0, 10, .inl sizes)), (q5, .inr (4, [.ref q6, .int o1_clogs, .int o1_day])), (q6, .inl (cc 0, 50, .inl o1_cells))] H locs := hP
  refine lv_aload_n hx hb dX1_look_22 rfl (lv_at hl 0 rfl) ?_
  refine lv_aload_n hx hb dX1_look_23 rfl (lv_at hl 1 rfl) ?_
  refine lv_iconst (v := 0) hx hb dX1_look_24 (by decide) ?_
  obtain ⟨r3, hu, h⟩ := bnd_h h
  refine kc_i (kV hC (c_X4_ofSide l dC dI cc q5 q6 o1_clogs o1_day o1_cells 0 H.size r3 hu) cv_X1_40 kw572 rfl rfl ⟨(Nat.le_of_ble_eq_true rfl), (Nat.le_of_ble_eq_true rfl)⟩ hP [3, 4] rfl rfl rfl (q0 := 3) rfl (As := [.int 0]) (rest := [.ref q0]) rfl rfl hl.1 (Nat.le_of_ble_eq_true rfl) dX1_look_25 ⟨Nat.zero_le _, Nat.zero_le _⟩) hP hA [3, 4] rfl rfl (fun H locs hP => ?_)
  have hP : PD (dC, dI) A s.heap [(q0, .inr (1, [.ref q1, .ref q2, .ref q3, .ref q4, .int lefts_, .int v2, .int number, .int apart])), (q2, .inl (cc 0, 10, .inl mates)), (q3, .inl (cc 0, 10, .inl sizes)), (q5, .inr (4, [.ref q6, .int o1_clogs, .int o1_day])), (q6, .inl (cc 0, 50, .inl o1_cells))] H locs := hP
  refine g_put hC hP fg_X1_44 0 rfl rfl rfl (Nat.le_of_ble_eq_true rfl) dX1_look_28 (fun H locs hP => ?_)
  have hP : PD (dC, dI) A s.heap [(q0, .inr (1, [.ref q1, .ref q2, .ref q3, .ref q4, .int r3, .int v2, .int number, .int apart])), (q2, .inl (cc 0, 10, .inl mates)), (q3, .inl (cc 0, 10, .inl sizes)), (q5, .inr (4, [.ref q6, .int o1_clogs, .int o1_day])), (q6, .inl (cc 0, 50, .inl o1_cells))] H locs := hP
  refine lv_iconst (v := 0) hx hb dX1_look_31 (by decide) ?_
  refine lv_istore_n (lv' := [(2, .int 0), (0, .ref q0), (1, .ref q5)]) hx hb dX1_look_32 rfl hl (by decide) rfl (fun ls hl => ?_)
  obtain ⟨⟨j4x, w5x, w6x⟩, hlp, h⟩ := bnd_h h
  have L1 : ∀ (n : Nat) (j4 : Int32) (w5 : (Nat → Int32)) (w6 : (Nat → Int32)) (j4x : Int32) (w5x : (Nat → Int32)) (w6x : (Nat → Int32)), lp (u3 (b_X1_look_1 o1_cells o1_clogs o1_day v2)) n (j4, w5, w6) = some (j4x, w5x, w6x) → ∀ (H : Heap) (locs : List Loc) (ls : Array Slot), PD (dC, dI) A s.heap [(q0, .inr (1, [.ref q1, .ref q2, .ref q3, .ref q4, .int r3, .int v2, .int number, .int apart])), (q2, .inl (cc 0, 10, .inl w5)), (q3, .inl (cc 0, 10, .inl w6)), (q5, .inr (4, [.ref q6, .int o1_clogs, .int o1_day])), (q6, .inl (cc 0, 50, .inl o1_cells))] H locs → lv_has ls 3 [(0, .ref q0), (1, .ref q5), (2, .int j4)] → (∀ (H : Heap) (locs : List Loc) (ls : Array Slot), PD (dC, dI) A s.heap [(q0, .inr (1, [.ref q1, .ref q2, .ref q3, .ref q4, .int r3, .int v2, .int number, .int apart])), (q2, .inl (cc 0, 10, .inl w5x)), (q3, .inl (cc 0, 10, .inl w6x)), (q5, .inr (4, [.ref q6, .int o1_clogs, .int o1_day])), (q6, .inl (cc 0, 50, .inl o1_cells))] H locs → lv_has ls 3 [(0, .ref q0), (1, .ref q5), (2, .int j4x)] → W p l e ({ frames := 5, cells := 0, slots := 0, locals := 115 } : Room) s m ([.ref q0, .ref q5] : List Value).toArray below meth c H locs 0 0 Z (F0 m 77 ls [])) → W p l e ({ frames := 5, cells := 0, slots := 0, locals := 115 } : Room) s m ([.ref q0, .ref q5] : List Value).toArray below meth c H locs 0 0 Z (F0 m 33 ls []) := by
    intro n
    induction n with
    | zero => intro j4 w5 w6 j4x w5x w6x h; exact (lp_0 h).elim
    | succ n ih =>
      intro j4 w5 w6 j4x w5x w6x h H locs ls hP hl KK
      obtain ⟨y, h, hz⟩ := lp_h h
      refine lv_iload_n hx hb dX1_look_33 rfl (lv_at hl 2 rfl) ?_
      refine lv_aload_n hx hb dX1_look_34 rfl (lv_at hl 0 rfl) ?_
      refine g_get hC hP fg_X1_39 0 rfl rfl dX1_look_35 ?_
      refine lv_icmp_ge (tgt := 77) hx hb dX1_look_38 (by decide) (fun c7 => ?_) (fun c7 => ?_)
      · have h := if_t c7 h
        cases lp_e h hz
        exact KK H locs ls hP (lv_sub hl [0, 1, 2] rfl)
      · have h := if_f c7 h
        refine lv_aload_n hx hb dX1_look_41 rfl (lv_at hl 0 rfl) ?_
        refine g_get hC hP fg_X1_15 0 rfl rfl dX1_look_42 ?_
        refine lv_iload_n hx hb dX1_look_45 rfl (lv_at hl 2 rfl) ?_
        refine lv_aload_n hx hb dX1_look_46 rfl (lv_at hl 1 rfl) ?_
        refine lv_iload_n hx hb dX1_look_47 rfl (lv_at hl 2 rfl) ?_
        obtain ⟨r8, hu, h⟩ := bnd_h h
        refine kc_i (kV hC (c_X4_matesOf l dC dI cc q5 q6 o1_clogs o1_day o1_cells j4 H.size r8 hu) cv_X1_47 kw557 rfl rfl ⟨(Nat.le_of_ble_eq_true rfl), (Nat.le_of_ble_eq_true rfl)⟩ hP [3, 4] rfl rfl rfl (q0 := 3) rfl (As := [.int j4]) (rest := [.int j4, .ref q2]) rfl rfl hl.1 (Nat.le_of_ble_eq_true rfl) dX1_look_48 ⟨Nat.zero_le _, Nat.zero_le _⟩) hP hA [3, 4] rfl rfl (fun H locs hP => ?_)
        have hP : PD (dC, dI) A s.heap [(q0, .inr (1, [.ref q1, .ref q2, .ref q3, .ref q4, .int r3, .int v2, .int number, .int apart])), (q2, .inl (cc 0, 10, .inl w5)), (q3, .inl (cc 0, 10, .inl w6)), (q5, .inr (4, [.ref q6, .int o1_clogs, .int o1_day])), (q6, .inl (cc 0, 50, .inl o1_cells))] H locs := hP
        obtain ⟨w9, hu, h⟩ := bnd_h h
        refine kc_v (kN hC (c_X9_put l dC dI cc q2 10 w5 j4 r8 H.size w9 hu) cn_X1_50 kw320 rfl rfl ⟨(Nat.le_of_ble_eq_true rfl), (Nat.le_of_ble_eq_true rfl)⟩ hP [1] rfl rfl (As := [.ref q2, .int j4, .int r8]) (rest := []) rfl rfl hl.1 (Nat.le_of_ble_eq_true rfl) dX1_look_51 ⟨Nat.zero_le _, Nat.zero_le _⟩) hP hA [1] rfl rfl (fun H locs hP => ?_)
        have hP : PD (dC, dI) A s.heap [(q0, .inr (1, [.ref q1, .ref q2, .ref q3, .ref q4, .int r3, .int v2, .int number, .int apart])), (q2, .inl (cc 0, 10, .inl w9)), (q3, .inl (cc 0, 10, .inl w6)), (q5, .inr (4, [.ref q6, .int o1_clogs, .int o1_day])), (q6, .inl (cc 0, 50, .inl o1_cells))] H locs := hP
        refine lv_aload_n hx hb dX1_look_54 rfl (lv_at hl 0 rfl) ?_
        refine g_get hC hP fg_X1_18 0 rfl rfl dX1_look_55 ?_
        refine lv_iload_n hx hb dX1_look_58 rfl (lv_at hl 2 rfl) ?_
        refine lv_aload_n hx hb dX1_look_59 rfl (lv_at hl 1 rfl) ?_
        refine lv_iload_n hx hb dX1_look_60 rfl (lv_at hl 2 rfl) ?_
        refine lv_aload_n hx hb dX1_look_61 rfl (lv_at hl 1 rfl) ?_
        refine g_get hC hP fg_X1_54 3 rfl rfl dX1_look_62 ?_
        obtain ⟨r10, hu, h⟩ := bnd_h h
        refine kc_i (kV hC (c_X4_sizeOn l dC dI cc q5 q6 o1_clogs o1_day o1_cells j4 o1_day H.size r10 hu) cv_X1_57 kw459 rfl rfl ⟨(Nat.le_of_ble_eq_true rfl), (Nat.le_of_ble_eq_true rfl)⟩ hP [3, 4] rfl rfl rfl (q0 := 3) rfl (As := [.int j4, .int o1_day]) (rest := [.int j4, .ref q3]) rfl rfl hl.1 (Nat.le_of_ble_eq_true rfl) dX1_look_65 ⟨Nat.zero_le _, Nat.zero_le _⟩) hP hA [3, 4] rfl rfl (fun H locs hP => ?_)
        have hP : PD (dC, dI) A s.heap [(q0, .inr (1, [.ref q1, .ref q2, .ref q3, .ref q4, .int r3, .int v2, .int number, .int apart])), (q2, .inl (cc 0, 10, .inl w9)), (q3, .inl (cc 0, 10, .inl w6)), (q5, .inr (4, [.ref q6, .int o1_clogs, .int o1_day])), (q6, .inl (cc 0, 50, .inl o1_cells))] H locs := hP
        obtain ⟨w11, hu, h⟩ := bnd_h h
        refine kc_v (kN hC (c_X9_put l dC dI cc q3 10 w6 j4 r10 H.size w11 hu) cn_X1_50 kw320 rfl rfl ⟨(Nat.le_of_ble_eq_true rfl), (Nat.le_of_ble_eq_true rfl)⟩ hP [2] rfl rfl (As := [.ref q3, .int j4, .int r10]) (rest := []) rfl rfl hl.1 (Nat.le_of_ble_eq_true rfl) dX1_look_68 ⟨Nat.zero_le _, Nat.zero_le _⟩) hP hA [2] rfl rfl (fun H locs hP => ?_)
        have hP : PD (dC, dI) A s.heap [(q0, .inr (1, [.ref q1, .ref q2, .ref q3, .ref q4, .int r3, .int v2, .int number, .int apart])), (q2, .inl (cc 0, 10, .inl w9)), (q3, .inl (cc 0, 10, .inl w11)), (q5, .inr (4, [.ref q6, .int o1_clogs, .int o1_day])), (q6, .inl (cc 0, 50, .inl o1_cells))] H locs := hP
        refine lv_iinc (v := (j4 + 1)) (lv' := [(2, .int (j4 + 1)), (0, .ref q0), (1, .ref q5)]) hx hb dX1_look_71 hl (k := 2) rfl rfl (by decide) rfl (fun ls hl => ?_)
        refine lv_goto (tgt := 33) hx hb dX1_look_74 (by decide) ?_
        exact ih _ _ _ _ _ _ (lp_n h hz) H locs ls hP (lv_sub hl [1, 2, 0] rfl) KK
  refine L1 FU _ _ _ j4x w5x w6x hlp H locs ls hP (lv_sub hl [1, 2, 0] rfl) (fun H locs ls hP hl => ?_)
  rw [eZ]
  exact ret_v hC hr hlk hP dX1_look_77 (w5x, w6x, r3, v2) (Option.some.inj h) rfl
set_option maxHeartbeats 8000000 in
set_option maxRecDepth 100000 in
theorem c_X1_distance (l : Launch) (dC : Nat → ClassId) (dI : Nat → Nat → Nat) (cc : Nat → ClassId) (q0 q1 q2 q3 q4 : Nat) (lefts_ : Int32) (clogs : Int32) (number : Int32) (apart : Int32) (sizes : (Nat → Int32)) (x1 : Int32) (x2 : Int32) (sz : Nat) (ret : Int32) (hu : f_X1_distance x1 x2 sizes = some ret) : Met l yX1_distance (mw yX1_distance cX1_distance 3 (some .int)) ({ frames := 1, cells := 0, slots := 0, locals := 21 } : Room) (va_Pc [.ref q0, .int x1, .int x2] (mP (dC, dI) (ts cc) sz [(q0, .inr (1, [.ref q1, .ref q2, .ref q3, .ref q4, .int lefts_, .int clogs, .int number, .int apart])), (q3, .inl (cc 0, 10, .inl sizes))])) ((fun A => va_Qi (fun (r : Int32) (w : Unit) => r = ret ∧ w = ()) (fun (w : Unit) t => va_P (dC, dI) classes [(q0, .inr (1, [.ref q1, .ref q2, .ref q3, .ref q4, .int lefts_, .int clogs, .int number, .int apart])), (q3, .inl (cc 0, 10, .inl sizes))] t.heap) A) (va_A [(q0, .inr (1, [.ref q1, .ref q2, .ref q3, .ref q4, .int lefts_, .int clogs, .int number, .int apart])), (q3, .inl (cc 0, 10, .inl sizes))] sz)) 0 0 (va_A [(q0, .inr (1, [.ref q1, .ref q2, .ref q3, .ref q4, .int lefts_, .int clogs, .int number, .int apart])), (q3, .inl (cc 0, 10, .inl sizes))] sz) := by
  refine met_go (Qc := fun A => va_Qi (fun (r : Int32) (w : Unit) => r = ret ∧ w = ()) (fun (w : Unit) t => va_P (dC, dI) classes [(q0, .inr (1, [.ref q1, .ref q2, .ref q3, .ref q4, .int lefts_, .int clogs, .int number, .int apart])), (q3, .inl (cc 0, 10, .inl sizes))] t.heap) A) (by decide) (Nat.le_of_ble_eq_true rfl) ?_
  intro p e s m below meth c A ls H locs hC hr hlk hin hA hP hl _
  have hC : CX p m c cX1_distance 3 s ([.ref q0, .int x1, .int x2] : List Value).toArray RX1 (dC, dI) (ts cc) := hC
  have hx := hC.1.1
  have hb := hC.1.2
  have h := hu
  have hu0 := hu
  unfold f_X1_distance at h
  have hl : lv_has ls 3 [(0, .ref q0), (1, .int x1), (2, .int x2)] := hl
  refine lv_aload_n hx hb dX1_distance_0 rfl (lv_at hl 0 rfl) ?_
  refine g_get hC hP fg_X1_18 0 rfl rfl dX1_distance_1 ?_
  refine lv_iload_n hx hb dX1_distance_4 rfl (lv_at hl 1 rfl) ?_
  obtain ⟨r1, hu, h⟩ := bnd_h h
  refine kc_i (kN hC (c_X9_at l dC dI cc q3 10 sizes x1 H.size r1 hu) cn_X1_86 kw332 rfl rfl ⟨(Nat.le_of_ble_eq_true rfl), (Nat.le_of_ble_eq_true rfl)⟩ hP [1] rfl rfl (As := [.ref q3, .int x1]) (rest := []) rfl rfl hl.1 (Nat.le_of_ble_eq_true rfl) dX1_distance_5 ⟨Nat.zero_le _, Nat.zero_le _⟩) hP hA [1] rfl rfl (fun H locs hP => ?_)
  have hP : PD (dC, dI) A s.heap [(q0, .inr (1, [.ref q1, .ref q2, .ref q3, .ref q4, .int lefts_, .int clogs, .int number, .int apart])), (q3, .inl (cc 0, 10, .inl sizes))] H locs := hP
  refine lv_aload_n hx hb dX1_distance_8 rfl (lv_at hl 0 rfl) ?_
  refine g_get hC hP fg_X1_18 0 rfl rfl dX1_distance_9 ?_
  refine lv_iload_n hx hb dX1_distance_12 rfl (lv_at hl 2 rfl) ?_
  obtain ⟨r2, hu, h⟩ := bnd_h h
  refine kc_i (kN hC (c_X9_at l dC dI cc q3 10 sizes x2 H.size r2 hu) cn_X1_86 kw332 rfl rfl ⟨(Nat.le_of_ble_eq_true rfl), (Nat.le_of_ble_eq_true rfl)⟩ hP [1] rfl rfl (As := [.ref q3, .int x2]) (rest := [.int r1]) rfl rfl hl.1 (Nat.le_of_ble_eq_true rfl) dX1_distance_13 ⟨Nat.zero_le _, Nat.zero_le _⟩) hP hA [1] rfl rfl (fun H locs hP => ?_)
  have hP : PD (dC, dI) A s.heap [(q0, .inr (1, [.ref q1, .ref q2, .ref q3, .ref q4, .int lefts_, .int clogs, .int number, .int apart])), (q3, .inl (cc 0, 10, .inl sizes))] H locs := hP
  refine lv_isub hx hb dX1_distance_16 ?_
  refine g_abs hC hl.1 mh_X1_97 (Nat.le_of_ble_eq_true rfl) (Nat.le_of_ble_eq_true rfl) (Nat.zero_le _) (Nat.zero_le _) dX1_distance_17 ?_
  refine lv_topi (fun v3 ev => ?_)
  have h := nm_h ev h
  exact ret_i hC hr hlk hP dX1_distance_20 () (⟨Option.some.inj h, rfl⟩) rfl
set_option maxHeartbeats 8000000 in
set_option maxRecDepth 100000 in
theorem c_X1_worthOf (l : Launch) (dC : Nat → ClassId) (dI : Nat → Nat → Nat) (cc : Nat → ClassId) (q0 q1 q2 q3 q4 : Nat) (lefts_ : Int32) (clogs : Int32) (number : Int32) (apart : Int32) (sets : (Nat → Int32)) (sizes : (Nat → Int32)) (x1 : Int32) (x2 : Int32) (x3 : Int32) (sz : Nat) (ret : Int32) (hu : f_X1_worthOf x1 x2 x3 sets sizes = some ret) : Met l yX1_worthOf (mw yX1_worthOf cX1_worthOf 4 (some .int)) ({ frames := 2, cells := 0, slots := 0, locals := 43 } : Room) (va_Pc [.ref q0, .int x1, .int x2, .int x3] (mP (dC, dI) (ts cc) sz [(q0, .inr (1, [.ref q1, .ref q2, .ref q3, .ref q4, .int lefts_, .int clogs, .int number, .int apart])), (q1, .inl (cc 0, 1024, .inl sets)), (q3, .inl (cc 0, 10, .inl sizes))])) ((fun A => va_Qi (fun (r : Int32) (w : Unit) => r = ret ∧ w = ()) (fun (w : Unit) t => va_P (dC, dI) classes [(q0, .inr (1, [.ref q1, .ref q2, .ref q3, .ref q4, .int lefts_, .int clogs, .int number, .int apart])), (q1, .inl (cc 0, 1024, .inl sets)), (q3, .inl (cc 0, 10, .inl sizes))] t.heap) A) (va_A [(q0, .inr (1, [.ref q1, .ref q2, .ref q3, .ref q4, .int lefts_, .int clogs, .int number, .int apart])), (q1, .inl (cc 0, 1024, .inl sets)), (q3, .inl (cc 0, 10, .inl sizes))] sz)) 0 0 (va_A [(q0, .inr (1, [.ref q1, .ref q2, .ref q3, .ref q4, .int lefts_, .int clogs, .int number, .int apart])), (q1, .inl (cc 0, 1024, .inl sets)), (q3, .inl (cc 0, 10, .inl sizes))] sz) := by
  refine met_go (Qc := fun A => va_Qi (fun (r : Int32) (w : Unit) => r = ret ∧ w = ()) (fun (w : Unit) t => va_P (dC, dI) classes [(q0, .inr (1, [.ref q1, .ref q2, .ref q3, .ref q4, .int lefts_, .int clogs, .int number, .int apart])), (q1, .inl (cc 0, 1024, .inl sets)), (q3, .inl (cc 0, 10, .inl sizes))] t.heap) A) (by decide) (Nat.le_of_ble_eq_true rfl) ?_
  intro p e s m below meth c A ls H locs hC hr hlk hin hA hP hl _
  have hC : CX p m c cX1_worthOf 4 s ([.ref q0, .int x1, .int x2, .int x3] : List Value).toArray RX1 (dC, dI) (ts cc) := hC
  have hx := hC.1.1
  have hb := hC.1.2
  have h := hu
  have hu0 := hu
  unfold f_X1_worthOf at h
  have hl : lv_has ls 4 [(0, .ref q0), (1, .int x1), (2, .int x2), (3, .int x3)] := hl
  refine lv_aload_n hx hb dX1_worthOf_0 rfl (lv_at hl 0 rfl) ?_
  refine g_get hC hP fg_X1_9 0 rfl rfl dX1_worthOf_1 ?_
  refine lv_iload_n hx hb dX1_worthOf_4 rfl (lv_at hl 1 rfl) ?_
  refine lv_iconst (v := 1) hx hb dX1_worthOf_5 (by decide) ?_
  refine lv_iload_n hx hb dX1_worthOf_6 rfl (lv_at hl 2 rfl) ?_
  refine lv_ishl hx hb dX1_worthOf_7 ?_
  refine lv_ior hx hb dX1_worthOf_8 ?_
  refine lv_iconst (v := 1) hx hb dX1_worthOf_9 (by decide) ?_
  refine lv_iload_n hx hb dX1_worthOf_10 rfl (lv_at hl 3 rfl) ?_
  refine lv_ishl hx hb dX1_worthOf_11 ?_
  refine lv_ior hx hb dX1_worthOf_12 ?_
  obtain ⟨r1, hu, h⟩ := bnd_h h
  refine kc_i (kN hC (c_X9_at l dC dI cc q1 1024 sets ((x1 ||| (1 <<< (x2 &&& 31))) ||| (1 <<< (x3 &&& 31))) H.size r1 hu) cn_X1_86 kw332 rfl rfl ⟨(Nat.le_of_ble_eq_true rfl), (Nat.le_of_ble_eq_true rfl)⟩ hP [1] rfl rfl (As := [.ref q1, .int ((x1 ||| (1 <<< (x2 &&& 31))) ||| (1 <<< (x3 &&& 31)))]) (rest := []) rfl rfl hl.1 (Nat.le_of_ble_eq_true rfl) dX1_worthOf_13 ⟨Nat.zero_le _, Nat.zero_le _⟩) hP hA [1] rfl rfl (fun H locs hP => ?_)
  have hP : PD (dC, dI) A s.heap [(q0, .inr (1, [.ref q1, .ref q2, .ref q3, .ref q4, .int lefts_, .int clogs, .int number, .int apart])), (q1, .inl (cc 0, 1024, .inl sets)), (q3, .inl (cc 0, 10, .inl sizes))] H locs := hP
  refine lv_sipush (v := 1000) hx hb dX1_worthOf_16 (by decide) ?_
  refine lv_iadd hx hb dX1_worthOf_19 ?_
  refine lv_aload_n hx hb dX1_worthOf_20 rfl (lv_at hl 0 rfl) ?_
  refine lv_iload_n hx hb dX1_worthOf_21 rfl (lv_at hl 2 rfl) ?_
  refine lv_iload_n hx hb dX1_worthOf_22 rfl (lv_at hl 3 rfl) ?_
  obtain ⟨r2, hu, h⟩ := bnd_h h
  refine kc_i (kV hC (c_X1_distance l dC dI cc q0 q1 q2 q3 q4 lefts_ clogs number apart sizes x2 x3 H.size r2 hu) cv_X1_94 kw595 rfl rfl ⟨(Nat.le_of_ble_eq_true rfl), (Nat.le_of_ble_eq_true rfl)⟩ hP [0, 2] rfl rfl rfl (q0 := 0) rfl (As := [.int x2, .int x3]) (rest := [.int (r1 + 1000)]) rfl rfl hl.1 (Nat.le_of_ble_eq_true rfl) dX1_worthOf_23 ⟨Nat.zero_le _, Nat.zero_le _⟩) hP hA [0, 2] rfl rfl (fun H locs hP => ?_)
  have hP : PD (dC, dI) A s.heap [(q0, .inr (1, [.ref q1, .ref q2, .ref q3, .ref q4, .int lefts_, .int clogs, .int number, .int apart])), (q1, .inl (cc 0, 1024, .inl sets)), (q3, .inl (cc 0, 10, .inl sizes))] H locs := hP
  refine lv_isub hx hb dX1_worthOf_26 ?_
  exact ret_i hC hr hlk hP dX1_worthOf_27 () (⟨Option.some.inj h, rfl⟩) rfl
set_option maxHeartbeats 8000000 in
set_option maxRecDepth 100000 in
theorem c_X1_bestWithout (l : Launch) (dC : Nat → ClassId) (dI : Nat → Nat → Nat) (cc : Nat → ClassId) (q0 q1 q2 q3 q4 : Nat) (lefts_ : Int32) (clogs : Int32) (number : Int32) (apart : Int32) (sets : (Nat → Int32)) (mates : (Nat → Int32)) (sizes : (Nat → Int32)) (x1 : Int32) (sz : Nat) (ret : Int32) (hu : f_X1_bestWithout x1 lefts_ clogs sets mates sizes = some ret) : Met l yX1_bestWithout (mw yX1_bestWithout cX1_bestWithout 5 (some .int)) ({ frames := 3, cells := 0, slots := 0, locals := 66 } : Room) (va_Pc [.ref q0, .int x1] (mP (dC, dI) (ts cc) sz [(q0, .inr (1, [.ref q1, .ref q2, .ref q3, .ref q4, .int lefts_, .int clogs, .int number, .int apart])), (q1, .inl (cc 0, 1024, .inl sets)), (q2, .inl (cc 0, 10, .inl mates)), (q3, .inl (cc 0, 10, .inl sizes))])) ((fun A => va_Qi (fun (r : Int32) (w : Unit) => r = ret ∧ w = ()) (fun (w : Unit) t => va_P (dC, dI) classes [(q0, .inr (1, [.ref q1, .ref q2, .ref q3, .ref q4, .int lefts_, .int clogs, .int number, .int apart])), (q1, .inl (cc 0, 1024, .inl sets)), (q2, .inl (cc 0, 10, .inl mates)), (q3, .inl (cc 0, 10, .inl sizes))] t.heap) A) (va_A [(q0, .inr (1, [.ref q1, .ref q2, .ref q3, .ref q4, .int lefts_, .int clogs, .int number, .int apart])), (q1, .inl (cc 0, 1024, .inl sets)), (q2, .inl (cc 0, 10, .inl mates)), (q3, .inl (cc 0, 10, .inl sizes))] sz)) 0 0 (va_A [(q0, .inr (1, [.ref q1, .ref q2, .ref q3, .ref q4, .int lefts_, .int clogs, .int number, .int apart])), (q1, .inl (cc 0, 1024, .inl sets)), (q2, .inl (cc 0, 10, .inl mates)), (q3, .inl (cc 0, 10, .inl sizes))] sz) := by
  refine met_go (Qc := fun A => va_Qi (fun (r : Int32) (w : Unit) => r = ret ∧ w = ()) (fun (w : Unit) t => va_P (dC, dI) classes [(q0, .inr (1, [.ref q1, .ref q2, .ref q3, .ref q4, .int lefts_, .int clogs, .int number, .int apart])), (q1, .inl (cc 0, 1024, .inl sets)), (q2, .inl (cc 0, 10, .inl mates)), (q3, .inl (cc 0, 10, .inl sizes))] t.heap) A) (by decide) (Nat.le_of_ble_eq_true rfl) ?_
  intro p e s m below meth c A ls H locs hC hr hlk hin hA hP hl _
  have hC : CX p m c cX1_bestWithout 5 s ([.ref q0, .int x1] : List Value).toArray RX1 (dC, dI) (ts cc) := hC
  have hx := hC.1.1
  have hb := hC.1.2
  have h := hu
  have hu0 := hu
  unfold f_X1_bestWithout at h
  have hl : lv_has ls 5 [(0, .ref q0), (1, .int x1)] := hl
  refine W_abs (fun Z eZ => ?_)
  refine lv_iconst (v := 0) hx hb dX1_bestWithout_0 (by decide) ?_
  refine lv_istore_n (lv' := [(2, .int 0), (0, .ref q0), (1, .int x1)]) hx hb dX1_bestWithout_1 rfl hl (by decide) rfl (fun ls hl => ?_)
  obtain ⟨j1x, hlp, h⟩ := bnd_h h
  have L1 : ∀ (n : Nat) (j1 : Int32) (j1x : Int32), lp ((b_X1_bestWithout_1 clogs lefts_ x1)) n j1 = some j1x → ∀ (H : Heap) (locs : List Loc) (ls : Array Slot), PD (dC, dI) A s.heap [(q0, .inr (1, [.ref q1, .ref q2, .ref q3, .ref q4, .int lefts_, .int clogs, .int number, .int apart])), (q1, .inl (cc 0, 1024, .inl sets)), (q2, .inl (cc 0, 10, .inl mates)), (q3, .inl (cc 0, 10, .inl sizes))] H locs → lv_has ls 5 [(0, .ref q0), (1, .int x1), (2, .int j1)] → (∀ (H : Heap) (locs : List Loc) (ls : Array Slot), PD (dC, dI) A s.heap [(q0, .inr (1, [.ref q1, .ref q2, .ref q3, .ref q4, .int lefts_, .int clogs, .int number, .int apart])), (q1, .inl (cc 0, 1024, .inl sets)), (q2, .inl (cc 0, 10, .inl mates)), (q3, .inl (cc 0, 10, .inl sizes))] H locs → lv_has ls 5 [(0, .ref q0), (1, .int x1), (2, .int j1x)] → W p l e ({ frames := 3, cells := 0, slots := 0, locals := 66 } : Room) s m ([.ref q0, .int x1] : List Value).toArray below meth c H locs 0 0 Z (F0 m 31 ls [])) → W p l e ({ frames := 3, cells := 0, slots := 0, locals := 66 } : Room) s m ([.ref q0, .int x1] : List Value).toArray below meth c H locs 0 0 Z (F0 m 2 ls []) := by
    intro n
    induction n with
    | zero => intro j1 j1x h; exact (lp_0 h).elim
    | succ n ih =>
      intro j1 j1x h H locs ls hP hl KK
      obtain ⟨y, h, hz⟩ := lp_h h
      refine lv_iload_n hx hb dX1_bestWithout_2 rfl (lv_at hl 2 rfl) ?_
      refine lv_aload_n hx hb dX1_bestWithout_3 rfl (lv_at hl 0 rfl) ?_
      refine g_get hC hP fg_X1_39 0 rfl rfl dX1_bestWithout_4 ?_
      refine lv_icmp_ge (tgt := 31) hx hb dX1_bestWithout_7 (by decide) (fun c2 => ?_) (fun c2 => ?_)
      · have h := if_t c2 h
        cases lp_e h hz
        exact KK H locs ls hP (lv_sub hl [0, 1, 2] rfl)
      · have h := if_f c2 h
        refine lv_aload_n hx hb dX1_bestWithout_10 rfl (lv_at hl 0 rfl) ?_
        refine g_get hC hP fg_X1_44 0 rfl rfl dX1_bestWithout_11 ?_
        refine lv_iload_n hx hb dX1_bestWithout_14 rfl (lv_at hl 1 rfl) ?_
        refine lv_iconst (v := -1) hx hb dX1_bestWithout_15 (by decide) ?_
        refine lv_ixor hx hb dX1_bestWithout_16 ?_
        refine lv_iand hx hb dX1_bestWithout_17 ?_
        refine lv_iload_n hx hb dX1_bestWithout_18 rfl (lv_at hl 2 rfl) ?_
        obtain ⟨r3, hu, h⟩ := bnd_h h
        refine kc_z (kN hC (c_X9_hasBit l dC dI cc (lefts_ &&& (x1 ^^^ (-1))) j1 H.size r3 hu) cn_X1_75 kw586 rfl rfl ⟨(Nat.le_of_ble_eq_true rfl), (Nat.le_of_ble_eq_true rfl)⟩ hP [] rfl rfl (As := [.int (lefts_ &&& (x1 ^^^ (-1))), .int j1]) (rest := []) rfl rfl hl.1 (Nat.le_of_ble_eq_true rfl) dX1_bestWithout_19 ⟨Nat.zero_le _, Nat.zero_le _⟩) hP hA [] rfl rfl (fun hz_r3 H locs hP => ?_)
        have hP : PD (dC, dI) A s.heap [(q0, .inr (1, [.ref q1, .ref q2, .ref q3, .ref q4, .int lefts_, .int clogs, .int number, .int apart])), (q1, .inl (cc 0, 1024, .inl sets)), (q2, .inl (cc 0, 10, .inl mates)), (q3, .inl (cc 0, 10, .inl sizes))] H locs := hP
        refine lv_if_ne (tgt := 31) hx hb dX1_bestWithout_22 (by decide) (fun c4 => ?_) (fun c4 => ?_)
        · have h := if_f c4 h
          cases lp_e h hz
          exact KK H locs ls hP (lv_sub hl [0, 1, 2] rfl)
        · have h := if_t c4 h
          refine lv_iinc (v := (j1 + 1)) (lv' := [(2, .int (j1 + 1)), (0, .ref q0), (1, .int x1)]) hx hb dX1_bestWithout_25 hl (k := 2) rfl rfl (by decide) rfl (fun ls hl => ?_)
          refine lv_goto (tgt := 2) hx hb dX1_bestWithout_28 (by decide) ?_
          exact ih _ _ (lp_n h hz) H locs ls hP (lv_sub hl [1, 2, 0] rfl) KK
  refine L1 FU _ j1x hlp H locs ls hP (lv_sub hl [1, 2, 0] rfl) (fun H locs ls hP hl => ?_)
  refine lv_iload_n hx hb dX1_bestWithout_31 rfl (lv_at hl 2 rfl) ?_
  refine lv_aload_n hx hb dX1_bestWithout_32 rfl (lv_at hl 0 rfl) ?_
  refine g_get hC hP fg_X1_39 0 rfl rfl dX1_bestWithout_33 ?_
  refine lv_icmp_ge (tgt := 50) hx hb dX1_bestWithout_36 (by decide) (fun c5 => ?_) (fun c5 => ?_)
  · have h := if_t c5 h
    refine lv_iconst (v := 0) hx hb dX1_bestWithout_50 (by decide) ?_
    rw [eZ]
    exact ret_i hC hr hlk hP dX1_bestWithout_51 () (⟨Option.some.inj h, rfl⟩) rfl
  · have h := if_f c5 h
    refine lv_aload_n hx hb dX1_bestWithout_39 rfl (lv_at hl 0 rfl) ?_
    refine g_get hC hP fg_X1_44 0 rfl rfl dX1_bestWithout_40 ?_
    refine lv_iload_n hx hb dX1_bestWithout_43 rfl (lv_at hl 1 rfl) ?_
    refine lv_iand hx hb dX1_bestWithout_44 ?_
    refine lv_iload_n hx hb dX1_bestWithout_45 rfl (lv_at hl 2 rfl) ?_
    refine lv_ishr hx hb dX1_bestWithout_46 ?_
    refine lv_if_eq (tgt := 52) hx hb dX1_bestWithout_47 (by decide) (fun c6 => ?_) (fun c6 => ?_)
    · have h := if_t c6 h
      refine lv_aload_n hx hb dX1_bestWithout_52 rfl (lv_at hl 0 rfl) ?_
      refine g_get hC hP fg_X1_9 0 rfl rfl dX1_bestWithout_53 ?_
      refine lv_iload_n hx hb dX1_bestWithout_56 rfl (lv_at hl 1 rfl) ?_
      refine lv_iconst (v := 1) hx hb dX1_bestWithout_57 (by decide) ?_
      refine lv_iload_n hx hb dX1_bestWithout_58 rfl (lv_at hl 2 rfl) ?_
      refine lv_ishl hx hb dX1_bestWithout_59 ?_
      refine lv_ior hx hb dX1_bestWithout_60 ?_
      obtain ⟨r7, hu, h⟩ := bnd_h h
      refine kc_i (kN hC (c_X9_at l dC dI cc q1 1024 sets (x1 ||| (1 <<< (j1x &&& 31))) H.size r7 hu) cn_X1_86 kw332 rfl rfl ⟨(Nat.le_of_ble_eq_true rfl), (Nat.le_of_ble_eq_true rfl)⟩ hP [1] rfl rfl (As := [.ref q1, .int (x1 ||| (1 <<< (j1x &&& 31)))]) (rest := []) rfl rfl hl.1 (Nat.le_of_ble_eq_true rfl) dX1_bestWithout_61 ⟨Nat.zero_le _, Nat.zero_le _⟩) hP hA [1] rfl rfl (fun H locs hP => ?_)
      have hP : PD (dC, dI) A s.heap [(q0, .inr (1, [.ref q1, .ref q2, .ref q3, .ref q4, .int lefts_, .int clogs, .int number, .int apart])), (q1, .inl (cc 0, 1024, .inl sets)), (q2, .inl (cc 0, 10, .inl mates)), (q3, .inl (cc 0, 10, .inl sizes))] H locs := hP
      refine lv_istore_n (lv' := [(3, .int r7), (0, .ref q0), (1, .int x1), (2, .int j1x)]) hx hb dX1_bestWithout_64 rfl hl (by decide) rfl (fun ls hl => ?_)
      refine lv_iconst (v := 0) hx hb dX1_bestWithout_65 (by decide) ?_
      refine lv_istore (lv' := [(4, .int 0), (3, .int r7), (0, .ref q0), (1, .int x1), (2, .int j1x)]) hx hb dX1_bestWithout_66 hl (by decide) rfl (fun ls hl => ?_)
      obtain ⟨⟨j8x, j9x⟩, hlp, h⟩ := bnd_h h
      have L2 : ∀ (n : Nat) (j8 : Int32) (j9 : Int32) (j8x : Int32) (j9x : Int32), lp (u2 (b_X1_bestWithout_2 clogs j1x mates sets sizes x1)) n (j8, j9) = some (j8x, j9x) → ∀ (H : Heap) (locs : List Loc) (ls : Array Slot), PD (dC, dI) A s.heap [(q0, .inr (1, [.ref q1, .ref q2, .ref q3, .ref q4, .int lefts_, .int clogs, .int number, .int apart])), (q1, .inl (cc 0, 1024, .inl sets)), (q2, .inl (cc 0, 10, .inl mates)), (q3, .inl (cc 0, 10, .inl sizes))] H locs → lv_has ls 5 [(0, .ref q0), (1, .int x1), (2, .int j1x), (3, .int j8), (4, .int j9)] → (∀ (H : Heap) (locs : List Loc) (ls : Array Slot), PD (dC, dI) A s.heap [(q0, .inr (1, [.ref q1, .ref q2, .ref q3, .ref q4, .int lefts_, .int clogs, .int number, .int apart])), (q1, .inl (cc 0, 1024, .inl sets)), (q2, .inl (cc 0, 10, .inl mates)), (q3, .inl (cc 0, 10, .inl sizes))] H locs → lv_has ls 5 [(0, .ref q0), (1, .int x1), (2, .int j1x), (3, .int j8x), (4, .int j9x)] → W p l e ({ frames := 3, cells := 0, slots := 0, locals := 66 } : Room) s m ([.ref q0, .int x1] : List Value).toArray below meth c H locs 0 0 Z (F0 m 116 ls [])) → W p l e ({ frames := 3, cells := 0, slots := 0, locals := 66 } : Room) s m ([.ref q0, .int x1] : List Value).toArray below meth c H locs 0 0 Z (F0 m 68 ls []) := by
        intro n
        induction n with
        | zero => intro j8 j9 j8x j9x h; exact (lp_0 h).elim
        | succ n ih =>
          intro j8 j9 j8x j9x h H locs ls hP hl KK
          obtain ⟨y, h, hz⟩ := lp_h h
          refine lv_iload hx hb dX1_bestWithout_68 (lv_at hl 4 rfl) ?_
          refine lv_aload_n hx hb dX1_bestWithout_70 rfl (lv_at hl 0 rfl) ?_
          refine g_get hC hP fg_X1_39 0 rfl rfl dX1_bestWithout_71 ?_
          refine lv_icmp_ge (tgt := 116) hx hb dX1_bestWithout_74 (by decide) (fun c10 => ?_) (fun c10 => ?_)
          · have h := if_t c10 h
            cases lp_e h hz
            exact KK H locs ls hP (lv_sub hl [0, 1, 2, 3, 4] rfl)
          · have h := if_f c10 h
            refine lv_aload_n hx hb dX1_bestWithout_77 rfl (lv_at hl 0 rfl) ?_
            refine g_get hC hP fg_X1_15 0 rfl rfl dX1_bestWithout_78 ?_
            refine lv_iload_n hx hb dX1_bestWithout_81 rfl (lv_at hl 2 rfl) ?_
            obtain ⟨r11, hu, h⟩ := bnd_h h
            refine kc_i (kN hC (c_X9_at l dC dI cc q2 10 mates j1x H.size r11 hu) cn_X1_86 kw332 rfl rfl ⟨(Nat.le_of_ble_eq_true rfl), (Nat.le_of_ble_eq_true rfl)⟩ hP [2] rfl rfl (As := [.ref q2, .int j1x]) (rest := []) rfl rfl hl.1 (Nat.le_of_ble_eq_true rfl) dX1_bestWithout_82 ⟨Nat.zero_le _, Nat.zero_le _⟩) hP hA [2] rfl rfl (fun H locs hP => ?_)
            have hP : PD (dC, dI) A s.heap [(q0, .inr (1, [.ref q1, .ref q2, .ref q3, .ref q4, .int lefts_, .int clogs, .int number, .int apart])), (q1, .inl (cc 0, 1024, .inl sets)), (q2, .inl (cc 0, 10, .inl mates)), (q3, .inl (cc 0, 10, .inl sizes))] H locs := hP
            refine lv_iload_n hx hb dX1_bestWithout_85 rfl (lv_at hl 1 rfl) ?_
            refine lv_iconst (v := -1) hx hb dX1_bestWithout_86 (by decide) ?_
            refine lv_ixor hx hb dX1_bestWithout_87 ?_
            refine lv_iand hx hb dX1_bestWithout_88 ?_
            refine lv_iload hx hb dX1_bestWithout_89 (lv_at hl 4 rfl) ?_
            obtain ⟨r12, hu, h⟩ := bnd_h h
            refine kc_z (kN hC (c_X9_hasBit l dC dI cc (r11 &&& (x1 ^^^ (-1))) j9 H.size r12 hu) cn_X1_75 kw586 rfl rfl ⟨(Nat.le_of_ble_eq_true rfl), (Nat.le_of_ble_eq_true rfl)⟩ hP [] rfl rfl (As := [.int (r11 &&& (x1 ^^^ (-1))), .int j9]) (rest := []) rfl rfl hl.1 (Nat.le_of_ble_eq_true rfl) dX1_bestWithout_91 ⟨Nat.zero_le _, Nat.zero_le _⟩) hP hA [] rfl rfl (fun hz_r12 H locs hP => ?_)
            have hP : PD (dC, dI) A s.heap [(q0, .inr (1, [.ref q1, .ref q2, .ref q3, .ref q4, .int lefts_, .int clogs, .int number, .int apart])), (q1, .inl (cc 0, 1024, .inl sets)), (q2, .inl (cc 0, 10, .inl mates)), (q3, .inl (cc 0, 10, .inl sizes))] H locs := hP
            refine lv_if_eq (tgt := 110) hx hb dX1_bestWithout_94 (by decide) (fun c13 => ?_) (fun c13 => ?_)
            · have h := if_t c13 h
              refine lv_iinc (v := (j9 + 1)) (lv' := [(4, .int (j9 + 1)), (0, .ref q0), (1, .int x1), (2, .int j1x), (3, .int j8)]) hx hb dX1_bestWithout_110 hl (k := 4) rfl rfl (by decide) rfl (fun ls hl => ?_)
              refine lv_goto (tgt := 68) hx hb dX1_bestWithout_113 (by decide) ?_
              exact ih _ _ _ _ (lp_n h hz) H locs ls hP (lv_sub hl [1, 2, 3, 4, 0] rfl) KK
            · have h := if_f c13 h
              refine lv_iload_n hx hb dX1_bestWithout_97 rfl (lv_at hl 3 rfl) ?_
              refine lv_aload_n hx hb dX1_bestWithout_98 rfl (lv_at hl 0 rfl) ?_
              refine lv_iload_n hx hb dX1_bestWithout_99 rfl (lv_at hl 1 rfl) ?_
              refine lv_iload_n hx hb dX1_bestWithout_100 rfl (lv_at hl 2 rfl) ?_
              refine lv_iload hx hb dX1_bestWithout_101 (lv_at hl 4 rfl) ?_
              obtain ⟨r14, hu, h⟩ := bnd_h h
              refine kc_i (kV hC (c_X1_worthOf l dC dI cc q0 q1 q2 q3 q4 lefts_ clogs number apart sets sizes x1 j1x j9 H.size r14 hu) cv_X1_90 kw591 rfl rfl ⟨(Nat.le_of_ble_eq_true rfl), (Nat.le_of_ble_eq_true rfl)⟩ hP [0, 1, 3] rfl rfl rfl (q0 := 0) rfl (As := [.int x1, .int j1x, .int j9]) (rest := [.int j8]) rfl rfl hl.1 (Nat.le_of_ble_eq_true rfl) dX1_bestWithout_103 ⟨Nat.zero_le _, Nat.zero_le _⟩) hP hA [0, 1, 3] rfl rfl (fun H locs hP => ?_)
              have hP : PD (dC, dI) A s.heap [(q0, .inr (1, [.ref q1, .ref q2, .ref q3, .ref q4, .int lefts_, .int clogs, .int number, .int apart])), (q1, .inl (cc 0, 1024, .inl sets)), (q2, .inl (cc 0, 10, .inl mates)), (q3, .inl (cc 0, 10, .inl sizes))] H locs := hP
              refine g_max hC hl.1 mh_X1_36 (Nat.le_of_ble_eq_true rfl) (Nat.le_of_ble_eq_true rfl) (Nat.zero_le _) (Nat.zero_le _) dX1_bestWithout_106 ?_
              refine lv_topi (fun v15 ev => ?_)
              have h := nm_h ev h
              refine lv_istore_n (lv' := [(3, .int v15), (0, .ref q0), (1, .int x1), (2, .int j1x), (4, .int j9)]) hx hb dX1_bestWithout_109 rfl hl (by decide) rfl (fun ls hl => ?_)
              refine lv_iinc (v := (j9 + 1)) (lv' := [(4, .int (j9 + 1)), (3, .int v15), (0, .ref q0), (1, .int x1), (2, .int j1x)]) hx hb dX1_bestWithout_110 hl (k := 4) rfl rfl (by decide) rfl (fun ls hl => ?_)
              refine lv_goto (tgt := 68) hx hb dX1_bestWithout_113 (by decide) ?_
              exact ih _ _ _ _ (lp_n h hz) H locs ls hP (lv_sub hl [2, 3, 4, 1, 0] rfl) KK
      refine L2 FU _ _ j8x j9x hlp H locs ls hP (lv_sub hl [2, 3, 4, 1, 0] rfl) (fun H locs ls hP hl => ?_)
      refine lv_iload_n hx hb dX1_bestWithout_116 rfl (lv_at hl 3 rfl) ?_
      rw [eZ]
      exact ret_i hC hr hlk hP dX1_bestWithout_117 () (⟨Option.some.inj h, rfl⟩) rfl
    · have h := if_f c6 h
      refine lv_iconst (v := 0) hx hb dX1_bestWithout_50 (by decide) ?_
      rw [eZ]
      exact ret_i hC hr hlk hP dX1_bestWithout_51 () (⟨Option.some.inj h, rfl⟩) rfl
set_option maxHeartbeats 8000000 in
set_option maxRecDepth 100000 in
theorem c_X1_firstBest (l : Launch) (dC : Nat → ClassId) (dI : Nat → Nat → Nat) (cc : Nat → ClassId) (q0 q1 q2 q3 q4 : Nat) (lefts_ : Int32) (clogs : Int32) (number : Int32) (apart : Int32) (sets : (Nat → Int32)) (mates : (Nat → Int32)) (sizes : (Nat → Int32)) (x1 : Int32) (x2 : Int32) (sz : Nat) (ret : Int32) (hu : f_X1_firstBest x1 x2 clogs sets mates sizes = some ret) : Met l yX1_firstBest (mw yX1_firstBest cX1_firstBest 4 (some .int)) ({ frames := 3, cells := 0, slots := 0, locals := 66 } : Room) (va_Pc [.ref q0, .int x1, .int x2] (mP (dC, dI) (ts cc) sz [(q0, .inr (1, [.ref q1, .ref q2, .ref q3, .ref q4, .int lefts_, .int clogs, .int number, .int apart])), (q1, .inl (cc 0, 1024, .inl sets)), (q2, .inl (cc 0, 10, .inl mates)), (q3, .inl (cc 0, 10, .inl sizes))])) ((fun A => va_Qi (fun (r : Int32) (w : Unit) => r = ret ∧ w = ()) (fun (w : Unit) t => va_P (dC, dI) classes [(q0, .inr (1, [.ref q1, .ref q2, .ref q3, .ref q4, .int lefts_, .int clogs, .int number, .int apart])), (q1, .inl (cc 0, 1024, .inl sets)), (q2, .inl (cc 0, 10, .inl mates)), (q3, .inl (cc 0, 10, .inl sizes))] t.heap) A) (va_A [(q0, .inr (1, [.ref q1, .ref q2, .ref q3, .ref q4, .int lefts_, .int clogs, .int number, .int apart])), (q1, .inl (cc 0, 1024, .inl sets)), (q2, .inl (cc 0, 10, .inl mates)), (q3, .inl (cc 0, 10, .inl sizes))] sz)) 0 0 (va_A [(q0, .inr (1, [.ref q1, .ref q2, .ref q3, .ref q4, .int lefts_, .int clogs, .int number, .int apart])), (q1, .inl (cc 0, 1024, .inl sets)), (q2, .inl (cc 0, 10, .inl mates)), (q3, .inl (cc 0, 10, .inl sizes))] sz) := by
  refine met_go (Qc := fun A => va_Qi (fun (r : Int32) (w : Unit) => r = ret ∧ w = ()) (fun (w : Unit) t => va_P (dC, dI) classes [(q0, .inr (1, [.ref q1, .ref q2, .ref q3, .ref q4, .int lefts_, .int clogs, .int number, .int apart])), (q1, .inl (cc 0, 1024, .inl sets)), (q2, .inl (cc 0, 10, .inl mates)), (q3, .inl (cc 0, 10, .inl sizes))] t.heap) A) (by decide) (Nat.le_of_ble_eq_true rfl) ?_
  intro p e s m below meth c A ls H locs hC hr hlk hin hA hP hl _
  have hC : CX p m c cX1_firstBest 4 s ([.ref q0, .int x1, .int x2] : List Value).toArray RX1 (dC, dI) (ts cc) := hC
  have hx := hC.1.1
  have hb := hC.1.2
  have h := hu
  have hu0 := hu
  unfold f_X1_firstBest at h
  have hl : lv_has ls 4 [(0, .ref q0), (1, .int x1), (2, .int x2)] := hl
  refine W_abs (fun Z eZ => ?_)
  refine lv_iconst (v := 0) hx hb dX1_firstBest_0 (by decide) ?_
  refine lv_istore_n (lv' := [(3, .int 0), (0, .ref q0), (1, .int x1), (2, .int x2)]) hx hb dX1_firstBest_1 rfl hl (by decide) rfl (fun ls hl => ?_)
  obtain ⟨z, hlp, hk, hj⟩ := bndE_h h
  have L1 : ∀ (n : Nat) (j1 : Int32) (z : ((Int32) ⊕ (Int32))), lp ((b_X1_firstBest_1 clogs mates sets sizes x1 x2)) n j1 = some z → ∀ (H : Heap) (locs : List Loc) (ls : Array Slot), PD (dC, dI) A s.heap [(q0, .inr (1, [.ref q1, .ref q2, .ref q3, .ref q4, .int lefts_, .int clogs, .int number, .int apart])), (q1, .inl (cc 0, 1024, .inl sets)), (q2, .inl (cc 0, 10, .inl mates)), (q3, .inl (cc 0, 10, .inl sizes))] H locs → lv_has ls 4 [(0, .ref q0), (1, .int x1), (2, .int x2), (3, .int j1)] → (∀ (j1x : Int32), z = .inl j1x → ∀ (H : Heap) (locs : List Loc) (ls : Array Slot), PD (dC, dI) A s.heap [(q0, .inr (1, [.ref q1, .ref q2, .ref q3, .ref q4, .int lefts_, .int clogs, .int number, .int apart])), (q1, .inl (cc 0, 1024, .inl sets)), (q2, .inl (cc 0, 10, .inl mates)), (q3, .inl (cc 0, 10, .inl sizes))] H locs → lv_has ls 4 [(0, .ref q0), (1, .int x1), (2, .int x2), (3, .int j1x)] → W p l e ({ frames := 3, cells := 0, slots := 0, locals := 66 } : Room) s m ([.ref q0, .int x1, .int x2] : List Value).toArray below meth c H locs 0 0 Z (F0 m 55 ls [])) → (∀ q, z = .inr q → q = ret) → W p l e ({ frames := 3, cells := 0, slots := 0, locals := 66 } : Room) s m ([.ref q0, .int x1, .int x2] : List Value).toArray below meth c H locs 0 0 Z (F0 m 2 ls []) := by
    intro n
    induction n with
    | zero => intro j1 z h; exact (lp_0 h).elim
    | succ n ih =>
      intro j1 z h H locs ls hP hl KK KR
      obtain ⟨y, h, hz⟩ := lp_h h
      refine lv_iload_n hx hb dX1_firstBest_2 rfl (lv_at hl 3 rfl) ?_
      refine lv_aload_n hx hb dX1_firstBest_3 rfl (lv_at hl 0 rfl) ?_
      refine g_get hC hP fg_X1_39 0 rfl rfl dX1_firstBest_4 ?_
      refine lv_icmp_ge (tgt := 55) hx hb dX1_firstBest_7 (by decide) (fun c2 => ?_) (fun c2 => ?_)
      · have h := if_t c2 h
        exact KK j1 (lp_e h hz).symm H locs ls hP (lv_sub hl [0, 1, 2, 3] rfl)
      · have h := if_f c2 h
        refine lv_aload_n hx hb dX1_firstBest_10 rfl (lv_at hl 0 rfl) ?_
        refine g_get hC hP fg_X1_15 0 rfl rfl dX1_firstBest_11 ?_
        refine lv_iload_n hx hb dX1_firstBest_14 rfl (lv_at hl 2 rfl) ?_
        obtain ⟨r3, hu, h⟩ := bnd_h h
        refine kc_i (kN hC (c_X9_at l dC dI cc q2 10 mates x2 H.size r3 hu) cn_X1_86 kw332 rfl rfl ⟨(Nat.le_of_ble_eq_true rfl), (Nat.le_of_ble_eq_true rfl)⟩ hP [2] rfl rfl (As := [.ref q2, .int x2]) (rest := []) rfl rfl hl.1 (Nat.le_of_ble_eq_true rfl) dX1_firstBest_15 ⟨Nat.zero_le _, Nat.zero_le _⟩) hP hA [2] rfl rfl (fun H locs hP => ?_)
        have hP : PD (dC, dI) A s.heap [(q0, .inr (1, [.ref q1, .ref q2, .ref q3, .ref q4, .int lefts_, .int clogs, .int number, .int apart])), (q1, .inl (cc 0, 1024, .inl sets)), (q2, .inl (cc 0, 10, .inl mates)), (q3, .inl (cc 0, 10, .inl sizes))] H locs := hP
        refine lv_iload_n hx hb dX1_firstBest_18 rfl (lv_at hl 1 rfl) ?_
        refine lv_iconst (v := -1) hx hb dX1_firstBest_19 (by decide) ?_
        refine lv_ixor hx hb dX1_firstBest_20 ?_
        refine lv_iand hx hb dX1_firstBest_21 ?_
        refine lv_iload_n hx hb dX1_firstBest_22 rfl (lv_at hl 3 rfl) ?_
        obtain ⟨r4, hu, h⟩ := bnd_h h
        refine kc_z (kN hC (c_X9_hasBit l dC dI cc (r3 &&& (x1 ^^^ (-1))) j1 H.size r4 hu) cn_X1_75 kw586 rfl rfl ⟨(Nat.le_of_ble_eq_true rfl), (Nat.le_of_ble_eq_true rfl)⟩ hP [] rfl rfl (As := [.int (r3 &&& (x1 ^^^ (-1))), .int j1]) (rest := []) rfl rfl hl.1 (Nat.le_of_ble_eq_true rfl) dX1_firstBest_23 ⟨Nat.zero_le _, Nat.zero_le _⟩) hP hA [] rfl rfl (fun hz_r4 H locs hP => ?_)
        have hP : PD (dC, dI) A s.heap [(q0, .inr (1, [.ref q1, .ref q2, .ref q3, .ref q4, .int lefts_, .int clogs, .int number, .int apart])), (q1, .inl (cc 0, 1024, .inl sets)), (q2, .inl (cc 0, 10, .inl mates)), (q3, .inl (cc 0, 10, .inl sizes))] H locs := hP
        refine lv_if_eq (tgt := 49) hx hb dX1_firstBest_26 (by decide) (fun c5 => ?_) (fun c5 => ?_)
        · have h := if_t c5 h
          refine lv_iinc (v := (j1 + 1)) (lv' := [(3, .int (j1 + 1)), (0, .ref q0), (1, .int x1), (2, .int x2)]) hx hb dX1_firstBest_49 hl (k := 3) rfl rfl (by decide) rfl (fun ls hl => ?_)
          refine lv_goto (tgt := 2) hx hb dX1_firstBest_52 (by decide) ?_
          exact ih _ _ (lp_n h hz) H locs ls hP (lv_sub hl [1, 2, 3, 0] rfl) KK KR
        · have h := if_f c5 h
          refine lv_aload_n hx hb dX1_firstBest_29 rfl (lv_at hl 0 rfl) ?_
          refine lv_iload_n hx hb dX1_firstBest_30 rfl (lv_at hl 1 rfl) ?_
          refine lv_iload_n hx hb dX1_firstBest_31 rfl (lv_at hl 2 rfl) ?_
          refine lv_iload_n hx hb dX1_firstBest_32 rfl (lv_at hl 3 rfl) ?_
          obtain ⟨r6, hu, h⟩ := bnd_h h
          refine kc_i (kV hC (c_X1_worthOf l dC dI cc q0 q1 q2 q3 q4 lefts_ clogs number apart sets sizes x1 x2 j1 H.size r6 hu) cv_X1_90 kw591 rfl rfl ⟨(Nat.le_of_ble_eq_true rfl), (Nat.le_of_ble_eq_true rfl)⟩ hP [0, 1, 3] rfl rfl rfl (q0 := 0) rfl (As := [.int x1, .int x2, .int j1]) (rest := []) rfl rfl hl.1 (Nat.le_of_ble_eq_true rfl) dX1_firstBest_33 ⟨Nat.zero_le _, Nat.zero_le _⟩) hP hA [0, 1, 3] rfl rfl (fun H locs hP => ?_)
          have hP : PD (dC, dI) A s.heap [(q0, .inr (1, [.ref q1, .ref q2, .ref q3, .ref q4, .int lefts_, .int clogs, .int number, .int apart])), (q1, .inl (cc 0, 1024, .inl sets)), (q2, .inl (cc 0, 10, .inl mates)), (q3, .inl (cc 0, 10, .inl sizes))] H locs := hP
          refine lv_aload_n hx hb dX1_firstBest_36 rfl (lv_at hl 0 rfl) ?_
          refine g_get hC hP fg_X1_9 0 rfl rfl dX1_firstBest_37 ?_
          refine lv_iload_n hx hb dX1_firstBest_40 rfl (lv_at hl 1 rfl) ?_
          obtain ⟨r7, hu, h⟩ := bnd_h h
          refine kc_i (kN hC (c_X9_at l dC dI cc q1 1024 sets x1 H.size r7 hu) cn_X1_86 kw332 rfl rfl ⟨(Nat.le_of_ble_eq_true rfl), (Nat.le_of_ble_eq_true rfl)⟩ hP [1] rfl rfl (As := [.ref q1, .int x1]) (rest := [.int r6]) rfl rfl hl.1 (Nat.le_of_ble_eq_true rfl) dX1_firstBest_41 ⟨Nat.zero_le _, Nat.zero_le _⟩) hP hA [1] rfl rfl (fun H locs hP => ?_)
          have hP : PD (dC, dI) A s.heap [(q0, .inr (1, [.ref q1, .ref q2, .ref q3, .ref q4, .int lefts_, .int clogs, .int number, .int apart])), (q1, .inl (cc 0, 1024, .inl sets)), (q2, .inl (cc 0, 10, .inl mates)), (q3, .inl (cc 0, 10, .inl sizes))] H locs := hP
          refine lv_icmp_ne (tgt := 49) hx hb dX1_firstBest_44 (by decide) (fun c8 => ?_) (fun c8 => ?_)
          · have h := if_f c8 h
            refine lv_iinc (v := (j1 + 1)) (lv' := [(3, .int (j1 + 1)), (0, .ref q0), (1, .int x1), (2, .int x2)]) hx hb dX1_firstBest_49 hl (k := 3) rfl rfl (by decide) rfl (fun ls hl => ?_)
            refine lv_goto (tgt := 2) hx hb dX1_firstBest_52 (by decide) ?_
            exact ih _ _ (lp_n h hz) H locs ls hP (lv_sub hl [1, 2, 3, 0] rfl) KK KR
          · have h := if_t c8 h
            refine lv_iload_n hx hb dX1_firstBest_47 rfl (lv_at hl 3 rfl) ?_
            rw [eZ]
            exact ret_i hC hr hlk hP dX1_firstBest_48 () (⟨KR _ (lp_e h hz).symm, rfl⟩) rfl
  refine L1 FU _ z hlp H locs ls hP (lv_sub hl [1, 2, 3, 0] rfl) (fun j1x e H locs ls hP hl => ?_) (fun q e => Option.some.inj (hj q e))
  have h := hk _ e
  refine lv_bipush (v := -4) hx hb dX1_firstBest_55 (by decide) ?_
  rw [eZ]
  exact ret_i hC hr hlk hP dX1_firstBest_57 () (⟨Option.some.inj h, rfl⟩) rfl
set_option maxHeartbeats 8000000 in
set_option maxRecDepth 100000 in
theorem c_X1_join (l : Launch) (dC : Nat → ClassId) (dI : Nat → Nat → Nat) (cc : Nat → ClassId) (q0 q1 q2 q3 q4 : Nat) (lefts_ : Int32) (clogs : Int32) (number : Int32) (apart : Int32) (sizes : (Nat → Int32)) (partners : (Nat → Int32)) (x1 : Int32) (x2 : Int32) (sz : Nat) (o_partners : (Nat → Int32)) (o_number : Int32) (o_apart : Int32) (hu : f_X1_join x1 x2 number apart sizes partners = some (o_partners, o_number, o_apart)) : Met l yX1_join (mw yX1_join cX1_join 3 none) ({ frames := 2, cells := 0, slots := 0, locals := 43 } : Room) (va_Pc [.ref q0, .int x1, .int x2] (mP (dC, dI) (ts cc) sz [(q0, .inr (1, [.ref q1, .ref q2, .ref q3, .ref q4, .int lefts_, .int clogs, .int number, .int apart])), (q3, .inl (cc 0, 10, .inl sizes)), (q4, .inl (cc 0, 10, .inl partners))])) ((fun A => va_Qv (fun (w : (Nat → Int32) × Int32 × Int32) => w = (o_partners, o_number, o_apart)) (fun (w : (Nat → Int32) × Int32 × Int32) t => va_P (dC, dI) classes [(q0, .inr (1, [.ref q1, .ref q2, .ref q3, .ref q4, .int lefts_, .int clogs, .int w.2.1, .int w.2.2])), (q3, .inl (cc 0, 10, .inl sizes)), (q4, .inl (cc 0, 10, .inl w.1))] t.heap) A) (va_A [(q0, .inr (1, [.ref q1, .ref q2, .ref q3, .ref q4, .int lefts_, .int clogs, .int number, .int apart])), (q3, .inl (cc 0, 10, .inl sizes)), (q4, .inl (cc 0, 10, .inl partners))] sz)) 0 0 (va_A [(q0, .inr (1, [.ref q1, .ref q2, .ref q3, .ref q4, .int lefts_, .int clogs, .int number, .int apart])), (q3, .inl (cc 0, 10, .inl sizes)), (q4, .inl (cc 0, 10, .inl partners))] sz) := by
  refine met_go (Qc := fun A => va_Qv (fun (w : (Nat → Int32) × Int32 × Int32) => w = (o_partners, o_number, o_apart)) (fun (w : (Nat → Int32) × Int32 × Int32) t => va_P (dC, dI) classes [(q0, .inr (1, [.ref q1, .ref q2, .ref q3, .ref q4, .int lefts_, .int clogs, .int w.2.1, .int w.2.2])), (q3, .inl (cc 0, 10, .inl sizes)), (q4, .inl (cc 0, 10, .inl w.1))] t.heap) A) (by decide) (Nat.le_of_ble_eq_true rfl) ?_
  intro p e s m below meth c A ls H locs hC hr hlk hin hA hP hl _
  have hC : CX p m c cX1_join 3 s ([.ref q0, .int x1, .int x2] : List Value).toArray RX1 (dC, dI) (ts cc) := hC
  have hx := hC.1.1
  have hb := hC.1.2
  have h := hu
  have hu0 := hu
  unfold f_X1_join at h
  have hl : lv_has ls 3 [(0, .ref q0), (1, .int x1), (2, .int x2)] := hl
  refine lv_aload_n hx hb dX1_join_0 rfl (lv_at hl 0 rfl) ?_
  refine g_get hC hP fg_X1_21 0 rfl rfl dX1_join_1 ?_
  refine lv_iload_n hx hb dX1_join_4 rfl (lv_at hl 1 rfl) ?_
  refine lv_iload_n hx hb dX1_join_5 rfl (lv_at hl 2 rfl) ?_
  obtain ⟨w1, hu, h⟩ := bnd_h h
  refine kc_v (kN hC (c_X9_put l dC dI cc q4 10 partners x1 x2 H.size w1 hu) cn_X1_50 kw320 rfl rfl ⟨(Nat.le_of_ble_eq_true rfl), (Nat.le_of_ble_eq_true rfl)⟩ hP [2] rfl rfl (As := [.ref q4, .int x1, .int x2]) (rest := []) rfl rfl hl.1 (Nat.le_of_ble_eq_true rfl) dX1_join_6 ⟨Nat.zero_le _, Nat.zero_le _⟩) hP hA [2] rfl rfl (fun H locs hP => ?_)
  have hP : PD (dC, dI) A s.heap [(q0, .inr (1, [.ref q1, .ref q2, .ref q3, .ref q4, .int lefts_, .int clogs, .int number, .int apart])), (q3, .inl (cc 0, 10, .inl sizes)), (q4, .inl (cc 0, 10, .inl w1))] H locs := hP
  refine lv_aload_n hx hb dX1_join_9 rfl (lv_at hl 0 rfl) ?_
  refine g_get hC hP fg_X1_21 0 rfl rfl dX1_join_10 ?_
  refine lv_iload_n hx hb dX1_join_13 rfl (lv_at hl 2 rfl) ?_
  refine lv_iload_n hx hb dX1_join_14 rfl (lv_at hl 1 rfl) ?_
  obtain ⟨w2, hu, h⟩ := bnd_h h
  refine kc_v (kN hC (c_X9_put l dC dI cc q4 10 w1 x2 x1 H.size w2 hu) cn_X1_50 kw320 rfl rfl ⟨(Nat.le_of_ble_eq_true rfl), (Nat.le_of_ble_eq_true rfl)⟩ hP [2] rfl rfl (As := [.ref q4, .int x2, .int x1]) (rest := []) rfl rfl hl.1 (Nat.le_of_ble_eq_true rfl) dX1_join_15 ⟨Nat.zero_le _, Nat.zero_le _⟩) hP hA [2] rfl rfl (fun H locs hP => ?_)
  have hP : PD (dC, dI) A s.heap [(q0, .inr (1, [.ref q1, .ref q2, .ref q3, .ref q4, .int lefts_, .int clogs, .int number, .int apart])), (q3, .inl (cc 0, 10, .inl sizes)), (q4, .inl (cc 0, 10, .inl w2))] H locs := hP
  refine lv_aload_n hx hb dX1_join_18 rfl (lv_at hl 0 rfl) ?_
  refine lv_dup hx hb dX1_join_19 rfl ?_
  refine g_get hC hP fg_X1_69 0 rfl rfl dX1_join_20 ?_
  refine lv_iconst (v := 1) hx hb dX1_join_23 (by decide) ?_
  refine lv_iadd hx hb dX1_join_24 ?_
  refine g_put hC hP fg_X1_69 0 rfl rfl rfl (Nat.le_of_ble_eq_true rfl) dX1_join_25 (fun H locs hP => ?_)
  have hP : PD (dC, dI) A s.heap [(q0, .inr (1, [.ref q1, .ref q2, .ref q3, .ref q4, .int lefts_, .int clogs, .int (number + 1), .int apart])), (q3, .inl (cc 0, 10, .inl sizes)), (q4, .inl (cc 0, 10, .inl w2))] H locs := hP
  refine lv_aload_n hx hb dX1_join_28 rfl (lv_at hl 0 rfl) ?_
  refine lv_dup hx hb dX1_join_29 rfl ?_
  refine g_get hC hP fg_X1_72 0 rfl rfl dX1_join_30 ?_
  refine lv_aload_n hx hb dX1_join_33 rfl (lv_at hl 0 rfl) ?_
  refine lv_iload_n hx hb dX1_join_34 rfl (lv_at hl 1 rfl) ?_
  refine lv_iload_n hx hb dX1_join_35 rfl (lv_at hl 2 rfl) ?_
  obtain ⟨r3, hu, h⟩ := bnd_h h
  refine kc_i (kV hC (c_X1_distance l dC dI cc q0 q1 q2 q3 q4 lefts_ clogs (number + 1) apart sizes x1 x2 H.size r3 hu) cv_X1_94 kw595 rfl rfl ⟨(Nat.le_of_ble_eq_true rfl), (Nat.le_of_ble_eq_true rfl)⟩ hP [0, 1] rfl rfl rfl (q0 := 0) rfl (As := [.int x1, .int x2]) (rest := [.int apart, .ref q0]) rfl rfl hl.1 (Nat.le_of_ble_eq_true rfl) dX1_join_36 ⟨Nat.zero_le _, Nat.zero_le _⟩) hP hA [0, 1] rfl rfl (fun H locs hP => ?_)
  have hP : PD (dC, dI) A s.heap [(q0, .inr (1, [.ref q1, .ref q2, .ref q3, .ref q4, .int lefts_, .int clogs, .int (number + 1), .int apart])), (q3, .inl (cc 0, 10, .inl sizes)), (q4, .inl (cc 0, 10, .inl w2))] H locs := hP
  refine lv_iadd hx hb dX1_join_39 ?_
  refine g_put hC hP fg_X1_72 0 rfl rfl rfl (Nat.le_of_ble_eq_true rfl) dX1_join_40 (fun H locs hP => ?_)
  have hP : PD (dC, dI) A s.heap [(q0, .inr (1, [.ref q1, .ref q2, .ref q3, .ref q4, .int lefts_, .int clogs, .int (number + 1), .int (apart + r3)])), (q3, .inl (cc 0, 10, .inl sizes)), (q4, .inl (cc 0, 10, .inl w2))] H locs := hP
  exact ret_v hC hr hlk hP dX1_join_43 (w2, (number + 1), (apart + r3)) (Option.some.inj h) rfl
set_option maxHeartbeats 8000000 in
set_option maxRecDepth 100000 in
theorem c_X1_match (l : Launch) (dC : Nat → ClassId) (dI : Nat → Nat → Nat) (cc : Nat → ClassId) (q0 q1 q2 q3 q4 : Nat) (lefts_ : Int32) (clogs : Int32) (number : Int32) (apart : Int32) (sets : (Nat → Int32)) (mates : (Nat → Int32)) (sizes : (Nat → Int32)) (partners : (Nat → Int32)) (sz : Nat) (o_sets : (Nat → Int32)) (o_partners : (Nat → Int32)) (o_number : Int32) (o_apart : Int32) (hu : f_X1_match lefts_ clogs sets mates sizes partners = some (o_sets, o_partners, o_number, o_apart)) : Met l yX1_match (mw yX1_match cX1_match 4 none) ({ frames := 4, cells := 0, slots := 0, locals := 90 } : Room) (va_Pc [.ref q0] (mP (dC, dI) (ts cc) sz [(q0, .inr (1, [.ref q1, .ref q2, .ref q3, .ref q4, .int lefts_, .int clogs, .int number, .int apart])), (q1, .inl (cc 0, 1024, .inl sets)), (q2, .inl (cc 0, 10, .inl mates)), (q3, .inl (cc 0, 10, .inl sizes)), (q4, .inl (cc 0, 10, .inl partners))])) ((fun A => va_Qv (fun (w : (Nat → Int32) × (Nat → Int32) × Int32 × Int32) => w = (o_sets, o_partners, o_number, o_apart)) (fun (w : (Nat → Int32) × (Nat → Int32) × Int32 × Int32) t => va_P (dC, dI) classes [(q0, .inr (1, [.ref q1, .ref q2, .ref q3, .ref q4, .int lefts_, .int clogs, .int w.2.2.1, .int w.2.2.2])), (q1, .inl (cc 0, 1024, .inl w.1)), (q2, .inl (cc 0, 10, .inl mates)), (q3, .inl (cc 0, 10, .inl sizes)), (q4, .inl (cc 0, 10, .inl w.2.1))] t.heap) A) (va_A [(q0, .inr (1, [.ref q1, .ref q2, .ref q3, .ref q4, .int lefts_, .int clogs, .int number, .int apart])), (q1, .inl (cc 0, 1024, .inl sets)), (q2, .inl (cc 0, 10, .inl mates)), (q3, .inl (cc 0, 10, .inl sizes)), (q4, .inl (cc 0, 10, .inl partners))] sz)) 0 0 (va_A [(q0, .inr (1, [.ref q1, .ref q2, .ref q3, .ref q4, .int lefts_, .int clogs, .int number, .int apart])), (q1, .inl (cc 0, 1024, .inl sets)), (q2, .inl (cc 0, 10, .inl mates)), (q3, .inl (cc 0, 10, .inl sizes)), (q4, .inl (cc 0, 10, .inl partners))] sz) := by
  refine met_go (Qc := fun A => va_Qv (fun (w : (Nat → Int32) × (Nat → Int32) × Int32 × Int32) => w = (o_sets, o_partners, o_number, o_apart)) (fun (w : (Nat → Int32) × (Nat → Int32) × Int32 × Int32) t => va_P (dC, dI) classes [(q0, .inr (1, [.ref q1, .ref q2, .ref q3, .ref q4, .int lefts_, .int clogs, .int w.2.2.1, .int w.2.2.2])), (q1, .inl (cc 0, 1024, .inl w.1)), (q2, .inl (cc 0, 10, .inl mates)), (q3, .inl (cc 0, 10, .inl sizes)), (q4, .inl (cc 0, 10, .inl w.2.1))] t.heap) A) (by decide) (Nat.le_of_ble_eq_true rfl) ?_
  intro p e s m below meth c A ls H locs hC hr hlk hin hA hP hl _
  have hC : CX p m c cX1_match 4 s ([.ref q0] : List Value).toArray RX1 (dC, dI) (ts cc) := hC
  have hx := hC.1.1
  have hb := hC.1.2
  have h := hu
  have hu0 := hu
  unfold f_X1_match at h
  have hl : lv_has ls 4 [(0, .ref q0)] := hl
  refine W_abs (fun Z eZ => ?_)
  refine lv_iconst (v := 1) hx hb dX1_match_0 (by decide) ?_
  refine lv_aload_n hx hb dX1_match_1 rfl (lv_at hl 0 rfl) ?_
  refine g_get hC hP fg_X1_39 0 rfl rfl dX1_match_2 ?_
  refine lv_ishl hx hb dX1_match_5 ?_
  refine lv_iconst (v := 1) hx hb dX1_match_6 (by decide) ?_
  refine lv_isub hx hb dX1_match_7 ?_
  refine lv_istore_n (lv' := [(1, .int ((1 <<< (clogs &&& 31)) - 1)), (0, .ref q0)]) hx hb dX1_match_8 rfl hl (by decide) rfl (fun ls hl => ?_)
  obtain ⟨⟨j1x, w2x⟩, hlp, h⟩ := bnd_h h
  have L1 : ∀ (n : Nat) (j1 : Int32) (w2 : (Nat → Int32)) (j1x : Int32) (w2x : (Nat → Int32)), lp (u2 (b_X1_match_1 clogs lefts_ mates sizes)) n (j1, w2) = some (j1x, w2x) → ∀ (H : Heap) (locs : List Loc) (ls : Array Slot), PD (dC, dI) A s.heap [(q0, .inr (1, [.ref q1, .ref q2, .ref q3, .ref q4, .int lefts_, .int clogs, .int number, .int apart])), (q1, .inl (cc 0, 1024, .inl w2)), (q2, .inl (cc 0, 10, .inl mates)), (q3, .inl (cc 0, 10, .inl sizes)), (q4, .inl (cc 0, 10, .inl partners))] H locs → lv_has ls 4 [(0, .ref q0), (1, .int j1)] → (∀ (H : Heap) (locs : List Loc) (ls : Array Slot), PD (dC, dI) A s.heap [(q0, .inr (1, [.ref q1, .ref q2, .ref q3, .ref q4, .int lefts_, .int clogs, .int number, .int apart])), (q1, .inl (cc 0, 1024, .inl w2x)), (q2, .inl (cc 0, 10, .inl mates)), (q3, .inl (cc 0, 10, .inl sizes)), (q4, .inl (cc 0, 10, .inl partners))] H locs → lv_has ls 4 [(0, .ref q0), (1, .int j1x)] → W p l e ({ frames := 4, cells := 0, slots := 0, locals := 90 } : Room) s m ([.ref q0] : List Value).toArray below meth c H locs 0 0 Z (F0 m 32 ls [])) → W p l e ({ frames := 4, cells := 0, slots := 0, locals := 90 } : Room) s m ([.ref q0] : List Value).toArray below meth c H locs 0 0 Z (F0 m 9 ls []) := by
    intro n
    induction n with
    | zero => intro j1 w2 j1x w2x h; exact (lp_0 h).elim
    | succ n ih =>
      intro j1 w2 j1x w2x h H locs ls hP hl KK
      obtain ⟨y, h, hz⟩ := lp_h h
      refine lv_iload_n hx hb dX1_match_9 rfl (lv_at hl 1 rfl) ?_
      refine lv_if_lt (tgt := 32) hx hb dX1_match_10 (by decide) (fun c3 => ?_) (fun c3 => ?_)
      · have h := if_t c3 h
        cases lp_e h hz
        exact KK H locs ls hP (lv_sub hl [0, 1] rfl)
      · have h := if_f c3 h
        refine lv_aload_n hx hb dX1_match_13 rfl (lv_at hl 0 rfl) ?_
        refine g_get hC hP fg_X1_9 0 rfl rfl dX1_match_14 ?_
        refine lv_iload_n hx hb dX1_match_17 rfl (lv_at hl 1 rfl) ?_
        refine lv_aload_n hx hb dX1_match_18 rfl (lv_at hl 0 rfl) ?_
        refine lv_iload_n hx hb dX1_match_19 rfl (lv_at hl 1 rfl) ?_
        obtain ⟨r4, hu, h⟩ := bnd_h h
        refine kc_i (kV hC (c_X1_bestWithout l dC dI cc q0 q1 q2 q3 q4 lefts_ clogs number apart w2 mates sizes j1 H.size r4 hu) cv_X1_60 kw583 rfl rfl ⟨(Nat.le_of_ble_eq_true rfl), (Nat.le_of_ble_eq_true rfl)⟩ hP [0, 1, 2, 3] rfl rfl rfl (q0 := 0) rfl (As := [.int j1]) (rest := [.int j1, .ref q1]) rfl rfl hl.1 (Nat.le_of_ble_eq_true rfl) dX1_match_20 ⟨Nat.zero_le _, Nat.zero_le _⟩) hP hA [0, 1, 2, 3] rfl rfl (fun H locs hP => ?_)
        have hP : PD (dC, dI) A s.heap [(q0, .inr (1, [.ref q1, .ref q2, .ref q3, .ref q4, .int lefts_, .int clogs, .int number, .int apart])), (q1, .inl (cc 0, 1024, .inl w2)), (q2, .inl (cc 0, 10, .inl mates)), (q3, .inl (cc 0, 10, .inl sizes)), (q4, .inl (cc 0, 10, .inl partners))] H locs := hP
        obtain ⟨w5, hu, h⟩ := bnd_h h
        refine kc_v (kN hC (c_X9_put l dC dI cc q1 1024 w2 j1 r4 H.size w5 hu) cn_X1_50 kw320 rfl rfl ⟨(Nat.le_of_ble_eq_true rfl), (Nat.le_of_ble_eq_true rfl)⟩ hP [1] rfl rfl (As := [.ref q1, .int j1, .int r4]) (rest := []) rfl rfl hl.1 (Nat.le_of_ble_eq_true rfl) dX1_match_23 ⟨Nat.zero_le _, Nat.zero_le _⟩) hP hA [1] rfl rfl (fun H locs hP => ?_)
        have hP : PD (dC, dI) A s.heap [(q0, .inr (1, [.ref q1, .ref q2, .ref q3, .ref q4, .int lefts_, .int clogs, .int number, .int apart])), (q1, .inl (cc 0, 1024, .inl w5)), (q2, .inl (cc 0, 10, .inl mates)), (q3, .inl (cc 0, 10, .inl sizes)), (q4, .inl (cc 0, 10, .inl partners))] H locs := hP
        refine lv_iinc (v := (j1 + (-1))) (lv' := [(1, .int (j1 + (-1))), (0, .ref q0)]) hx hb dX1_match_26 hl (k := 1) rfl rfl (by decide) rfl (fun ls hl => ?_)
        refine lv_goto (tgt := 9) hx hb dX1_match_29 (by decide) ?_
        exact ih _ _ _ _ (lp_n h hz) H locs ls hP (lv_sub hl [1, 0] rfl) KK
  refine L1 FU _ _ j1x w2x hlp H locs ls hP (lv_sub hl [1, 0] rfl) (fun H locs ls hP hl => ?_)
  refine lv_aload_n hx hb dX1_match_32 rfl (lv_at hl 0 rfl) ?_
  refine g_get hC hP fg_X1_21 0 rfl rfl dX1_match_33 ?_
  refine lv_bipush (v := -4) hx hb dX1_match_36 (by decide) ?_
  obtain ⟨w6, hu, h⟩ := bnd_h h
  refine kc_v (kS hC (c_J7_fill_53178 l dC dI cc q4 10 partners (-4) H.size w6 hu) cs_X1_63 kw599 rfl rfl ⟨(Nat.le_of_ble_eq_true rfl), (Nat.le_of_ble_eq_true rfl)⟩ hP [4] rfl rfl (As := [.ref q4, .int (-4)]) (rest := []) rfl rfl hl.1 (Nat.le_of_ble_eq_true rfl) dX1_match_38 ⟨Nat.zero_le _, Nat.zero_le _⟩) hP hA [4] rfl rfl (fun H locs hP => ?_)
  have hP : PD (dC, dI) A s.heap [(q0, .inr (1, [.ref q1, .ref q2, .ref q3, .ref q4, .int lefts_, .int clogs, .int number, .int apart])), (q1, .inl (cc 0, 1024, .inl w2x)), (q2, .inl (cc 0, 10, .inl mates)), (q3, .inl (cc 0, 10, .inl sizes)), (q4, .inl (cc 0, 10, .inl w6))] H locs := hP
  refine lv_aload_n hx hb dX1_match_41 rfl (lv_at hl 0 rfl) ?_
  refine lv_iconst (v := 0) hx hb dX1_match_42 (by decide) ?_
  refine g_put hC hP fg_X1_69 0 rfl rfl rfl (Nat.le_of_ble_eq_true rfl) dX1_match_43 (fun H locs hP => ?_)
  have hP : PD (dC, dI) A s.heap [(q0, .inr (1, [.ref q1, .ref q2, .ref q3, .ref q4, .int lefts_, .int clogs, .int 0, .int apart])), (q1, .inl (cc 0, 1024, .inl w2x)), (q2, .inl (cc 0, 10, .inl mates)), (q3, .inl (cc 0, 10, .inl sizes)), (q4, .inl (cc 0, 10, .inl w6))] H locs := hP
  refine lv_aload_n hx hb dX1_match_46 rfl (lv_at hl 0 rfl) ?_
  refine lv_iconst (v := 0) hx hb dX1_match_47 (by decide) ?_
  refine g_put hC hP fg_X1_72 0 rfl rfl rfl (Nat.le_of_ble_eq_true rfl) dX1_match_48 (fun H locs hP => ?_)
  have hP : PD (dC, dI) A s.heap [(q0, .inr (1, [.ref q1, .ref q2, .ref q3, .ref q4, .int lefts_, .int clogs, .int 0, .int 0])), (q1, .inl (cc 0, 1024, .inl w2x)), (q2, .inl (cc 0, 10, .inl mates)), (q3, .inl (cc 0, 10, .inl sizes)), (q4, .inl (cc 0, 10, .inl w6))] H locs := hP
  refine lv_iconst (v := 0) hx hb dX1_match_51 (by decide) ?_
  refine lv_istore_n (lv' := [(1, .int 0), (0, .ref q0)]) hx hb dX1_match_52 rfl hl (by decide) rfl (fun ls hl => ?_)
  refine lv_iconst (v := 0) hx hb dX1_match_53 (by decide) ?_
  refine lv_istore_n (lv' := [(2, .int 0), (1, .int 0), (0, .ref q0)]) hx hb dX1_match_54 rfl hl (by decide) rfl (fun ls hl => ?_)
  obtain ⟨⟨j7x, j8x, w9x, w10x, w11x⟩, hlp, h⟩ := bnd_h h
  have L2 : ∀ (n : Nat) (j7 : Int32) (j8 : Int32) (w9 : Int32) (w10 : Int32) (w11 : (Nat → Int32)) (j7x : Int32) (j8x : Int32) (w9x : Int32) (w10x : Int32) (w11x : (Nat → Int32)), lp (u5 (b_X1_match_2 clogs lefts_ mates sizes w2x)) n (j7, j8, w9, w10, w11) = some (j7x, j8x, w9x, w10x, w11x) → ∀ (H : Heap) (locs : List Loc) (ls : Array Slot), PD (dC, dI) A s.heap [(q0, .inr (1, [.ref q1, .ref q2, .ref q3, .ref q4, .int lefts_, .int clogs, .int w9, .int w10])), (q1, .inl (cc 0, 1024, .inl w2x)), (q2, .inl (cc 0, 10, .inl mates)), (q3, .inl (cc 0, 10, .inl sizes)), (q4, .inl (cc 0, 10, .inl w11))] H locs → lv_has ls 4 [(0, .ref q0), (1, .int j7), (2, .int j8)] → (∀ (H : Heap) (locs : List Loc) (ls : Array Slot), PD (dC, dI) A s.heap [(q0, .inr (1, [.ref q1, .ref q2, .ref q3, .ref q4, .int lefts_, .int clogs, .int w9x, .int w10x])), (q1, .inl (cc 0, 1024, .inl w2x)), (q2, .inl (cc 0, 10, .inl mates)), (q3, .inl (cc 0, 10, .inl sizes)), (q4, .inl (cc 0, 10, .inl w11x))] H locs → lv_has ls 4 [(0, .ref q0), (1, .int j7x), (2, .int j8x)] → W p l e ({ frames := 4, cells := 0, slots := 0, locals := 90 } : Room) s m ([.ref q0] : List Value).toArray below meth c H locs 0 0 Z (F0 m 109 ls [])) → W p l e ({ frames := 4, cells := 0, slots := 0, locals := 90 } : Room) s m ([.ref q0] : List Value).toArray below meth c H locs 0 0 Z (F0 m 55 ls []) := by
    intro n
    induction n with
    | zero => intro j7 j8 w9 w10 w11 j7x j8x w9x w10x w11x h; exact (lp_0 h).elim
    | succ n ih =>
      intro j7 j8 w9 w10 w11 j7x j8x w9x w10x w11x h H locs ls hP hl KK
      obtain ⟨y, h, hz⟩ := lp_h h
      refine lv_iload_n hx hb dX1_match_55 rfl (lv_at hl 2 rfl) ?_
      refine lv_aload_n hx hb dX1_match_56 rfl (lv_at hl 0 rfl) ?_
      refine g_get hC hP fg_X1_39 0 rfl rfl dX1_match_57 ?_
      refine lv_icmp_ge (tgt := 109) hx hb dX1_match_60 (by decide) (fun c12 => ?_) (fun c12 => ?_)
      · have h := if_t c12 h
        cases lp_e h hz
        exact KK H locs ls hP (lv_sub hl [0, 1, 2] rfl)
      · have h := if_f c12 h
        refine lv_aload_n hx hb dX1_match_63 rfl (lv_at hl 0 rfl) ?_
        refine g_get hC hP fg_X1_44 0 rfl rfl dX1_match_64 ?_
        refine lv_iload_n hx hb dX1_match_67 rfl (lv_at hl 2 rfl) ?_
        obtain ⟨r13, hu, h⟩ := bnd_h h
        refine kc_z (kN hC (c_X9_hasBit l dC dI cc lefts_ j8 H.size r13 hu) cn_X1_75 kw586 rfl rfl ⟨(Nat.le_of_ble_eq_true rfl), (Nat.le_of_ble_eq_true rfl)⟩ hP [] rfl rfl (As := [.int lefts_, .int j8]) (rest := []) rfl rfl hl.1 (Nat.le_of_ble_eq_true rfl) dX1_match_68 ⟨Nat.zero_le _, Nat.zero_le _⟩) hP hA [] rfl rfl (fun hz_r13 H locs hP => ?_)
        have hP : PD (dC, dI) A s.heap [(q0, .inr (1, [.ref q1, .ref q2, .ref q3, .ref q4, .int lefts_, .int clogs, .int w9, .int w10])), (q1, .inl (cc 0, 1024, .inl w2x)), (q2, .inl (cc 0, 10, .inl mates)), (q3, .inl (cc 0, 10, .inl sizes)), (q4, .inl (cc 0, 10, .inl w11))] H locs := hP
        refine lv_if_eq (tgt := 103) hx hb dX1_match_71 (by decide) (fun c14 => ?_) (fun c14 => ?_)
        · have h := if_t c14 h
          refine lv_iinc (v := (j8 + 1)) (lv' := [(2, .int (j8 + 1)), (0, .ref q0), (1, .int j7)]) hx hb dX1_match_103 hl (k := 2) rfl rfl (by decide) rfl (fun ls hl => ?_)
          refine lv_goto (tgt := 55) hx hb dX1_match_106 (by decide) ?_
          exact ih _ _ _ _ _ _ _ _ _ _ (lp_n h hz) H locs ls hP (lv_sub hl [1, 2, 0] rfl) KK
        · have h := if_f c14 h
          refine lv_aload_n hx hb dX1_match_74 rfl (lv_at hl 0 rfl) ?_
          refine lv_iload_n hx hb dX1_match_75 rfl (lv_at hl 1 rfl) ?_
          refine lv_iload_n hx hb dX1_match_76 rfl (lv_at hl 2 rfl) ?_
          obtain ⟨r15, hu, h⟩ := bnd_h h
          refine kc_i (kV hC (c_X1_firstBest l dC dI cc q0 q1 q2 q3 q4 lefts_ clogs w9 w10 w2x mates sizes j7 j8 H.size r15 hu) cv_X1_79 kw603 rfl rfl ⟨(Nat.le_of_ble_eq_true rfl), (Nat.le_of_ble_eq_true rfl)⟩ hP [0, 1, 2, 3] rfl rfl rfl (q0 := 0) rfl (As := [.int j7, .int j8]) (rest := []) rfl rfl hl.1 (Nat.le_of_ble_eq_true rfl) dX1_match_77 ⟨Nat.zero_le _, Nat.zero_le _⟩) hP hA [0, 1, 2, 3] rfl rfl (fun H locs hP => ?_)
          have hP : PD (dC, dI) A s.heap [(q0, .inr (1, [.ref q1, .ref q2, .ref q3, .ref q4, .int lefts_, .int clogs, .int w9, .int w10])), (q1, .inl (cc 0, 1024, .inl w2x)), (q2, .inl (cc 0, 10, .inl mates)), (q3, .inl (cc 0, 10, .inl sizes)), (q4, .inl (cc 0, 10, .inl w11))] H locs := hP
          refine lv_istore_n (lv' := [(3, .int r15), (0, .ref q0), (1, .int j7), (2, .int j8)]) hx hb dX1_match_80 rfl hl (by decide) rfl (fun ls hl => ?_)
          refine lv_iload_n hx hb dX1_match_81 rfl (lv_at hl 2 rfl) ?_
          refine lv_iconst (v := 1) hx hb dX1_match_82 (by decide) ?_
          refine lv_iload_n hx hb dX1_match_83 rfl (lv_at hl 3 rfl) ?_
          refine lv_ishl hx hb dX1_match_84 ?_
          refine lv_ior hx hb dX1_match_85 ?_
          refine lv_istore_n (lv' := [(1, .int (j7 ||| (1 <<< (j8 &&& 31)))), (3, .int r15), (0, .ref q0), (2, .int j8)]) hx hb dX1_match_86 rfl hl (by decide) rfl (fun ls hl => ?_)
          refine lv_iload_n hx hb dX1_match_87 rfl (lv_at hl 1 rfl) ?_
          refine lv_if_lt (tgt := 103) hx hb dX1_match_88 (by decide) (fun c16 => ?_) (fun c16 => ?_)
          · have h := if_t c16 h
            refine lv_iinc (v := (j8 + 1)) (lv' := [(2, .int (j8 + 1)), (1, .int (j7 ||| (1 <<< (j8 &&& 31)))), (3, .int r15), (0, .ref q0)]) hx hb dX1_match_103 hl (k := 3) rfl rfl (by decide) rfl (fun ls hl => ?_)
            refine lv_goto (tgt := 55) hx hb dX1_match_106 (by decide) ?_
            exact ih _ _ _ _ _ _ _ _ _ _ (lp_n h hz) H locs ls hP (lv_sub hl [3, 1, 0] rfl) KK
          · have h := if_f c16 h
            refine lv_iload_n hx hb dX1_match_91 rfl (lv_at hl 0 rfl) ?_
            refine lv_iconst (v := 1) hx hb dX1_match_92 (by decide) ?_
            refine lv_iload_n hx hb dX1_match_93 rfl (lv_at hl 1 rfl) ?_
            refine lv_ishl hx hb dX1_match_94 ?_
            refine lv_ior hx hb dX1_match_95 ?_
            refine lv_topi (fun v17 ev => ?_)
            have h := nm_h ev h
            refine lv_istore_n (lv' := [(1, .int v17), (3, .int r15), (0, .ref q0), (2, .int j8)]) hx hb dX1_match_96 rfl hl (by decide) rfl (fun ls hl => ?_)
            refine lv_aload_n hx hb dX1_match_97 rfl (lv_at hl 2 rfl) ?_
            refine lv_iload_n hx hb dX1_match_98 rfl (lv_at hl 3 rfl) ?_
            refine lv_iload_n hx hb dX1_match_99 rfl (lv_at hl 1 rfl) ?_
            obtain ⟨⟨w18, w19, w20⟩, hu, h⟩ := bnd_h h
            refine kc_v (kV hC (c_X1_join l dC dI cc q0 q1 q2 q3 q4 lefts_ clogs w9 w10 sizes w11 j8 r15 H.size w18 w19 w20 hu) cv_X1_82 kw607 rfl rfl ⟨(Nat.le_of_ble_eq_true rfl), (Nat.le_of_ble_eq_true rfl)⟩ hP [0, 3, 4] rfl rfl rfl (q0 := 0) rfl (As := [.int j8, .int r15]) (rest := []) rfl rfl hl.1 (Nat.le_of_ble_eq_true rfl) dX1_match_100 ⟨Nat.zero_le _, Nat.zero_le _⟩) hP hA [0, 3, 4] rfl rfl (fun H locs hP => ?_)
            have hP : PD (dC, dI) A s.heap [(q0, .inr (1, [.ref q1, .ref q2, .ref q3, .ref q4, .int lefts_, .int clogs, .int w19, .int w20])), (q1, .inl (cc 0, 1024, .inl w2x)), (q2, .inl (cc 0, 10, .inl mates)), (q3, .inl (cc 0, 10, .inl sizes)), (q4, .inl (cc 0, 10, .inl w18))] H locs := hP
            refine lv_iinc (v := (j8 + 1)) (lv' := [(2, .int (j8 + 1)), (1, .int v17), (3, .int r15), (0, .ref q0)]) hx hb dX1_match_103 hl (k := 3) rfl rfl (by decide) rfl (fun ls hl => ?_)
            refine lv_goto (tgt := 55) hx hb dX1_match_106 (by decide) ?_
            exact ih _ _ _ _ _ _ _ _ _ _ (lp_n h hz) H locs ls hP (lv_sub hl [3, 1, 0] rfl) KK
  refine L2 FU _ _ _ _ _ j7x j8x w9x w10x w11x hlp H locs ls hP (lv_sub hl [2, 1, 0] rfl) (fun H locs ls hP hl => ?_)
  rw [eZ]
  exact ret_v hC hr hlk hP dX1_match_109 (w2x, w11x, w9x, w10x) (Option.some.inj h) rfl
set_option maxHeartbeats 8000000 in
set_option maxRecDepth 100000 in
theorem c_X1_partnerOf (l : Launch) (dC : Nat → ClassId) (dI : Nat → Nat → Nat) (cc : Nat → ClassId) (q0 q1 q2 q3 q4 : Nat) (lefts_ : Int32) (clogs : Int32) (number : Int32) (apart : Int32) (partners : (Nat → Int32)) (x1 : Int32) (sz : Nat) (ret : Int32) (hu : f_X1_partnerOf x1 clogs partners = some ret) : Met l yX1_partnerOf (mw yX1_partnerOf cX1_partnerOf 2 (some .int)) ({ frames := 1, cells := 0, slots := 0, locals := 21 } : Room) (va_Pc [.ref q0, .int x1] (mP (dC, dI) (ts cc) sz [(q0, .inr (1, [.ref q1, .ref q2, .ref q3, .ref q4, .int lefts_, .int clogs, .int number, .int apart])), (q4, .inl (cc 0, 10, .inl partners))])) ((fun A => va_Qi (fun (r : Int32) (w : Unit) => r = ret ∧ w = ()) (fun (w : Unit) t => va_P (dC, dI) classes [(q0, .inr (1, [.ref q1, .ref q2, .ref q3, .ref q4, .int lefts_, .int clogs, .int number, .int apart])), (q4, .inl (cc 0, 10, .inl partners))] t.heap) A) (va_A [(q0, .inr (1, [.ref q1, .ref q2, .ref q3, .ref q4, .int lefts_, .int clogs, .int number, .int apart])), (q4, .inl (cc 0, 10, .inl partners))] sz)) 0 0 (va_A [(q0, .inr (1, [.ref q1, .ref q2, .ref q3, .ref q4, .int lefts_, .int clogs, .int number, .int apart])), (q4, .inl (cc 0, 10, .inl partners))] sz) := by
  refine met_go (Qc := fun A => va_Qi (fun (r : Int32) (w : Unit) => r = ret ∧ w = ()) (fun (w : Unit) t => va_P (dC, dI) classes [(q0, .inr (1, [.ref q1, .ref q2, .ref q3, .ref q4, .int lefts_, .int clogs, .int number, .int apart])), (q4, .inl (cc 0, 10, .inl partners))] t.heap) A) (by decide) (Nat.le_of_ble_eq_true rfl) ?_
  intro p e s m below meth c A ls H locs hC hr hlk hin hA hP hl _
  have hC : CX p m c cX1_partnerOf 2 s ([.ref q0, .int x1] : List Value).toArray RX1 (dC, dI) (ts cc) := hC
  have hx := hC.1.1
  have hb := hC.1.2
  have h := hu
  have hu0 := hu
  unfold f_X1_partnerOf at h
  have hl : lv_has ls 2 [(0, .ref q0), (1, .int x1)] := hl
  refine lv_iload_n hx hb dX1_partnerOf_0 rfl (lv_at hl 1 rfl) ?_
  refine lv_if_lt (tgt := 23) hx hb dX1_partnerOf_1 (by decide) (fun c1 => ?_) (fun c1 => ?_)
  · have h := if_t c1 h
    refine lv_bipush (v := -4) hx hb dX1_partnerOf_23 (by decide) ?_
    exact ret_i hC hr hlk hP dX1_partnerOf_25 () (⟨Option.some.inj h, rfl⟩) rfl
  · have h := if_f c1 h
    refine lv_iload_n hx hb dX1_partnerOf_4 rfl (lv_at hl 1 rfl) ?_
    refine lv_aload_n hx hb dX1_partnerOf_5 rfl (lv_at hl 0 rfl) ?_
    refine g_get hC hP fg_X1_39 0 rfl rfl dX1_partnerOf_6 ?_
    refine lv_icmp_ge (tgt := 23) hx hb dX1_partnerOf_9 (by decide) (fun c2 => ?_) (fun c2 => ?_)
    · have h := if_t c2 h
      refine lv_bipush (v := -4) hx hb dX1_partnerOf_23 (by decide) ?_
      exact ret_i hC hr hlk hP dX1_partnerOf_25 () (⟨Option.some.inj h, rfl⟩) rfl
    · have h := if_f c2 h
      refine lv_aload_n hx hb dX1_partnerOf_12 rfl (lv_at hl 0 rfl) ?_
      refine g_get hC hP fg_X1_21 0 rfl rfl dX1_partnerOf_13 ?_
      refine lv_iload_n hx hb dX1_partnerOf_16 rfl (lv_at hl 1 rfl) ?_
      obtain ⟨r3, hu, h⟩ := bnd_h h
      refine kc_i (kN hC (c_X9_at l dC dI cc q4 10 partners x1 H.size r3 hu) cn_X1_86 kw332 rfl rfl ⟨(Nat.le_of_ble_eq_true rfl), (Nat.le_of_ble_eq_true rfl)⟩ hP [1] rfl rfl (As := [.ref q4, .int x1]) (rest := []) rfl rfl hl.1 (Nat.le_of_ble_eq_true rfl) dX1_partnerOf_17 ⟨Nat.zero_le _, Nat.zero_le _⟩) hP hA [1] rfl rfl (fun H locs hP => ?_)
      have hP : PD (dC, dI) A s.heap [(q0, .inr (1, [.ref q1, .ref q2, .ref q3, .ref q4, .int lefts_, .int clogs, .int number, .int apart])), (q4, .inl (cc 0, 10, .inl partners))] H locs := hP
      refine lv_goto (tgt := 25) hx hb dX1_partnerOf_20 (by decide) ?_
      exact ret_i hC hr hlk hP dX1_partnerOf_25 () (⟨Option.some.inj h, rfl⟩) rfl
set_option maxHeartbeats 8000000 in
set_option maxRecDepth 100000 in
theorem c_X1_giveOnTopOf (l : Launch) (dC : Nat → ClassId) (dI : Nat → Nat → Nat) (cc : Nat → ClassId) (q0 q1 q2 q3 q4 : Nat) (lefts_ : Int32) (clogs : Int32) (number : Int32) (apart : Int32) (sets : (Nat → Int32)) (mates : (Nat → Int32)) (x1 : Int32) (x2 : Int32) (sz : Nat) (o_sets : (Nat → Int32)) (hu : f_X1_giveOnTopOf x1 x2 lefts_ clogs sets mates = some o_sets) : Met l yX1_giveOnTopOf (mw yX1_giveOnTopOf cX1_giveOnTopOf 5 none) ({ frames := 1, cells := 0, slots := 0, locals := 22 } : Room) (va_Pc [.ref q0, .int x1, .int x2] (mP (dC, dI) (ts cc) sz [(q0, .inr (1, [.ref q1, .ref q2, .ref q3, .ref q4, .int lefts_, .int clogs, .int number, .int apart])), (q1, .inl (cc 0, 1024, .inl sets)), (q2, .inl (cc 0, 10, .inl mates))])) ((fun A => va_Qv (fun (w : (Nat → Int32)) => w = o_sets) (fun (w : (Nat → Int32)) t => va_P (dC, dI) classes [(q0, .inr (1, [.ref q1, .ref q2, .ref q3, .ref q4, .int lefts_, .int clogs, .int number, .int apart])), (q1, .inl (cc 0, 1024, .inl w)), (q2, .inl (cc 0, 10, .inl mates))] t.heap) A) (va_A [(q0, .inr (1, [.ref q1, .ref q2, .ref q3, .ref q4, .int lefts_, .int clogs, .int number, .int apart])), (q1, .inl (cc 0, 1024, .inl sets)), (q2, .inl (cc 0, 10, .inl mates))] sz)) 0 0 (va_A [(q0, .inr (1, [.ref q1, .ref q2, .ref q3, .ref q4, .int lefts_, .int clogs, .int number, .int apart])), (q1, .inl (cc 0, 1024, .inl sets)), (q2, .inl (cc 0, 10, .inl mates))] sz) := by
  refine met_go (Qc := fun A => va_Qv (fun (w : (Nat → Int32)) => w = o_sets) (fun (w : (Nat → Int32)) t => va_P (dC, dI) classes [(q0, .inr (1, [.ref q1, .ref q2, .ref q3, .ref q4, .int lefts_, .int clogs, .int number, .int apart])), (q1, .inl (cc 0, 1024, .inl w)), (q2, .inl (cc 0, 10, .inl mates))] t.heap) A) (by decide) (Nat.le_of_ble_eq_true rfl) ?_
  intro p e s m below meth c A ls H locs hC hr hlk hin hA hP hl _
  have hC : CX p m c cX1_giveOnTopOf 5 s ([.ref q0, .int x1, .int x2] : List Value).toArray RX1 (dC, dI) (ts cc) := hC
  have hx := hC.1.1
  have hb := hC.1.2
  have h := hu
  have hu0 := hu
  unfold f_X1_giveOnTopOf at h
  have hl : lv_has ls 5 [(0, .ref q0), (1, .int x1), (2, .int x2)] := hl
  refine W_abs (fun Z eZ => ?_)
  refine lv_iconst (v := 0) hx hb dX1_giveOnTopOf_0 (by decide) ?_
  refine lv_istore_n (lv' := [(3, .int 0), (0, .ref q0), (1, .int x1), (2, .int x2)]) hx hb dX1_giveOnTopOf_1 rfl hl (by decide) rfl (fun ls hl => ?_)
  obtain ⟨⟨j1x, w2x⟩, hlp, h⟩ := bnd_h h
  have L1 : ∀ (n : Nat) (j1 : Int32) (w2 : (Nat → Int32)) (j1x : Int32) (w2x : (Nat → Int32)), lp (u2 (b_X1_giveOnTopOf_1 clogs lefts_ mates x1 x2)) n (j1, w2) = some (j1x, w2x) → ∀ (H : Heap) (locs : List Loc) (ls : Array Slot), PD (dC, dI) A s.heap [(q0, .inr (1, [.ref q1, .ref q2, .ref q3, .ref q4, .int lefts_, .int clogs, .int number, .int apart])), (q1, .inl (cc 0, 1024, .inl w2)), (q2, .inl (cc 0, 10, .inl mates))] H locs → lv_has ls 5 [(0, .ref q0), (1, .int x1), (2, .int x2), (3, .int j1)] → (∀ (H : Heap) (locs : List Loc) (ls : Array Slot), PD (dC, dI) A s.heap [(q0, .inr (1, [.ref q1, .ref q2, .ref q3, .ref q4, .int lefts_, .int clogs, .int number, .int apart])), (q1, .inl (cc 0, 1024, .inl w2x)), (q2, .inl (cc 0, 10, .inl mates))] H locs → lv_has ls 5 [(0, .ref q0), (1, .int x1), (2, .int x2), (3, .int j1x)] → W p l e ({ frames := 1, cells := 0, slots := 0, locals := 22 } : Room) s m ([.ref q0, .int x1, .int x2] : List Value).toArray below meth c H locs 0 0 Z (F0 m 83 ls [])) → W p l e ({ frames := 1, cells := 0, slots := 0, locals := 22 } : Room) s m ([.ref q0, .int x1, .int x2] : List Value).toArray below meth c H locs 0 0 Z (F0 m 2 ls []) := by
    intro n
    induction n with
    | zero => intro j1 w2 j1x w2x h; exact (lp_0 h).elim
    | succ n ih =>
      intro j1 w2 j1x w2x h H locs ls hP hl KK
      obtain ⟨y, h, hz⟩ := lp_h h
      refine lv_iload_n hx hb dX1_giveOnTopOf_2 rfl (lv_at hl 3 rfl) ?_
      refine lv_aload_n hx hb dX1_giveOnTopOf_3 rfl (lv_at hl 0 rfl) ?_
      refine g_get hC hP fg_X1_39 0 rfl rfl dX1_giveOnTopOf_4 ?_
      refine lv_icmp_ge (tgt := 83) hx hb dX1_giveOnTopOf_7 (by decide) (fun c3 => ?_) (fun c3 => ?_)
      · have h := if_t c3 h
        cases lp_e h hz
        exact KK H locs ls hP (lv_sub hl [0, 1, 2, 3] rfl)
      · have h := if_f c3 h
        refine lv_aload_n hx hb dX1_giveOnTopOf_10 rfl (lv_at hl 0 rfl) ?_
        refine g_get hC hP fg_X1_44 0 rfl rfl dX1_giveOnTopOf_11 ?_
        refine lv_iload_n hx hb dX1_giveOnTopOf_14 rfl (lv_at hl 2 rfl) ?_
        refine lv_iand hx hb dX1_giveOnTopOf_15 ?_
        refine lv_iload_n hx hb dX1_giveOnTopOf_16 rfl (lv_at hl 3 rfl) ?_
        obtain ⟨r4, hu, h⟩ := bnd_h h
        refine kc_z (kN hC (c_X9_hasBit l dC dI cc (lefts_ &&& x2) j1 H.size r4 hu) cn_X1_75 kw586 rfl rfl ⟨(Nat.le_of_ble_eq_true rfl), (Nat.le_of_ble_eq_true rfl)⟩ hP [] rfl rfl (As := [.int (lefts_ &&& x2), .int j1]) (rest := []) rfl rfl hl.1 (Nat.le_of_ble_eq_true rfl) dX1_giveOnTopOf_17 ⟨Nat.zero_le _, Nat.zero_le _⟩) hP hA [] rfl rfl (fun hz_r4 H locs hP => ?_)
        have hP : PD (dC, dI) A s.heap [(q0, .inr (1, [.ref q1, .ref q2, .ref q3, .ref q4, .int lefts_, .int clogs, .int number, .int apart])), (q1, .inl (cc 0, 1024, .inl w2)), (q2, .inl (cc 0, 10, .inl mates))] H locs := hP
        refine lv_if_eq (tgt := 77) hx hb dX1_giveOnTopOf_20 (by decide) (fun c5 => ?_) (fun c5 => ?_)
        · have h := if_t c5 h
          refine lv_iinc (v := (j1 + 1)) (lv' := [(3, .int (j1 + 1)), (0, .ref q0), (1, .int x1), (2, .int x2)]) hx hb dX1_giveOnTopOf_77 hl (k := 3) rfl rfl (by decide) rfl (fun ls hl => ?_)
          refine lv_goto (tgt := 2) hx hb dX1_giveOnTopOf_80 (by decide) ?_
          exact ih _ _ _ _ (lp_n h hz) H locs ls hP (lv_sub hl [1, 2, 3, 0] rfl) KK
        · have h := if_f c5 h
          refine lv_iconst (v := 0) hx hb dX1_giveOnTopOf_23 (by decide) ?_
          refine lv_istore (lv' := [(4, .int 0), (0, .ref q0), (1, .int x1), (2, .int x2), (3, .int j1)]) hx hb dX1_giveOnTopOf_24 hl (by decide) rfl (fun ls hl => ?_)
          obtain ⟨⟨j6x, w7x⟩, hlp, h⟩ := bnd_h h
          have L2 : ∀ (n : Nat) (j6 : Int32) (w7 : (Nat → Int32)) (j6x : Int32) (w7x : (Nat → Int32)), lp (u2 (b_X1_giveOnTopOf_2 clogs j1 mates x1 x2)) n (j6, w7) = some (j6x, w7x) → ∀ (H : Heap) (locs : List Loc) (ls : Array Slot), PD (dC, dI) A s.heap [(q0, .inr (1, [.ref q1, .ref q2, .ref q3, .ref q4, .int lefts_, .int clogs, .int number, .int apart])), (q1, .inl (cc 0, 1024, .inl w7)), (q2, .inl (cc 0, 10, .inl mates))] H locs → lv_has ls 5 [(0, .ref q0), (1, .int x1), (2, .int x2), (3, .int j1), (4, .int j6)] → (∀ (H : Heap) (locs : List Loc) (ls : Array Slot), PD (dC, dI) A s.heap [(q0, .inr (1, [.ref q1, .ref q2, .ref q3, .ref q4, .int lefts_, .int clogs, .int number, .int apart])), (q1, .inl (cc 0, 1024, .inl w7x)), (q2, .inl (cc 0, 10, .inl mates))] H locs → lv_has ls 5 [(0, .ref q0), (1, .int x1), (2, .int x2), (3, .int j1), (4, .int j6x)] → W p l e ({ frames := 1, cells := 0, slots := 0, locals := 22 } : Room) s m ([.ref q0, .int x1, .int x2] : List Value).toArray below meth c H locs 0 0 Z (F0 m 77 ls [])) → W p l e ({ frames := 1, cells := 0, slots := 0, locals := 22 } : Room) s m ([.ref q0, .int x1, .int x2] : List Value).toArray below meth c H locs 0 0 Z (F0 m 26 ls []) := by
            intro n
            induction n with
            | zero => intro j6 w7 j6x w7x h; exact (lp_0 h).elim
            | succ n ih =>
              intro j6 w7 j6x w7x h H locs ls hP hl KK
              obtain ⟨y, h, hz⟩ := lp_h h
              refine lv_iload hx hb dX1_giveOnTopOf_26 (lv_at hl 4 rfl) ?_
              refine lv_aload_n hx hb dX1_giveOnTopOf_28 rfl (lv_at hl 0 rfl) ?_
              refine g_get hC hP fg_X1_39 0 rfl rfl dX1_giveOnTopOf_29 ?_
              refine lv_icmp_ge (tgt := 77) hx hb dX1_giveOnTopOf_32 (by decide) (fun c8 => ?_) (fun c8 => ?_)
              · have h := if_t c8 h
                cases lp_e h hz
                exact KK H locs ls hP (lv_sub hl [0, 1, 2, 3, 4] rfl)
              · have h := if_f c8 h
                refine lv_aload_n hx hb dX1_giveOnTopOf_35 rfl (lv_at hl 0 rfl) ?_
                refine g_get hC hP fg_X1_15 0 rfl rfl dX1_giveOnTopOf_36 ?_
                refine lv_iload_n hx hb dX1_giveOnTopOf_39 rfl (lv_at hl 3 rfl) ?_
                obtain ⟨r9, hu, h⟩ := bnd_h h
                refine kc_i (kN hC (c_X9_at l dC dI cc q2 10 mates j1 H.size r9 hu) cn_X1_86 kw332 rfl rfl ⟨(Nat.le_of_ble_eq_true rfl), (Nat.le_of_ble_eq_true rfl)⟩ hP [2] rfl rfl (As := [.ref q2, .int j1]) (rest := []) rfl rfl hl.1 (Nat.le_of_ble_eq_true rfl) dX1_giveOnTopOf_40 ⟨Nat.zero_le _, Nat.zero_le _⟩) hP hA [2] rfl rfl (fun H locs hP => ?_)
                have hP : PD (dC, dI) A s.heap [(q0, .inr (1, [.ref q1, .ref q2, .ref q3, .ref q4, .int lefts_, .int clogs, .int number, .int apart])), (q1, .inl (cc 0, 1024, .inl w7)), (q2, .inl (cc 0, 10, .inl mates))] H locs := hP
                refine lv_iload_n hx hb dX1_giveOnTopOf_43 rfl (lv_at hl 2 rfl) ?_
                refine lv_iand hx hb dX1_giveOnTopOf_44 ?_
                refine lv_iload hx hb dX1_giveOnTopOf_45 (lv_at hl 4 rfl) ?_
                obtain ⟨r10, hu, h⟩ := bnd_h h
                refine kc_z (kN hC (c_X9_hasBit l dC dI cc (r9 &&& x2) j6 H.size r10 hu) cn_X1_75 kw586 rfl rfl ⟨(Nat.le_of_ble_eq_true rfl), (Nat.le_of_ble_eq_true rfl)⟩ hP [] rfl rfl (As := [.int (r9 &&& x2), .int j6]) (rest := []) rfl rfl hl.1 (Nat.le_of_ble_eq_true rfl) dX1_giveOnTopOf_47 ⟨Nat.zero_le _, Nat.zero_le _⟩) hP hA [] rfl rfl (fun hz_r10 H locs hP => ?_)
                have hP : PD (dC, dI) A s.heap [(q0, .inr (1, [.ref q1, .ref q2, .ref q3, .ref q4, .int lefts_, .int clogs, .int number, .int apart])), (q1, .inl (cc 0, 1024, .inl w7)), (q2, .inl (cc 0, 10, .inl mates))] H locs := hP
                refine lv_if_eq (tgt := 71) hx hb dX1_giveOnTopOf_50 (by decide) (fun c11 => ?_) (fun c11 => ?_)
                · have h := if_t c11 h
                  refine lv_iinc (v := (j6 + 1)) (lv' := [(4, .int (j6 + 1)), (0, .ref q0), (1, .int x1), (2, .int x2), (3, .int j1)]) hx hb dX1_giveOnTopOf_71 hl (k := 4) rfl rfl (by decide) rfl (fun ls hl => ?_)
                  refine lv_goto (tgt := 26) hx hb dX1_giveOnTopOf_74 (by decide) ?_
                  exact ih _ _ _ _ (lp_n h hz) H locs ls hP (lv_sub hl [1, 2, 3, 4, 0] rfl) KK
                · have h := if_f c11 h
                  refine lv_aload_n hx hb dX1_giveOnTopOf_53 rfl (lv_at hl 0 rfl) ?_
                  refine g_get hC hP fg_X1_9 0 rfl rfl dX1_giveOnTopOf_54 ?_
                  refine lv_iload_n hx hb dX1_giveOnTopOf_57 rfl (lv_at hl 1 rfl) ?_
                  refine lv_iconst (v := 1) hx hb dX1_giveOnTopOf_58 (by decide) ?_
                  refine lv_iload_n hx hb dX1_giveOnTopOf_59 rfl (lv_at hl 3 rfl) ?_
                  refine lv_ishl hx hb dX1_giveOnTopOf_60 ?_
                  refine lv_ior hx hb dX1_giveOnTopOf_61 ?_
                  refine lv_iconst (v := 1) hx hb dX1_giveOnTopOf_62 (by decide) ?_
                  refine lv_iload hx hb dX1_giveOnTopOf_63 (lv_at hl 4 rfl) ?_
                  refine lv_ishl hx hb dX1_giveOnTopOf_65 ?_
                  refine lv_ior hx hb dX1_giveOnTopOf_66 ?_
                  refine lv_iconst (v := 1) hx hb dX1_giveOnTopOf_67 (by decide) ?_
                  obtain ⟨w12, hu, h⟩ := bnd_h h
                  refine kc_v (kN hC (c_X9_put l dC dI cc q1 1024 w7 ((x1 ||| (1 <<< (j1 &&& 31))) ||| (1 <<< (j6 &&& 31))) 1 H.size w12 hu) cn_X1_50 kw320 rfl rfl ⟨(Nat.le_of_ble_eq_true rfl), (Nat.le_of_ble_eq_true rfl)⟩ hP [1] rfl rfl (As := [.ref q1, .int ((x1 ||| (1 <<< (j1 &&& 31))) ||| (1 <<< (j6 &&& 31))), .int 1]) (rest := []) rfl rfl hl.1 (Nat.le_of_ble_eq_true rfl) dX1_giveOnTopOf_68 ⟨Nat.zero_le _, Nat.zero_le _⟩) hP hA [1] rfl rfl (fun H locs hP => ?_)
                  have hP : PD (dC, dI) A s.heap [(q0, .inr (1, [.ref q1, .ref q2, .ref q3, .ref q4, .int lefts_, .int clogs, .int number, .int apart])), (q1, .inl (cc 0, 1024, .inl w12)), (q2, .inl (cc 0, 10, .inl mates))] H locs := hP
                  refine lv_iinc (v := (j6 + 1)) (lv' := [(4, .int (j6 + 1)), (0, .ref q0), (1, .int x1), (2, .int x2), (3, .int j1)]) hx hb dX1_giveOnTopOf_71 hl (k := 4) rfl rfl (by decide) rfl (fun ls hl => ?_)
                  refine lv_goto (tgt := 26) hx hb dX1_giveOnTopOf_74 (by decide) ?_
                  exact ih _ _ _ _ (lp_n h hz) H locs ls hP (lv_sub hl [1, 2, 3, 4, 0] rfl) KK
          refine L2 FU _ _ j6x w7x hlp H locs ls hP (lv_sub hl [1, 2, 3, 4, 0] rfl) (fun H locs ls hP hl => ?_)
          refine lv_iinc (v := (j1 + 1)) (lv' := [(3, .int (j1 + 1)), (0, .ref q0), (1, .int x1), (2, .int x2), (4, .int j6x)]) hx hb dX1_giveOnTopOf_77 hl (k := 3) rfl rfl (by decide) rfl (fun ls hl => ?_)
          refine lv_goto (tgt := 2) hx hb dX1_giveOnTopOf_80 (by decide) ?_
          exact ih _ _ _ _ (lp_n h hz) H locs ls hP (lv_sub hl [1, 2, 3, 0] rfl) KK
  refine L1 FU _ _ j1x w2x hlp H locs ls hP (lv_sub hl [1, 2, 3, 0] rfl) (fun H locs ls hP hl => ?_)
  rw [eZ]
  exact ret_v hC hr hlk hP dX1_giveOnTopOf_83 w2x (Option.some.inj h) rfl
set_option maxHeartbeats 8000000 in
set_option maxRecDepth 100000 in
theorem c_X1_giveOut (l : Launch) (dC : Nat → ClassId) (dI : Nat → Nat → Nat) (cc : Nat → ClassId) (q0 q1 q2 q3 q4 : Nat) (lefts_ : Int32) (clogs : Int32) (number : Int32) (apart : Int32) (sets : (Nat → Int32)) (mates : (Nat → Int32)) (x1 : Int32) (sz : Nat) (o_sets : (Nat → Int32)) (hu : f_X1_giveOut x1 lefts_ clogs sets mates = some o_sets) : Met l yX1_giveOut (mw yX1_giveOut cX1_giveOut 3 none) ({ frames := 2, cells := 0, slots := 0, locals := 46 } : Room) (va_Pc [.ref q0, .int x1] (mP (dC, dI) (ts cc) sz [(q0, .inr (1, [.ref q1, .ref q2, .ref q3, .ref q4, .int lefts_, .int clogs, .int number, .int apart])), (q1, .inl (cc 0, 1024, .inl sets)), (q2, .inl (cc 0, 10, .inl mates))])) ((fun A => va_Qv (fun (w : (Nat → Int32)) => w = o_sets) (fun (w : (Nat → Int32)) t => va_P (dC, dI) classes [(q0, .inr (1, [.ref q1, .ref q2, .ref q3, .ref q4, .int lefts_, .int clogs, .int number, .int apart])), (q1, .inl (cc 0, 1024, .inl w)), (q2, .inl (cc 0, 10, .inl mates))] t.heap) A) (va_A [(q0, .inr (1, [.ref q1, .ref q2, .ref q3, .ref q4, .int lefts_, .int clogs, .int number, .int apart])), (q1, .inl (cc 0, 1024, .inl sets)), (q2, .inl (cc 0, 10, .inl mates))] sz)) 0 0 (va_A [(q0, .inr (1, [.ref q1, .ref q2, .ref q3, .ref q4, .int lefts_, .int clogs, .int number, .int apart])), (q1, .inl (cc 0, 1024, .inl sets)), (q2, .inl (cc 0, 10, .inl mates))] sz) := by
  refine met_go (Qc := fun A => va_Qv (fun (w : (Nat → Int32)) => w = o_sets) (fun (w : (Nat → Int32)) t => va_P (dC, dI) classes [(q0, .inr (1, [.ref q1, .ref q2, .ref q3, .ref q4, .int lefts_, .int clogs, .int number, .int apart])), (q1, .inl (cc 0, 1024, .inl w)), (q2, .inl (cc 0, 10, .inl mates))] t.heap) A) (by decide) (Nat.le_of_ble_eq_true rfl) ?_
  intro p e s m below meth c A ls H locs hC hr hlk hin hA hP hl _
  have hC : CX p m c cX1_giveOut 3 s ([.ref q0, .int x1] : List Value).toArray RX1 (dC, dI) (ts cc) := hC
  have hx := hC.1.1
  have hb := hC.1.2
  have h := hu
  have hu0 := hu
  unfold f_X1_giveOut at h
  have hl : lv_has ls 3 [(0, .ref q0), (1, .int x1)] := hl
  refine W_abs (fun Z eZ => ?_)
  refine lv_iconst (v := 1) hx hb dX1_giveOut_0 (by decide) ?_
  refine lv_aload_n hx hb dX1_giveOut_1 rfl (lv_at hl 0 rfl) ?_
  refine g_get hC hP fg_X1_39 0 rfl rfl dX1_giveOut_2 ?_
  refine lv_ishl hx hb dX1_giveOut_5 ?_
  refine lv_iconst (v := 1) hx hb dX1_giveOut_6 (by decide) ?_
  refine lv_isub hx hb dX1_giveOut_7 ?_
  refine lv_istore_n (lv' := [(2, .int ((1 <<< (clogs &&& 31)) - 1)), (0, .ref q0), (1, .int x1)]) hx hb dX1_giveOut_8 rfl hl (by decide) rfl (fun ls hl => ?_)
  obtain ⟨⟨j1x, w2x⟩, hlp, h⟩ := bnd_h h
  have L1 : ∀ (n : Nat) (j1 : Int32) (w2 : (Nat → Int32)) (j1x : Int32) (w2x : (Nat → Int32)), lp (u2 (b_X1_giveOut_1 clogs lefts_ mates x1)) n (j1, w2) = some (j1x, w2x) → ∀ (H : Heap) (locs : List Loc) (ls : Array Slot), PD (dC, dI) A s.heap [(q0, .inr (1, [.ref q1, .ref q2, .ref q3, .ref q4, .int lefts_, .int clogs, .int number, .int apart])), (q1, .inl (cc 0, 1024, .inl w2)), (q2, .inl (cc 0, 10, .inl mates))] H locs → lv_has ls 3 [(0, .ref q0), (1, .int x1), (2, .int j1)] → (∀ (H : Heap) (locs : List Loc) (ls : Array Slot), PD (dC, dI) A s.heap [(q0, .inr (1, [.ref q1, .ref q2, .ref q3, .ref q4, .int lefts_, .int clogs, .int number, .int apart])), (q1, .inl (cc 0, 1024, .inl w2x)), (q2, .inl (cc 0, 10, .inl mates))] H locs → lv_has ls 3 [(0, .ref q0), (1, .int x1), (2, .int j1x)] → W p l e ({ frames := 2, cells := 0, slots := 0, locals := 46 } : Room) s m ([.ref q0, .int x1] : List Value).toArray below meth c H locs 0 0 Z (F0 m 40 ls [])) → W p l e ({ frames := 2, cells := 0, slots := 0, locals := 46 } : Room) s m ([.ref q0, .int x1] : List Value).toArray below meth c H locs 0 0 Z (F0 m 9 ls []) := by
    intro n
    induction n with
    | zero => intro j1 w2 j1x w2x h; exact (lp_0 h).elim
    | succ n ih =>
      intro j1 w2 j1x w2x h H locs ls hP hl KK
      obtain ⟨y, h, hz⟩ := lp_h h
      refine lv_iload_n hx hb dX1_giveOut_9 rfl (lv_at hl 2 rfl) ?_
      refine lv_if_lt (tgt := 40) hx hb dX1_giveOut_10 (by decide) (fun c3 => ?_) (fun c3 => ?_)
      · have h := if_t c3 h
        cases lp_e h hz
        exact KK H locs ls hP (lv_sub hl [0, 1, 2] rfl)
      · have h := if_f c3 h
        refine lv_aload_n hx hb dX1_giveOut_13 rfl (lv_at hl 0 rfl) ?_
        refine g_get hC hP fg_X1_9 0 rfl rfl dX1_giveOut_14 ?_
        refine lv_iload_n hx hb dX1_giveOut_17 rfl (lv_at hl 2 rfl) ?_
        obtain ⟨r4, hu, h⟩ := bnd_h h
        refine kc_i (kN hC (c_X9_at l dC dI cc q1 1024 w2 j1 H.size r4 hu) cn_X1_86 kw332 rfl rfl ⟨(Nat.le_of_ble_eq_true rfl), (Nat.le_of_ble_eq_true rfl)⟩ hP [1] rfl rfl (As := [.ref q1, .int j1]) (rest := []) rfl rfl hl.1 (Nat.le_of_ble_eq_true rfl) dX1_giveOut_18 ⟨Nat.zero_le _, Nat.zero_le _⟩) hP hA [1] rfl rfl (fun H locs hP => ?_)
        have hP : PD (dC, dI) A s.heap [(q0, .inr (1, [.ref q1, .ref q2, .ref q3, .ref q4, .int lefts_, .int clogs, .int number, .int apart])), (q1, .inl (cc 0, 1024, .inl w2)), (q2, .inl (cc 0, 10, .inl mates))] H locs := hP
        refine lv_if_eq (tgt := 34) hx hb dX1_giveOut_21 (by decide) (fun c5 => ?_) (fun c5 => ?_)
        · have h := if_t c5 h
          refine lv_iinc (v := (j1 + (-1))) (lv' := [(2, .int (j1 + (-1))), (0, .ref q0), (1, .int x1)]) hx hb dX1_giveOut_34 hl (k := 2) rfl rfl (by decide) rfl (fun ls hl => ?_)
          refine lv_goto (tgt := 9) hx hb dX1_giveOut_37 (by decide) ?_
          exact ih _ _ _ _ (lp_n h hz) H locs ls hP (lv_sub hl [1, 2, 0] rfl) KK
        · have h := if_f c5 h
          refine lv_aload_n hx hb dX1_giveOut_24 rfl (lv_at hl 0 rfl) ?_
          refine lv_iload_n hx hb dX1_giveOut_25 rfl (lv_at hl 2 rfl) ?_
          refine lv_iload_n hx hb dX1_giveOut_26 rfl (lv_at hl 1 rfl) ?_
          refine lv_iload_n hx hb dX1_giveOut_27 rfl (lv_at hl 2 rfl) ?_
          refine lv_iconst (v := -1) hx hb dX1_giveOut_28 (by decide) ?_
          refine lv_ixor hx hb dX1_giveOut_29 ?_
          refine lv_iand hx hb dX1_giveOut_30 ?_
          obtain ⟨w6, hu, h⟩ := bnd_h h
          refine kc_v (kV hC (c_X1_giveOnTopOf l dC dI cc q0 q1 q2 q3 q4 lefts_ clogs number apart w2 mates j1 (x1 &&& (j1 ^^^ (-1))) H.size w6 hu) cv_X1_116 kw644 rfl rfl ⟨(Nat.le_of_ble_eq_true rfl), (Nat.le_of_ble_eq_true rfl)⟩ hP [0, 1, 2] rfl rfl rfl (q0 := 0) rfl (As := [.int j1, .int (x1 &&& (j1 ^^^ (-1)))]) (rest := []) rfl rfl hl.1 (Nat.le_of_ble_eq_true rfl) dX1_giveOut_31 ⟨Nat.zero_le _, Nat.zero_le _⟩) hP hA [0, 1, 2] rfl rfl (fun H locs hP => ?_)
          have hP : PD (dC, dI) A s.heap [(q0, .inr (1, [.ref q1, .ref q2, .ref q3, .ref q4, .int lefts_, .int clogs, .int number, .int apart])), (q1, .inl (cc 0, 1024, .inl w6)), (q2, .inl (cc 0, 10, .inl mates))] H locs := hP
          refine lv_iinc (v := (j1 + (-1))) (lv' := [(2, .int (j1 + (-1))), (0, .ref q0), (1, .int x1)]) hx hb dX1_giveOut_34 hl (k := 2) rfl rfl (by decide) rfl (fun ls hl => ?_)
          refine lv_goto (tgt := 9) hx hb dX1_giveOut_37 (by decide) ?_
          exact ih _ _ _ _ (lp_n h hz) H locs ls hP (lv_sub hl [1, 2, 0] rfl) KK
  refine L1 FU _ _ j1x w2x hlp H locs ls hP (lv_sub hl [1, 2, 0] rfl) (fun H locs ls hP hl => ?_)
  rw [eZ]
  exact ret_v hC hr hlk hP dX1_giveOut_40 w2x (Option.some.inj h) rfl
set_option maxHeartbeats 8000000 in
set_option maxRecDepth 100000 in
theorem c_X1_serve (l : Launch) (dC : Nat → ClassId) (dI : Nat → Nat → Nat) (cc : Nat → ClassId) (q0 q1 q2 q3 q4 q5 q6 q7 : Nat) (lefts_ : Int32) (clogs : Int32) (number : Int32) (apart : Int32) (sets : (Nat → Int32)) (mates : (Nat → Int32)) (sizes : (Nat → Int32)) (o1_number : Int32) (o1_stocking : Int32) (o1_lefts : (Nat → Int32)) (o1_rights : (Nat → Int32)) (sz : Nat) (ret : Int32) (o_sets : (Nat → Int32)) (hu : f_X1_serve lefts_ clogs sets mates sizes o1_number o1_stocking o1_lefts o1_rights = some (ret, o_sets)) : Met l yX1_serve (mw yX1_serve cX1_serve 5 (some .int)) ({ frames := 3, cells := 0, slots := 0, locals := 68 } : Room) (va_Pc [.ref q0, .ref q5] (mP (dC, dI) (ts cc) sz [(q0, .inr (1, [.ref q1, .ref q2, .ref q3, .ref q4, .int lefts_, .int clogs, .int number, .int apart])), (q1, .inl (cc 0, 1024, .inl sets)), (q2, .inl (cc 0, 10, .inl mates)), (q3, .inl (cc 0, 10, .inl sizes)), (q5, .inr (6, [.ref q6, .ref q7, .int o1_number, .int o1_stocking])), (q6, .inl (cc 0, 5, .inl o1_lefts)), (q7, .inl (cc 0, 5, .inl o1_rights))])) ((fun A => va_Qi (fun (r : Int32) (w : (Nat → Int32)) => r = ret ∧ w = o_sets) (fun (w : (Nat → Int32)) t => va_P (dC, dI) classes [(q0, .inr (1, [.ref q1, .ref q2, .ref q3, .ref q4, .int lefts_, .int clogs, .int number, .int apart])), (q1, .inl (cc 0, 1024, .inl w)), (q2, .inl (cc 0, 10, .inl mates)), (q3, .inl (cc 0, 10, .inl sizes)), (q5, .inr (6, [.ref q6, .ref q7, .int o1_number, .int o1_stocking])), (q6, .inl (cc 0, 5, .inl o1_lefts)), (q7, .inl (cc 0, 5, .inl o1_rights))] t.heap) A) (va_A [(q0, .inr (1, [.ref q1, .ref q2, .ref q3, .ref q4, .int lefts_, .int clogs, .int number, .int apart])), (q1, .inl (cc 0, 1024, .inl sets)), (q2, .inl (cc 0, 10, .inl mates)), (q3, .inl (cc 0, 10, .inl sizes)), (q5, .inr (6, [.ref q6, .ref q7, .int o1_number, .int o1_stocking])), (q6, .inl (cc 0, 5, .inl o1_lefts)), (q7, .inl (cc 0, 5, .inl o1_rights))] sz)) 0 0 (va_A [(q0, .inr (1, [.ref q1, .ref q2, .ref q3, .ref q4, .int lefts_, .int clogs, .int number, .int apart])), (q1, .inl (cc 0, 1024, .inl sets)), (q2, .inl (cc 0, 10, .inl mates)), (q3, .inl (cc 0, 10, .inl sizes)), (q5, .inr (6, [.ref q6, .ref q7, .int o1_number, .int o1_stocking])), (q6, .inl (cc 0, 5, .inl o1_lefts)), (q7, .inl (cc 0, 5, .inl o1_rights))] sz) := by
  refine met_go (Qc := fun A => va_Qi (fun (r : Int32) (w : (Nat → Int32)) => r = ret ∧ w = o_sets) (fun (w : (Nat → Int32)) t => va_P (dC, dI) classes [(q0, .inr (1, [.ref q1, .ref q2, .ref q3, .ref q4, .int lefts_, .int clogs, .int number, .int apart])), (q1, .inl (cc 0, 1024, .inl w)), (q2, .inl (cc 0, 10, .inl mates)), (q3, .inl (cc 0, 10, .inl sizes)), (q5, .inr (6, [.ref q6, .ref q7, .int o1_number, .int o1_stocking])), (q6, .inl (cc 0, 5, .inl o1_lefts)), (q7, .inl (cc 0, 5, .inl o1_rights))] t.heap) A) (by decide) (Nat.le_of_ble_eq_true rfl) ?_
  intro p e s m below meth c A ls H locs hC hr hlk hin hA hP hl _
  have hC : CX p m c cX1_serve 5 s ([.ref q0, .ref q5] : List Value).toArray RX1 (dC, dI) (ts cc) := hC
  have hx := hC.1.1
  have hb := hC.1.2
  have h := hu
  have hu0 := hu
  unfold f_X1_serve at h
  have hl : lv_has ls 5 [(0, .ref q0), (1, .ref q5)] := hl
  refine W_abs (fun Z eZ => ?_)
  refine lv_aload_n hx hb dX1_serve_0 rfl (lv_at hl 1 rfl) ?_
  refine lv_ifnonnull (tgt := 6) hx hb dX1_serve_1 (by decide) ?_
  refine lv_aload_n hx hb dX1_serve_6 rfl (lv_at hl 0 rfl) ?_
  refine g_get hC hP fg_X1_9 0 rfl rfl dX1_serve_7 ?_
  refine lv_iconst (v := 0) hx hb dX1_serve_10 (by decide) ?_
  obtain ⟨w1, hu, h⟩ := bnd_h h
  refine kc_v (kS hC (c_J7_fill_53178 l dC dI cc q1 1024 sets 0 H.size w1 hu) cs_X1_63 kw599 rfl rfl ⟨(Nat.le_of_ble_eq_true rfl), (Nat.le_of_ble_eq_true rfl)⟩ hP [1] rfl rfl (As := [.ref q1, .int 0]) (rest := []) rfl rfl hl.1 (Nat.le_of_ble_eq_true rfl) dX1_serve_11 ⟨Nat.zero_le _, Nat.zero_le _⟩) hP hA [1] rfl rfl (fun H locs hP => ?_)
  have hP : PD (dC, dI) A s.heap [(q0, .inr (1, [.ref q1, .ref q2, .ref q3, .ref q4, .int lefts_, .int clogs, .int number, .int apart])), (q1, .inl (cc 0, 1024, .inl w1)), (q2, .inl (cc 0, 10, .inl mates)), (q3, .inl (cc 0, 10, .inl sizes)), (q5, .inr (6, [.ref q6, .ref q7, .int o1_number, .int o1_stocking])), (q6, .inl (cc 0, 5, .inl o1_lefts)), (q7, .inl (cc 0, 5, .inl o1_rights))] H locs := hP
  refine lv_aload_n hx hb dX1_serve_14 rfl (lv_at hl 0 rfl) ?_
  refine g_get hC hP fg_X1_9 0 rfl rfl dX1_serve_15 ?_
  refine lv_iconst (v := 0) hx hb dX1_serve_18 (by decide) ?_
  refine lv_iconst (v := 1) hx hb dX1_serve_19 (by decide) ?_
  obtain ⟨w2, hu, h⟩ := bnd_h h
  refine kc_v (kN hC (c_X9_put l dC dI cc q1 1024 w1 0 1 H.size w2 hu) cn_X1_50 kw320 rfl rfl ⟨(Nat.le_of_ble_eq_true rfl), (Nat.le_of_ble_eq_true rfl)⟩ hP [1] rfl rfl (As := [.ref q1, .int 0, .int 1]) (rest := []) rfl rfl hl.1 (Nat.le_of_ble_eq_true rfl) dX1_serve_20 ⟨Nat.zero_le _, Nat.zero_le _⟩) hP hA [1] rfl rfl (fun H locs hP => ?_)
  have hP : PD (dC, dI) A s.heap [(q0, .inr (1, [.ref q1, .ref q2, .ref q3, .ref q4, .int lefts_, .int clogs, .int number, .int apart])), (q1, .inl (cc 0, 1024, .inl w2)), (q2, .inl (cc 0, 10, .inl mates)), (q3, .inl (cc 0, 10, .inl sizes)), (q5, .inr (6, [.ref q6, .ref q7, .int o1_number, .int o1_stocking])), (q6, .inl (cc 0, 5, .inl o1_lefts)), (q7, .inl (cc 0, 5, .inl o1_rights))] H locs := hP
  refine lv_iconst (v := 0) hx hb dX1_serve_23 (by decide) ?_
  refine lv_istore_n (lv' := [(2, .int 0), (0, .ref q0), (1, .ref q5)]) hx hb dX1_serve_24 rfl hl (by decide) rfl (fun ls hl => ?_)
  obtain ⟨⟨j3x, w4x⟩, hlp, h⟩ := bnd_h h
  have L1 : ∀ (n : Nat) (j3 : Int32) (w4 : (Nat → Int32)) (j3x : Int32) (w4x : (Nat → Int32)), lp (u2 (b_X1_serve_1 clogs lefts_ mates o1_lefts o1_number o1_rights o1_stocking sizes)) n (j3, w4) = some (j3x, w4x) → ∀ (H : Heap) (locs : List Loc) (ls : Array Slot), PD (dC, dI) A s.heap [(q0, .inr (1, [.ref q1, .ref q2, .ref q3, .ref q4, .int lefts_, .int clogs, .int number, .int apart])), (q1, .inl (cc 0, 1024, .inl w4)), (q2, .inl (cc 0, 10, .inl mates)), (q3, .inl (cc 0, 10, .inl sizes)), (q5, .inr (6, [.ref q6, .ref q7, .int o1_number, .int o1_stocking])), (q6, .inl (cc 0, 5, .inl o1_lefts)), (q7, .inl (cc 0, 5, .inl o1_rights))] H locs → lv_has ls 5 [(0, .ref q0), (1, .ref q5), (2, .int j3)] → (∀ (H : Heap) (locs : List Loc) (ls : Array Slot), PD (dC, dI) A s.heap [(q0, .inr (1, [.ref q1, .ref q2, .ref q3, .ref q4, .int lefts_, .int clogs, .int number, .int apart])), (q1, .inl (cc 0, 1024, .inl w4x)), (q2, .inl (cc 0, 10, .inl mates)), (q3, .inl (cc 0, 10, .inl sizes)), (q5, .inr (6, [.ref q6, .ref q7, .int o1_number, .int o1_stocking])), (q6, .inl (cc 0, 5, .inl o1_lefts)), (q7, .inl (cc 0, 5, .inl o1_rights))] H locs → lv_has ls 5 [(0, .ref q0), (1, .ref q5), (2, .int j3x)] → W p l e ({ frames := 3, cells := 0, slots := 0, locals := 68 } : Room) s m ([.ref q0, .ref q5] : List Value).toArray below meth c H locs 0 0 Z (F0 m 105 ls [])) → W p l e ({ frames := 3, cells := 0, slots := 0, locals := 68 } : Room) s m ([.ref q0, .ref q5] : List Value).toArray below meth c H locs 0 0 Z (F0 m 25 ls []) := by
    intro n
    induction n with
    | zero => intro j3 w4 j3x w4x h; exact (lp_0 h).elim
    | succ n ih =>
      intro j3 w4 j3x w4x h H locs ls hP hl KK
      obtain ⟨y, h, hz⟩ := lp_h h
      refine lv_iload_n hx hb dX1_serve_25 rfl (lv_at hl 2 rfl) ?_
      refine lv_aload_n hx hb dX1_serve_26 rfl (lv_at hl 1 rfl) ?_
      refine g_get hC hP fg_X1_100 4 rfl rfl dX1_serve_27 ?_
      refine lv_icmp_ge (tgt := 105) hx hb dX1_serve_30 (by decide) (fun c5 => ?_) (fun c5 => ?_)
      · have h := if_t c5 h
        cases lp_e h hz
        exact KK H locs ls hP (lv_sub hl [0, 1, 2] rfl)
      · have h := if_f c5 h
        refine lv_iconst (v := 0) hx hb dX1_serve_33 (by decide) ?_
        refine lv_istore_n (lv' := [(3, .int 0), (0, .ref q0), (1, .ref q5), (2, .int j3)]) hx hb dX1_serve_34 rfl hl (by decide) rfl (fun ls hl => ?_)
        refine lv_iconst (v := 0) hx hb dX1_serve_35 (by decide) ?_
        refine lv_istore (lv' := [(4, .int 0), (3, .int 0), (0, .ref q0), (1, .ref q5), (2, .int j3)]) hx hb dX1_serve_36 hl (by decide) rfl (fun ls hl => ?_)
        obtain ⟨⟨j6x, j7x⟩, hlp, h⟩ := bnd_h h
        have L2 : ∀ (n : Nat) (j6 : Int32) (j7 : Int32) (j6x : Int32) (j7x : Int32), lp (u2 (b_X1_serve_2 clogs j3 lefts_ o1_lefts o1_rights o1_stocking sizes)) n (j6, j7) = some (j6x, j7x) → ∀ (H : Heap) (locs : List Loc) (ls : Array Slot), PD (dC, dI) A s.heap [(q0, .inr (1, [.ref q1, .ref q2, .ref q3, .ref q4, .int lefts_, .int clogs, .int number, .int apart])), (q1, .inl (cc 0, 1024, .inl w4)), (q2, .inl (cc 0, 10, .inl mates)), (q3, .inl (cc 0, 10, .inl sizes)), (q5, .inr (6, [.ref q6, .ref q7, .int o1_number, .int o1_stocking])), (q6, .inl (cc 0, 5, .inl o1_lefts)), (q7, .inl (cc 0, 5, .inl o1_rights))] H locs → lv_has ls 5 [(0, .ref q0), (1, .ref q5), (2, .int j3), (3, .int j6), (4, .int j7)] → (∀ (H : Heap) (locs : List Loc) (ls : Array Slot), PD (dC, dI) A s.heap [(q0, .inr (1, [.ref q1, .ref q2, .ref q3, .ref q4, .int lefts_, .int clogs, .int number, .int apart])), (q1, .inl (cc 0, 1024, .inl w4)), (q2, .inl (cc 0, 10, .inl mates)), (q3, .inl (cc 0, 10, .inl sizes)), (q5, .inr (6, [.ref q6, .ref q7, .int o1_number, .int o1_stocking])), (q6, .inl (cc 0, 5, .inl o1_lefts)), (q7, .inl (cc 0, 5, .inl o1_rights))] H locs → lv_has ls 5 [(0, .ref q0), (1, .ref q5), (2, .int j3), (3, .int j6x), (4, .int j7x)] → W p l e ({ frames := 3, cells := 0, slots := 0, locals := 68 } : Room) s m ([.ref q0, .ref q5] : List Value).toArray below meth c H locs 0 0 Z (F0 m 94 ls [])) → W p l e ({ frames := 3, cells := 0, slots := 0, locals := 68 } : Room) s m ([.ref q0, .ref q5] : List Value).toArray below meth c H locs 0 0 Z (F0 m 38 ls []) := by
          intro n
          induction n with
          | zero => intro j6 j7 j6x j7x h; exact (lp_0 h).elim
          | succ n ih =>
            intro j6 j7 j6x j7x h H locs ls hP hl KK
            obtain ⟨y, h, hz⟩ := lp_h h
            refine lv_iload hx hb dX1_serve_38 (lv_at hl 4 rfl) ?_
            refine lv_aload_n hx hb dX1_serve_40 rfl (lv_at hl 0 rfl) ?_
            refine g_get hC hP fg_X1_39 0 rfl rfl dX1_serve_41 ?_
            refine lv_icmp_ge (tgt := 94) hx hb dX1_serve_44 (by decide) (fun c8 => ?_) (fun c8 => ?_)
            · have h := if_t c8 h
              cases lp_e h hz
              exact KK H locs ls hP (lv_sub hl [0, 1, 2, 3, 4] rfl)
            · have h := if_f c8 h
              refine lv_aload_n hx hb dX1_serve_47 rfl (lv_at hl 1 rfl) ?_
              refine lv_iload_n hx hb dX1_serve_48 rfl (lv_at hl 2 rfl) ?_
              refine lv_aload_n hx hb dX1_serve_49 rfl (lv_at hl 0 rfl) ?_
              refine g_get hC hP fg_X1_44 0 rfl rfl dX1_serve_50 ?_
              refine lv_iload hx hb dX1_serve_53 (lv_at hl 4 rfl) ?_
              obtain ⟨r9, hu, h⟩ := bnd_h h
              refine kc_z (kN hC (c_X9_hasBit l dC dI cc lefts_ j7 H.size r9 hu) cn_X1_75 kw586 rfl rfl ⟨(Nat.le_of_ble_eq_true rfl), (Nat.le_of_ble_eq_true rfl)⟩ hP [] rfl rfl (As := [.int lefts_, .int j7]) (rest := [.int j3, .ref q5]) rfl rfl hl.1 (Nat.le_of_ble_eq_true rfl) dX1_serve_55 ⟨Nat.zero_le _, Nat.zero_le _⟩) hP hA [] rfl rfl (fun hz_r9 H locs hP => ?_)
              have hP : PD (dC, dI) A s.heap [(q0, .inr (1, [.ref q1, .ref q2, .ref q3, .ref q4, .int lefts_, .int clogs, .int number, .int apart])), (q1, .inl (cc 0, 1024, .inl w4)), (q2, .inl (cc 0, 10, .inl mates)), (q3, .inl (cc 0, 10, .inl sizes)), (q5, .inr (6, [.ref q6, .ref q7, .int o1_number, .int o1_stocking])), (q6, .inl (cc 0, 5, .inl o1_lefts)), (q7, .inl (cc 0, 5, .inl o1_rights))] H locs := hP
              refine lv_if_eq (tgt := 65) hx hb dX1_serve_58 (by decide) (fun c10 => ?_) (fun c10 => ?_)
              · have h := if_t c10 h
                refine lv_iconst (v := 1) hx hb dX1_serve_65 (by decide) ?_
                refine lv_aload_n hx hb dX1_serve_66 rfl (lv_at hl 0 rfl) ?_
                refine g_get hC hP fg_X1_18 0 rfl rfl dX1_serve_67 ?_
                refine lv_iload hx hb dX1_serve_70 (lv_at hl 4 rfl) ?_
                obtain ⟨r11, hu, h⟩ := bnd_h h
                refine kc_i (kN hC (c_X9_at l dC dI cc q3 10 sizes j7 H.size r11 hu) cn_X1_86 kw332 rfl rfl ⟨(Nat.le_of_ble_eq_true rfl), (Nat.le_of_ble_eq_true rfl)⟩ hP [3] rfl rfl (As := [.ref q3, .int j7]) (rest := [.int 1, .int j3, .ref q5]) rfl rfl hl.1 (Nat.le_of_ble_eq_true rfl) dX1_serve_72 ⟨Nat.zero_le _, Nat.zero_le _⟩) hP hA [3] rfl rfl (fun H locs hP => ?_)
                have hP : PD (dC, dI) A s.heap [(q0, .inr (1, [.ref q1, .ref q2, .ref q3, .ref q4, .int lefts_, .int clogs, .int number, .int apart])), (q1, .inl (cc 0, 1024, .inl w4)), (q2, .inl (cc 0, 10, .inl mates)), (q3, .inl (cc 0, 10, .inl sizes)), (q5, .inr (6, [.ref q6, .ref q7, .int o1_number, .int o1_stocking])), (q6, .inl (cc 0, 5, .inl o1_lefts)), (q7, .inl (cc 0, 5, .inl o1_rights))] H locs := hP
                obtain ⟨r12, hu, h⟩ := bnd_h h
                refine kc_z (kV hC (c_X6_suits l dC dI cc q5 q6 q7 o1_number o1_stocking o1_lefts o1_rights j3 1 r11 H.size r12 hu) cv_X1_103 kw634 rfl rfl ⟨(Nat.le_of_ble_eq_true rfl), (Nat.le_of_ble_eq_true rfl)⟩ hP [4, 5, 6] rfl rfl rfl (q0 := 4) rfl (As := [.int j3, .int 1, .int r11]) (rest := []) rfl rfl hl.1 (Nat.le_of_ble_eq_true rfl) dX1_serve_75 ⟨Nat.zero_le _, Nat.zero_le _⟩) hP hA [4, 5, 6] rfl rfl (fun hz_r12 H locs hP => ?_)
                have hP : PD (dC, dI) A s.heap [(q0, .inr (1, [.ref q1, .ref q2, .ref q3, .ref q4, .int lefts_, .int clogs, .int number, .int apart])), (q1, .inl (cc 0, 1024, .inl w4)), (q2, .inl (cc 0, 10, .inl mates)), (q3, .inl (cc 0, 10, .inl sizes)), (q5, .inr (6, [.ref q6, .ref q7, .int o1_number, .int o1_stocking])), (q6, .inl (cc 0, 5, .inl o1_lefts)), (q7, .inl (cc 0, 5, .inl o1_rights))] H locs := hP
                refine lv_if_eq (tgt := 88) hx hb dX1_serve_78 (by decide) (fun c13 => ?_) (fun c13 => ?_)
                · have h := if_t c13 h
                  refine lv_iinc (v := (j7 + 1)) (lv' := [(4, .int (j7 + 1)), (0, .ref q0), (1, .ref q5), (2, .int j3), (3, .int j6)]) hx hb dX1_serve_88 hl (k := 4) rfl rfl (by decide) rfl (fun ls hl => ?_)
                  refine lv_goto (tgt := 38) hx hb dX1_serve_91 (by decide) ?_
                  exact ih _ _ _ _ (lp_n h hz) H locs ls hP (lv_sub hl [1, 2, 3, 4, 0] rfl) KK
                · have h := if_f c13 h
                  refine lv_iload_n hx hb dX1_serve_81 rfl (lv_at hl 3 rfl) ?_
                  refine lv_iconst (v := 1) hx hb dX1_serve_82 (by decide) ?_
                  refine lv_iload hx hb dX1_serve_83 (lv_at hl 4 rfl) ?_
                  refine lv_ishl hx hb dX1_serve_85 ?_
                  refine lv_ior hx hb dX1_serve_86 ?_
                  refine lv_istore_n (lv' := [(3, .int (j6 ||| (1 <<< (j7 &&& 31)))), (0, .ref q0), (1, .ref q5), (2, .int j3), (4, .int j7)]) hx hb dX1_serve_87 rfl hl (by decide) rfl (fun ls hl => ?_)
                  refine lv_iinc (v := (j7 + 1)) (lv' := [(4, .int (j7 + 1)), (3, .int (j6 ||| (1 <<< (j7 &&& 31)))), (0, .ref q0), (1, .ref q5), (2, .int j3)]) hx hb dX1_serve_88 hl (k := 4) rfl rfl (by decide) rfl (fun ls hl => ?_)
                  refine lv_goto (tgt := 38) hx hb dX1_serve_91 (by decide) ?_
                  exact ih _ _ _ _ (lp_n h hz) H locs ls hP (lv_sub hl [2, 3, 4, 1, 0] rfl) KK
              · have h := if_f c10 h
                refine lv_iconst (v := 0) hx hb dX1_serve_61 (by decide) ?_
                refine lv_goto (tgt := 66) hx hb dX1_serve_62 (by decide) ?_
                refine lv_aload_n hx hb dX1_serve_66 rfl (lv_at hl 0 rfl) ?_
                refine g_get hC hP fg_X1_18 0 rfl rfl dX1_serve_67 ?_
                refine lv_iload hx hb dX1_serve_70 (lv_at hl 4 rfl) ?_
                obtain ⟨r14, hu, h⟩ := bnd_h h
                refine kc_i (kN hC (c_X9_at l dC dI cc q3 10 sizes j7 H.size r14 hu) cn_X1_86 kw332 rfl rfl ⟨(Nat.le_of_ble_eq_true rfl), (Nat.le_of_ble_eq_true rfl)⟩ hP [3] rfl rfl (As := [.ref q3, .int j7]) (rest := [.int 0, .int j3, .ref q5]) rfl rfl hl.1 (Nat.le_of_ble_eq_true rfl) dX1_serve_72 ⟨Nat.zero_le _, Nat.zero_le _⟩) hP hA [3] rfl rfl (fun H locs hP => ?_)
                have hP : PD (dC, dI) A s.heap [(q0, .inr (1, [.ref q1, .ref q2, .ref q3, .ref q4, .int lefts_, .int clogs, .int number, .int apart])), (q1, .inl (cc 0, 1024, .inl w4)), (q2, .inl (cc 0, 10, .inl mates)), (q3, .inl (cc 0, 10, .inl sizes)), (q5, .inr (6, [.ref q6, .ref q7, .int o1_number, .int o1_stocking])), (q6, .inl (cc 0, 5, .inl o1_lefts)), (q7, .inl (cc 0, 5, .inl o1_rights))] H locs := hP
                obtain ⟨r15, hu, h⟩ := bnd_h h
                refine kc_z (kV hC (c_X6_suits l dC dI cc q5 q6 q7 o1_number o1_stocking o1_lefts o1_rights j3 0 r14 H.size r15 hu) cv_X1_103 kw634 rfl rfl ⟨(Nat.le_of_ble_eq_true rfl), (Nat.le_of_ble_eq_true rfl)⟩ hP [4, 5, 6] rfl rfl rfl (q0 := 4) rfl (As := [.int j3, .int 0, .int r14]) (rest := []) rfl rfl hl.1 (Nat.le_of_ble_eq_true rfl) dX1_serve_75 ⟨Nat.zero_le _, Nat.zero_le _⟩) hP hA [4, 5, 6] rfl rfl (fun hz_r15 H locs hP => ?_)
                have hP : PD (dC, dI) A s.heap [(q0, .inr (1, [.ref q1, .ref q2, .ref q3, .ref q4, .int lefts_, .int clogs, .int number, .int apart])), (q1, .inl (cc 0, 1024, .inl w4)), (q2, .inl (cc 0, 10, .inl mates)), (q3, .inl (cc 0, 10, .inl sizes)), (q5, .inr (6, [.ref q6, .ref q7, .int o1_number, .int o1_stocking])), (q6, .inl (cc 0, 5, .inl o1_lefts)), (q7, .inl (cc 0, 5, .inl o1_rights))] H locs := hP
                refine lv_if_eq (tgt := 88) hx hb dX1_serve_78 (by decide) (fun c16 => ?_) (fun c16 => ?_)
                · have h := if_t c16 h
                  refine lv_iinc (v := (j7 + 1)) (lv' := [(4, .int (j7 + 1)), (0, .ref q0), (1, .ref q5), (2, .int j3), (3, .int j6)]) hx hb dX1_serve_88 hl (k := 4) rfl rfl (by decide) rfl (fun ls hl => ?_)
                  refine lv_goto (tgt := 38) hx hb dX1_serve_91 (by decide) ?_
                  exact ih _ _ _ _ (lp_n h hz) H locs ls hP (lv_sub hl [1, 2, 3, 4, 0] rfl) KK
                · have h := if_f c16 h
                  refine lv_iload_n hx hb dX1_serve_81 rfl (lv_at hl 3 rfl) ?_
                  refine lv_iconst (v := 1) hx hb dX1_serve_82 (by decide) ?_
                  refine lv_iload hx hb dX1_serve_83 (lv_at hl 4 rfl) ?_
                  refine lv_ishl hx hb dX1_serve_85 ?_
                  refine lv_ior hx hb dX1_serve_86 ?_
                  refine lv_istore_n (lv' := [(3, .int (j6 ||| (1 <<< (j7 &&& 31)))), (0, .ref q0), (1, .ref q5), (2, .int j3), (4, .int j7)]) hx hb dX1_serve_87 rfl hl (by decide) rfl (fun ls hl => ?_)
                  refine lv_iinc (v := (j7 + 1)) (lv' := [(4, .int (j7 + 1)), (3, .int (j6 ||| (1 <<< (j7 &&& 31)))), (0, .ref q0), (1, .ref q5), (2, .int j3)]) hx hb dX1_serve_88 hl (k := 4) rfl rfl (by decide) rfl (fun ls hl => ?_)
                  refine lv_goto (tgt := 38) hx hb dX1_serve_91 (by decide) ?_
                  exact ih _ _ _ _ (lp_n h hz) H locs ls hP (lv_sub hl [2, 3, 4, 1, 0] rfl) KK
        refine L2 FU _ _ j6x j7x hlp H locs ls hP (lv_sub hl [2, 3, 4, 1, 0] rfl) (fun H locs ls hP hl => ?_)
        refine lv_aload_n hx hb dX1_serve_94 rfl (lv_at hl 0 rfl) ?_
        refine lv_iload_n hx hb dX1_serve_95 rfl (lv_at hl 3 rfl) ?_
        obtain ⟨w17, hu, h⟩ := bnd_h h
        refine kc_v (kV hC (c_X1_giveOut l dC dI cc q0 q1 q2 q3 q4 lefts_ clogs number apart w4 mates j6x H.size w17 hu) cv_X1_107 kw640 rfl rfl ⟨(Nat.le_of_ble_eq_true rfl), (Nat.le_of_ble_eq_true rfl)⟩ hP [0, 1, 2] rfl rfl rfl (q0 := 0) rfl (As := [.int j6x]) (rest := []) rfl rfl hl.1 (Nat.le_of_ble_eq_true rfl) dX1_serve_96 ⟨Nat.zero_le _, Nat.zero_le _⟩) hP hA [0, 1, 2] rfl rfl (fun H locs hP => ?_)
        have hP : PD (dC, dI) A s.heap [(q0, .inr (1, [.ref q1, .ref q2, .ref q3, .ref q4, .int lefts_, .int clogs, .int number, .int apart])), (q1, .inl (cc 0, 1024, .inl w17)), (q2, .inl (cc 0, 10, .inl mates)), (q3, .inl (cc 0, 10, .inl sizes)), (q5, .inr (6, [.ref q6, .ref q7, .int o1_number, .int o1_stocking])), (q6, .inl (cc 0, 5, .inl o1_lefts)), (q7, .inl (cc 0, 5, .inl o1_rights))] H locs := hP
        refine lv_iinc (v := (j3 + 1)) (lv' := [(2, .int (j3 + 1)), (0, .ref q0), (1, .ref q5), (3, .int j6x), (4, .int j7x)]) hx hb dX1_serve_99 hl (k := 2) rfl rfl (by decide) rfl (fun ls hl => ?_)
        refine lv_goto (tgt := 25) hx hb dX1_serve_102 (by decide) ?_
        exact ih _ _ _ _ (lp_n h hz) H locs ls hP (lv_sub hl [1, 2, 0] rfl) KK
  refine L1 FU _ _ j3x w4x hlp H locs ls hP (lv_sub hl [1, 2, 0] rfl) (fun H locs ls hP hl => ?_)
  refine lv_iconst (v := 0) hx hb dX1_serve_105 (by decide) ?_
  refine lv_istore_n (lv' := [(2, .int 0), (0, .ref q0), (1, .ref q5)]) hx hb dX1_serve_106 rfl hl (by decide) rfl (fun ls hl => ?_)
  refine lv_iconst (v := 0) hx hb dX1_serve_107 (by decide) ?_
  refine lv_istore_n (lv' := [(3, .int 0), (2, .int 0), (0, .ref q0), (1, .ref q5)]) hx hb dX1_serve_108 rfl hl (by decide) rfl (fun ls hl => ?_)
  obtain ⟨⟨j18x, j19x⟩, hlp, h⟩ := bnd_h h
  have L3 : ∀ (n : Nat) (j18 : Int32) (j19 : Int32) (j18x : Int32) (j19x : Int32), lp (u2 (b_X1_serve_3 clogs w4x)) n (j18, j19) = some (j18x, j19x) → ∀ (H : Heap) (locs : List Loc) (ls : Array Slot), PD (dC, dI) A s.heap [(q0, .inr (1, [.ref q1, .ref q2, .ref q3, .ref q4, .int lefts_, .int clogs, .int number, .int apart])), (q1, .inl (cc 0, 1024, .inl w4x)), (q2, .inl (cc 0, 10, .inl mates)), (q3, .inl (cc 0, 10, .inl sizes)), (q5, .inr (6, [.ref q6, .ref q7, .int o1_number, .int o1_stocking])), (q6, .inl (cc 0, 5, .inl o1_lefts)), (q7, .inl (cc 0, 5, .inl o1_rights))] H locs → lv_has ls 5 [(0, .ref q0), (2, .int j18), (3, .int j19)] → (∀ (H : Heap) (locs : List Loc) (ls : Array Slot), PD (dC, dI) A s.heap [(q0, .inr (1, [.ref q1, .ref q2, .ref q3, .ref q4, .int lefts_, .int clogs, .int number, .int apart])), (q1, .inl (cc 0, 1024, .inl w4x)), (q2, .inl (cc 0, 10, .inl mates)), (q3, .inl (cc 0, 10, .inl sizes)), (q5, .inr (6, [.ref q6, .ref q7, .int o1_number, .int o1_stocking])), (q6, .inl (cc 0, 5, .inl o1_lefts)), (q7, .inl (cc 0, 5, .inl o1_rights))] H locs → lv_has ls 5 [(0, .ref q0), (2, .int j18x), (3, .int j19x)] → W p l e ({ frames := 3, cells := 0, slots := 0, locals := 68 } : Room) s m ([.ref q0, .ref q5] : List Value).toArray below meth c H locs 0 0 Z (F0 m 147 ls [])) → W p l e ({ frames := 3, cells := 0, slots := 0, locals := 68 } : Room) s m ([.ref q0, .ref q5] : List Value).toArray below meth c H locs 0 0 Z (F0 m 109 ls []) := by
    intro n
    induction n with
    | zero => intro j18 j19 j18x j19x h; exact (lp_0 h).elim
    | succ n ih =>
      intro j18 j19 j18x j19x h H locs ls hP hl KK
      obtain ⟨y, h, hz⟩ := lp_h h
      refine lv_iload_n hx hb dX1_serve_109 rfl (lv_at hl 2 rfl) ?_
      refine lv_iconst (v := 1) hx hb dX1_serve_110 (by decide) ?_
      refine lv_aload_n hx hb dX1_serve_111 rfl (lv_at hl 0 rfl) ?_
      refine g_get hC hP fg_X1_39 0 rfl rfl dX1_serve_112 ?_
      refine lv_ishl hx hb dX1_serve_115 ?_
      refine lv_icmp_ge (tgt := 147) hx hb dX1_serve_116 (by decide) (fun c20 => ?_) (fun c20 => ?_)
      · have h := if_t c20 h
        cases lp_e h hz
        exact KK H locs ls hP (lv_sub hl [0, 1, 2] rfl)
      · have h := if_f c20 h
        refine lv_aload_n hx hb dX1_serve_119 rfl (lv_at hl 0 rfl) ?_
        refine g_get hC hP fg_X1_9 0 rfl rfl dX1_serve_120 ?_
        refine lv_iload_n hx hb dX1_serve_123 rfl (lv_at hl 2 rfl) ?_
        obtain ⟨r21, hu, h⟩ := bnd_h h
        refine kc_i (kN hC (c_X9_at l dC dI cc q1 1024 w4x j19 H.size r21 hu) cn_X1_86 kw332 rfl rfl ⟨(Nat.le_of_ble_eq_true rfl), (Nat.le_of_ble_eq_true rfl)⟩ hP [1] rfl rfl (As := [.ref q1, .int j19]) (rest := []) rfl rfl hl.1 (Nat.le_of_ble_eq_true rfl) dX1_serve_124 ⟨Nat.zero_le _, Nat.zero_le _⟩) hP hA [1] rfl rfl (fun H locs hP => ?_)
        have hP : PD (dC, dI) A s.heap [(q0, .inr (1, [.ref q1, .ref q2, .ref q3, .ref q4, .int lefts_, .int clogs, .int number, .int apart])), (q1, .inl (cc 0, 1024, .inl w4x)), (q2, .inl (cc 0, 10, .inl mates)), (q3, .inl (cc 0, 10, .inl sizes)), (q5, .inr (6, [.ref q6, .ref q7, .int o1_number, .int o1_stocking])), (q6, .inl (cc 0, 5, .inl o1_lefts)), (q7, .inl (cc 0, 5, .inl o1_rights))] H locs := hP
        refine lv_if_eq (tgt := 141) hx hb dX1_serve_127 (by decide) (fun c22 => ?_) (fun c22 => ?_)
        · have h := if_t c22 h
          refine lv_iinc (v := (j19 + 1)) (lv' := [(3, .int (j19 + 1)), (0, .ref q0), (2, .int j18)]) hx hb dX1_serve_141 hl (k := 2) rfl rfl (by decide) rfl (fun ls hl => ?_)
          refine lv_goto (tgt := 109) hx hb dX1_serve_144 (by decide) ?_
          exact ih _ _ _ _ (lp_n h hz) H locs ls hP (lv_sub hl [1, 2, 0] rfl) KK
        · have h := if_f c22 h
          refine lv_iload_n hx hb dX1_serve_130 rfl (lv_at hl 1 rfl) ?_
          refine lv_iload_n hx hb dX1_serve_131 rfl (lv_at hl 2 rfl) ?_
          obtain ⟨r23, hu, h⟩ := bnd_h h
          refine kc_i (kS hC (c_J6_bitCount_0f7a4 l dC dI cc j19 H.size r23 hu) cs_X1_111 kw619 rfl rfl ⟨(Nat.le_of_ble_eq_true rfl), (Nat.le_of_ble_eq_true rfl)⟩ hP [] rfl rfl (As := [.int j19]) (rest := [.int j18]) rfl rfl hl.1 (Nat.le_of_ble_eq_true rfl) dX1_serve_132 ⟨Nat.zero_le _, Nat.zero_le _⟩) hP hA [] rfl rfl (fun H locs hP => ?_)
          have hP : PD (dC, dI) A s.heap [(q0, .inr (1, [.ref q1, .ref q2, .ref q3, .ref q4, .int lefts_, .int clogs, .int number, .int apart])), (q1, .inl (cc 0, 1024, .inl w4x)), (q2, .inl (cc 0, 10, .inl mates)), (q3, .inl (cc 0, 10, .inl sizes)), (q5, .inr (6, [.ref q6, .ref q7, .int o1_number, .int o1_stocking])), (q6, .inl (cc 0, 5, .inl o1_lefts)), (q7, .inl (cc 0, 5, .inl o1_rights))] H locs := hP
          refine lv_iconst (v := 2) hx hb dX1_serve_135 (by decide) ?_
          refine lv_idiv hx hb dX1_serve_136 (by decide) ?_
          refine g_max hC hl.1 mh_X1_36 (Nat.le_of_ble_eq_true rfl) (Nat.le_of_ble_eq_true rfl) (Nat.zero_le _) (Nat.zero_le _) dX1_serve_137 ?_
          refine lv_topi (fun v24 ev => ?_)
          have h := nm_h ev h
          refine lv_istore_n (lv' := [(2, .int v24), (0, .ref q0), (3, .int j19)]) hx hb dX1_serve_140 rfl hl (by decide) rfl (fun ls hl => ?_)
          refine lv_iinc (v := (j19 + 1)) (lv' := [(3, .int (j19 + 1)), (2, .int v24), (0, .ref q0)]) hx hb dX1_serve_141 hl (k := 2) rfl rfl (by decide) rfl (fun ls hl => ?_)
          refine lv_goto (tgt := 109) hx hb dX1_serve_144 (by decide) ?_
          exact ih _ _ _ _ (lp_n h hz) H locs ls hP (lv_sub hl [2, 1, 0] rfl) KK
  refine L3 FU _ _ j18x j19x hlp H locs ls hP (lv_sub hl [2, 1, 0] rfl) (fun H locs ls hP hl => ?_)
  refine lv_iload_n hx hb dX1_serve_147 rfl (lv_at hl 1 rfl) ?_
  rw [eZ]
  exact ret_i hC hr hlk hP dX1_serve_148 w4x (Prod.mk.inj (Option.some.inj h)) rfl
