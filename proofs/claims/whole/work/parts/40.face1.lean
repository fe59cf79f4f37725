theorem in9 : ∀ w ∈ u_ws RX9 TX9 10, w ∈ Tg := by decide +kernel
theorem kw399 : Cond.fieldLink RX9 10 "LeftAndRight" "text" "LLeftAndRight$Text;" ∈ Tg := mem_Tg (List.mem_append_right _ (List.mem_of_getElem? (i := 399) (by decide +kernel))) (by decide +kernel)
theorem kw37 : Cond.fieldLink RX9 103 "LeftAndRight$Text" "length" "I" ∈ Tg := mem_Tg (List.mem_append_right _ (List.mem_of_getElem? (i := 37) (by decide +kernel))) (by decide +kernel)
theorem kw282 : Cond.methodLink RX9 89 yX5_append ∈ Tg := mem_Tg (List.mem_append_right _ (List.mem_of_getElem? (i := 282) (by decide +kernel))) (by decide +kernel)
theorem kw283 : Cond.instanceMethod yX5_append ∈ Tg := mem_Tg (List.mem_append_right _ (List.mem_of_getElem? (i := 283) (by decide +kernel))) (by decide +kernel)
theorem kw284 : Cond.selects RX5 yX5_append yX5_append ∈ Tg := mem_Tg (List.mem_append_right _ (List.mem_of_getElem? (i := 284) (by decide +kernel))) (by decide +kernel)
theorem kw395 : Cond.methodLink RX9 96 yX5_clear ∈ Tg := mem_Tg (List.mem_append_right _ (List.mem_of_getElem? (i := 395) (by decide +kernel))) (by decide +kernel)
theorem kw396 : Cond.instanceMethod yX5_clear ∈ Tg := mem_Tg (List.mem_append_right _ (List.mem_of_getElem? (i := 396) (by decide +kernel))) (by decide +kernel)
theorem kw397 : Cond.selects RX5 yX5_clear yX5_clear ∈ Tg := mem_Tg (List.mem_append_right _ (List.mem_of_getElem? (i := 397) (by decide +kernel))) (by decide +kernel)
theorem kw400 : Cond.fieldLink RX9 19 "LeftAndRight" "reader" "LLeftAndRight$Reader;" ∈ Tg := mem_Tg (List.mem_append_right _ (List.mem_of_getElem? (i := 400) (by decide +kernel))) (by decide +kernel)
theorem kw290 : Cond.methodLink RX9 106 yX3_read ∈ Tg := mem_Tg (List.mem_append_right _ (List.mem_of_getElem? (i := 290) (by decide +kernel))) (by decide +kernel)
theorem kw291 : Cond.instanceMethod yX3_read ∈ Tg := mem_Tg (List.mem_append_right _ (List.mem_of_getElem? (i := 291) (by decide +kernel))) (by decide +kernel)
theorem kw292 : Cond.selects RX3 yX3_read yX3_read ∈ Tg := mem_Tg (List.mem_append_right _ (List.mem_of_getElem? (i := 292) (by decide +kernel))) (by decide +kernel)
theorem kw401 : Cond.fieldLink RX9 26 "LeftAndRight" "shelf" "LLeftAndRight$Shelf;" ∈ Tg := mem_Tg (List.mem_append_right _ (List.mem_of_getElem? (i := 401) (by decide +kernel))) (by decide +kernel)
theorem kw451 : Cond.methodLink RX9 113 yX4_holds ∈ Tg := mem_Tg (List.mem_append_right _ (List.mem_of_getElem? (i := 451) (by decide +kernel))) (by decide +kernel)
theorem kw474 : Cond.methodLink RX9 127 yX4_cell ∈ Tg := mem_Tg (List.mem_append_right _ (List.mem_of_getElem? (i := 474) (by decide +kernel))) (by decide +kernel)
theorem kw66 : Cond.fieldLink RX9 117 "LeftAndRight$Shelf" "day" "I" ∈ Tg := mem_Tg (List.mem_append_right _ (List.mem_of_getElem? (i := 66) (by decide +kernel))) (by decide +kernel)
theorem kw470 : Cond.methodLink RX9 124 yX4_weightOn ∈ Tg := mem_Tg (List.mem_append_right _ (List.mem_of_getElem? (i := 470) (by decide +kernel))) (by decide +kernel)
theorem kw456 : Cond.methodLink RX9 120 yX4_sizeOn ∈ Tg := mem_Tg (List.mem_append_right _ (List.mem_of_getElem? (i := 456) (by decide +kernel))) (by decide +kernel)
theorem kw402 : Cond.fieldLink RX9 33 "LeftAndRight" "waiting" "LLeftAndRight$Waiting;" ∈ Tg := mem_Tg (List.mem_append_right _ (List.mem_of_getElem? (i := 402) (by decide +kernel))) (by decide +kernel)
theorem kw85 : Cond.fieldLink RX9 130 "LeftAndRight$Waiting" "number" "I" ∈ Tg := mem_Tg (List.mem_append_right _ (List.mem_of_getElem? (i := 85) (by decide +kernel))) (by decide +kernel)
theorem kw479 : Cond.methodLink RX9 136 yX6_foot ∈ Tg := mem_Tg (List.mem_append_right _ (List.mem_of_getElem? (i := 479) (by decide +kernel))) (by decide +kernel)
theorem kw554 : Cond.methodLink RX9 168 yX4_matesOf ∈ Tg := mem_Tg (List.mem_append_right _ (List.mem_of_getElem? (i := 554) (by decide +kernel))) (by decide +kernel)
theorem kw61 : Cond.fieldLink RX9 110 "LeftAndRight$Shelf" "clogs" "I" ∈ Tg := mem_Tg (List.mem_append_right _ (List.mem_of_getElem? (i := 61) (by decide +kernel))) (by decide +kernel)
theorem kw407 : Cond.fieldLink RX9 66 "LeftAndRight" "pairing" "LLeftAndRight$Pairing;" ∈ Tg := mem_Tg (List.mem_append_right _ (List.mem_of_getElem? (i := 407) (by decide +kernel))) (by decide +kernel)
theorem kw563 : Cond.methodLink RX9 172 yX1_look ∈ Tg := mem_Tg (List.mem_append_right _ (List.mem_of_getElem? (i := 563) (by decide +kernel))) (by decide +kernel)
theorem kw564 : Cond.instanceMethod yX1_look ∈ Tg := mem_Tg (List.mem_append_right _ (List.mem_of_getElem? (i := 564) (by decide +kernel))) (by decide +kernel)
theorem kw565 : Cond.selects RX1 yX1_look yX1_look ∈ Tg := mem_Tg (List.mem_append_right _ (List.mem_of_getElem? (i := 565) (by decide +kernel))) (by decide +kernel)
theorem kw576 : Cond.methodLink RX9 175 yX1_match ∈ Tg := mem_Tg (List.mem_append_right _ (List.mem_of_getElem? (i := 576) (by decide +kernel))) (by decide +kernel)
theorem kw577 : Cond.instanceMethod yX1_match ∈ Tg := mem_Tg (List.mem_append_right _ (List.mem_of_getElem? (i := 577) (by decide +kernel))) (by decide +kernel)
theorem kw578 : Cond.selects RX1 yX1_match yX1_match ∈ Tg := mem_Tg (List.mem_append_right _ (List.mem_of_getElem? (i := 578) (by decide +kernel))) (by decide +kernel)
theorem kw608 : Cond.methodLink RX9 182 yX1_partnerOf ∈ Tg := mem_Tg (List.mem_append_right _ (List.mem_of_getElem? (i := 608) (by decide +kernel))) (by decide +kernel)
theorem kw609 : Cond.instanceMethod yX1_partnerOf ∈ Tg := mem_Tg (List.mem_append_right _ (List.mem_of_getElem? (i := 609) (by decide +kernel))) (by decide +kernel)
theorem kw610 : Cond.selects RX1 yX1_partnerOf yX1_partnerOf ∈ Tg := mem_Tg (List.mem_append_right _ (List.mem_of_getElem? (i := 610) (by decide +kernel))) (by decide +kernel)
theorem kw198 : Cond.fieldLink RX9 179 "LeftAndRight$Pairing" "apart" "I" ∈ Tg := mem_Tg (List.mem_append_right _ (List.mem_of_getElem? (i := 198) (by decide +kernel))) (by decide +kernel)
theorem kw196 : Cond.fieldLink RX9 178 "LeftAndRight$Pairing" "number" "I" ∈ Tg := mem_Tg (List.mem_append_right _ (List.mem_of_getElem? (i := 196) (by decide +kernel))) (by decide +kernel)
theorem kw616 : Cond.methodLink RX9 185 yX4_ofSide ∈ Tg := mem_Tg (List.mem_append_right _ (List.mem_of_getElem? (i := 616) (by decide +kernel))) (by decide +kernel)
theorem kw617 : Cond.methodLink RX9 188 yJ6_bitCount_0f7a4 ∈ Tg := mem_Tg (List.mem_append_right _ (List.mem_of_getElem? (i := 617) (by decide +kernel))) (by decide +kernel)
theorem kw627 : Cond.methodLink RX9 193 yX1_serve ∈ Tg := mem_Tg (List.mem_append_right _ (List.mem_of_getElem? (i := 627) (by decide +kernel))) (by decide +kernel)
theorem kw628 : Cond.instanceMethod yX1_serve ∈ Tg := mem_Tg (List.mem_append_right _ (List.mem_of_getElem? (i := 628) (by decide +kernel))) (by decide +kernel)
theorem kw629 : Cond.selects RX1 yX1_serve yX1_serve ∈ Tg := mem_Tg (List.mem_append_right _ (List.mem_of_getElem? (i := 629) (by decide +kernel))) (by decide +kernel)
theorem kw650 : Cond.methodLink RX9 197 yX6_suits ∈ Tg := mem_Tg (List.mem_append_right _ (List.mem_of_getElem? (i := 650) (by decide +kernel))) (by decide +kernel)
theorem kw655 : Cond.methodLink RX9 200 yX4_isOfSide ∈ Tg := mem_Tg (List.mem_append_right _ (List.mem_of_getElem? (i := 655) (by decide +kernel))) (by decide +kernel)
theorem kw511 : Cond.methodLink RX9 151 yX4_areAlikeOn ∈ Tg := mem_Tg (List.mem_append_right _ (List.mem_of_getElem? (i := 511) (by decide +kernel))) (by decide +kernel)
theorem kw403 : Cond.fieldLink RX9 40 "LeftAndRight" "log" "LLeftAndRight$Log;" ∈ Tg := mem_Tg (List.mem_append_right _ (List.mem_of_getElem? (i := 403) (by decide +kernel))) (by decide +kernel)
theorem kw664 : Cond.methodLink RX9 204 yX0_saw ∈ Tg := mem_Tg (List.mem_append_right _ (List.mem_of_getElem? (i := 664) (by decide +kernel))) (by decide +kernel)
theorem kw665 : Cond.instanceMethod yX0_saw ∈ Tg := mem_Tg (List.mem_append_right _ (List.mem_of_getElem? (i := 665) (by decide +kernel))) (by decide +kernel)
theorem kw666 : Cond.selects RX0 yX0_saw yX0_saw ∈ Tg := mem_Tg (List.mem_append_right _ (List.mem_of_getElem? (i := 666) (by decide +kernel))) (by decide +kernel)
theorem kw676 : Cond.methodLink RX9 207 yX4_unholedFrom ∈ Tg := mem_Tg (List.mem_append_right _ (List.mem_of_getElem? (i := 676) (by decide +kernel))) (by decide +kernel)
theorem kw677 : Cond.instanceMethod yX4_unholedFrom ∈ Tg := mem_Tg (List.mem_append_right _ (List.mem_of_getElem? (i := 677) (by decide +kernel))) (by decide +kernel)
theorem kw678 : Cond.selects RX4 yX4_unholedFrom yX4_unholedFrom ∈ Tg := mem_Tg (List.mem_append_right _ (List.mem_of_getElem? (i := 678) (by decide +kernel))) (by decide +kernel)
theorem kw404 : Cond.fieldLink RX9 47 "LeftAndRight" "walls" "LLeftAndRight$Walls;" ∈ Tg := mem_Tg (List.mem_append_right _ (List.mem_of_getElem? (i := 404) (by decide +kernel))) (by decide +kernel)
theorem kw153 : Cond.fieldLink RX9 210 "LeftAndRight$Walls" "sounds" "I" ∈ Tg := mem_Tg (List.mem_append_right _ (List.mem_of_getElem? (i := 153) (by decide +kernel))) (by decide +kernel)
theorem kw684 : Cond.methodLink RX9 213 yX7_add ∈ Tg := mem_Tg (List.mem_append_right _ (List.mem_of_getElem? (i := 684) (by decide +kernel))) (by decide +kernel)
theorem kw685 : Cond.instanceMethod yX7_add ∈ Tg := mem_Tg (List.mem_append_right _ (List.mem_of_getElem? (i := 685) (by decide +kernel))) (by decide +kernel)
theorem kw686 : Cond.selects RX7 yX7_add yX7_add ∈ Tg := mem_Tg (List.mem_append_right _ (List.mem_of_getElem? (i := 686) (by decide +kernel))) (by decide +kernel)
theorem kw697 : Cond.methodLink RX9 216 yX7_thicknesses ∈ Tg := mem_Tg (List.mem_append_right _ (List.mem_of_getElem? (i := 697) (by decide +kernel))) (by decide +kernel)
theorem kw698 : Cond.instanceMethod yX7_thicknesses ∈ Tg := mem_Tg (List.mem_append_right _ (List.mem_of_getElem? (i := 698) (by decide +kernel))) (by decide +kernel)
theorem kw699 : Cond.selects RX7 yX7_thicknesses yX7_thicknesses ∈ Tg := mem_Tg (List.mem_append_right _ (List.mem_of_getElem? (i := 699) (by decide +kernel))) (by decide +kernel)
theorem kw710 : Cond.methodLink RX9 219 yX9_commonDivisorWithTen ∈ Tg := mem_Tg (List.mem_append_right _ (List.mem_of_getElem? (i := 710) (by decide +kernel))) (by decide +kernel)
theorem kw711 : Cond.static yX9_commonDivisorWithTen ∈ Tg := mem_Tg (List.mem_append_right _ (List.mem_of_getElem? (i := 711) (by decide +kernel))) (by decide +kernel)
theorem kw713 : Cond.methodLink RX9 222 Lib.Math.max.name ∈ Tg := mem_Tg (List.mem_append_right _ (List.mem_of_getElem? (i := 713) (by decide +kernel))) (by decide +kernel)
theorem kw714 : Cond.methodLink RX9 227 yX9_power ∈ Tg := mem_Tg (List.mem_append_right _ (List.mem_of_getElem? (i := 714) (by decide +kernel))) (by decide +kernel)
theorem kw715 : Cond.static yX9_power ∈ Tg := mem_Tg (List.mem_append_right _ (List.mem_of_getElem? (i := 715) (by decide +kernel))) (by decide +kernel)
theorem kw722 : Cond.methodLink RX9 232 yX9_cutsInTheMean ∈ Tg := mem_Tg (List.mem_append_right _ (List.mem_of_getElem? (i := 722) (by decide +kernel))) (by decide +kernel)
theorem kw723 : Cond.static yX9_cutsInTheMean ∈ Tg := mem_Tg (List.mem_append_right _ (List.mem_of_getElem? (i := 723) (by decide +kernel))) (by decide +kernel)
theorem kw726 : Cond.methodLink RX9 236 Lib.MathLoose.max_long.x ∈ Tg := mem_Tg (List.mem_append_right _ (List.mem_of_getElem? (i := 726) (by decide +kernel))) (by decide +kernel)
theorem kw727 : Cond.static Lib.MathLoose.max_long.x ∈ Tg := mem_Tg (List.mem_append_right _ (List.mem_of_getElem? (i := 727) (by decide +kernel))) (by decide +kernel)
theorem kw728 : Cond.code Lib.MathLoose.max_long.x Lib.MathLoose.max_long.code 4 (some .long) ∈ Tg := mem_Tg (List.mem_append_right _ (List.mem_of_getElem? (i := 728) (by decide +kernel))) (by decide +kernel)
theorem kw408 : Cond.fieldLink RX9 73 "LeftAndRight" "draws" "LLeftAndRight$Year;" ∈ Tg := mem_Tg (List.mem_append_right _ (List.mem_of_getElem? (i := 408) (by decide +kernel))) (by decide +kernel)
theorem kw734 : Cond.methodLink RX9 241 yX8_live ∈ Tg := mem_Tg (List.mem_append_right _ (List.mem_of_getElem? (i := 734) (by decide +kernel))) (by decide +kernel)
theorem kw735 : Cond.instanceMethod yX8_live ∈ Tg := mem_Tg (List.mem_append_right _ (List.mem_of_getElem? (i := 735) (by decide +kernel))) (by decide +kernel)
theorem kw736 : Cond.selects RX8 yX8_live yX8_live ∈ Tg := mem_Tg (List.mem_append_right _ (List.mem_of_getElem? (i := 736) (by decide +kernel))) (by decide +kernel)
theorem kw225 : Cond.fieldLink RX9 248 "LeftAndRight$Year" "shelf" "LLeftAndRight$Shelf;" ∈ Tg := mem_Tg (List.mem_append_right _ (List.mem_of_getElem? (i := 225) (by decide +kernel))) (by decide +kernel)
theorem kw227 : Cond.fieldLink RX9 245 "LeftAndRight$Year" "wentAsPairs" "I" ∈ Tg := mem_Tg (List.mem_append_right _ (List.mem_of_getElem? (i := 227) (by decide +kernel))) (by decide +kernel)
theorem kw766 : Cond.methodLink RX9 253 yX0_knotsInside ∈ Tg := mem_Tg (List.mem_append_right _ (List.mem_of_getElem? (i := 766) (by decide +kernel))) (by decide +kernel)
theorem kw767 : Cond.instanceMethod yX0_knotsInside ∈ Tg := mem_Tg (List.mem_append_right _ (List.mem_of_getElem? (i := 767) (by decide +kernel))) (by decide +kernel)
theorem kw768 : Cond.selects RX0 yX0_knotsInside yX0_knotsInside ∈ Tg := mem_Tg (List.mem_append_right _ (List.mem_of_getElem? (i := 768) (by decide +kernel))) (by decide +kernel)
theorem kw776 : Cond.methodLink RX9 256 yX4_holedOnes ∈ Tg := mem_Tg (List.mem_append_right _ (List.mem_of_getElem? (i := 776) (by decide +kernel))) (by decide +kernel)
theorem kw777 : Cond.instanceMethod yX4_holedOnes ∈ Tg := mem_Tg (List.mem_append_right _ (List.mem_of_getElem? (i := 777) (by decide +kernel))) (by decide +kernel)
theorem kw778 : Cond.selects RX4 yX4_holedOnes yX4_holedOnes ∈ Tg := mem_Tg (List.mem_append_right _ (List.mem_of_getElem? (i := 778) (by decide +kernel))) (by decide +kernel)
theorem kw405 : Cond.fieldLink RX9 56 "LeftAndRight" "acts" "LLeftAndRight$Pile;" ∈ Tg := mem_Tg (List.mem_append_right _ (List.mem_of_getElem? (i := 405) (by decide +kernel))) (by decide +kernel)
theorem kw177 : Cond.fieldLink RX9 165 "LeftAndRight$Pile" "height" "I" ∈ Tg := mem_Tg (List.mem_append_right _ (List.mem_of_getElem? (i := 177) (by decide +kernel))) (by decide +kernel)
theorem kw406 : Cond.fieldLink RX9 60 "LeftAndRight" "kept" "LLeftAndRight$Pile;" ∈ Tg := mem_Tg (List.mem_append_right _ (List.mem_of_getElem? (i := 406) (by decide +kernel))) (by decide +kernel)
theorem kw89 : Cond.fieldLink RX9 259 "LeftAndRight$Waiting" "stocking" "I" ∈ Tg := mem_Tg (List.mem_append_right _ (List.mem_of_getElem? (i := 89) (by decide +kernel))) (by decide +kernel)
theorem dX9_write_0 : decode cX9_write 0 = .ok (.iload_n 1, 1) := by decide +kernel
theorem dX9_write_1 : decode cX9_write 1 = .ok (.bipush 32, 2) := by decide +kernel
theorem dX9_write_3 : decode cX9_write 3 = .ok (.bipush 126, 2) := by decide +kernel
theorem dX9_write_5 : decode cX9_write 5 = .ok (.invokestatic 99, 3) := by decide +kernel
theorem dX9_write_8 : decode cX9_write 8 = .ok (.ifCond .ne 5, 3) := by decide +kernel
theorem dX9_write_13 : decode cX9_write 13 = .ok (.aload_n 0, 1) := by decide +kernel
theorem dX9_write_14 : decode cX9_write 14 = .ok (.getfield 10, 3) := by decide +kernel
theorem dX9_write_17 : decode cX9_write 17 = .ok (.getfield 103, 3) := by decide +kernel
theorem dX9_write_20 : decode cX9_write 20 = .ok (.sipush 200, 3) := by decide +kernel
theorem dX9_write_23 : decode cX9_write 23 = .ok (.if_icmp .lt 6, 3) := by decide +kernel
theorem dX9_write_29 : decode cX9_write 29 = .ok (.aload_n 0, 1) := by decide +kernel
theorem dX9_write_30 : decode cX9_write 30 = .ok (.getfield 10, 3) := by decide +kernel
theorem dX9_write_33 : decode cX9_write 33 = .ok (.iload_n 1, 1) := by decide +kernel
theorem kw285 : Cond.code yX5_append cX5_append 2 none ∈ Tg := mem_Tg (List.mem_append_right _ (List.mem_of_getElem? (i := 285) (by decide +kernel))) (by decide +kernel)
theorem dX9_write_34 : decode cX9_write 34 = .ok (.invokevirtual 89, 3) := by decide +kernel
theorem dX9_write_37 : decode cX9_write 37 = .ok (.aload_n 0, 1) := by decide +kernel
theorem dX9_write_38 : decode cX9_write 38 = .ok (.getfield 10, 3) := by decide +kernel
theorem dX9_write_41 : decode cX9_write 41 = .ok (.getfield 103, 3) := by decide +kernel
theorem dX9_write_44 : decode cX9_write 44 = .ok (.ireturn, 1) := by decide +kernel
theorem dX9_write_26 : decode cX9_write 26 = .ok (.bipush (-3), 2) := by decide +kernel
theorem dX9_write_28 : decode cX9_write 28 = .ok (.ireturn, 1) := by decide +kernel
theorem dX9_write_11 : decode cX9_write 11 = .ok (.iconst (-1), 1) := by decide +kernel
theorem dX9_write_12 : decode cX9_write 12 = .ok (.ireturn, 1) := by decide +kernel
theorem dX9_wipe_0 : decode cX9_wipe 0 = .ok (.aload_n 0, 1) := by decide +kernel
theorem dX9_wipe_1 : decode cX9_wipe 1 = .ok (.getfield 10, 3) := by decide +kernel
theorem dX9_wipe_4 : decode cX9_wipe 4 = .ok (.getfield 103, 3) := by decide +kernel
theorem dX9_wipe_7 : decode cX9_wipe 7 = .ok (.istore_n 1, 1) := by decide +kernel
theorem dX9_wipe_8 : decode cX9_wipe 8 = .ok (.aload_n 0, 1) := by decide +kernel
theorem dX9_wipe_9 : decode cX9_wipe 9 = .ok (.getfield 10, 3) := by decide +kernel
theorem kw398 : Cond.code yX5_clear cX5_clear 1 none ∈ Tg := mem_Tg (List.mem_append_right _ (List.mem_of_getElem? (i := 398) (by decide +kernel))) (by decide +kernel)
theorem dX9_wipe_12 : decode cX9_wipe 12 = .ok (.invokevirtual 96, 3) := by decide +kernel
theorem dX9_wipe_15 : decode cX9_wipe 15 = .ok (.iload_n 1, 1) := by decide +kernel
theorem dX9_wipe_16 : decode cX9_wipe 16 = .ok (.ireturn, 1) := by decide +kernel
theorem dX9_fault_0 : decode cX9_fault 0 = .ok (.aload_n 0, 1) := by decide +kernel
theorem dX9_fault_1 : decode cX9_fault 1 = .ok (.getfield 19, 3) := by decide +kernel
theorem dX9_fault_4 : decode cX9_fault 4 = .ok (.aload_n 0, 1) := by decide +kernel
theorem dX9_fault_5 : decode cX9_fault 5 = .ok (.getfield 10, 3) := by decide +kernel
theorem kw293 : Cond.code yX3_read cX3_read 5 (some .int) ∈ Tg := mem_Tg (List.mem_append_right _ (List.mem_of_getElem? (i := 293) (by decide +kernel))) (by decide +kernel)
theorem dX9_fault_8 : decode cX9_fault 8 = .ok (.invokevirtual 106, 3) := by decide +kernel
theorem dX9_fault_11 : decode cX9_fault 11 = .ok (.ireturn, 1) := by decide +kernel
theorem dX9_clog_0 : decode cX9_clog 0 = .ok (.aload_n 0, 1) := by decide +kernel
theorem dX9_clog_1 : decode cX9_clog 1 = .ok (.getfield 26, 3) := by decide +kernel
theorem dX9_clog_4 : decode cX9_clog 4 = .ok (.iload_n 1, 1) := by decide +kernel
theorem dX9_clog_5 : decode cX9_clog 5 = .ok (.invokevirtual 113, 3) := by decide +kernel
theorem dX9_clog_8 : decode cX9_clog 8 = .ok (.ifCond .eq 12, 3) := by decide +kernel
theorem dX9_clog_20 : decode cX9_clog 20 = .ok (.iconst (-1), 1) := by decide +kernel
theorem dX9_clog_21 : decode cX9_clog 21 = .ok (.ireturn, 1) := by decide +kernel
theorem dX9_clog_11 : decode cX9_clog 11 = .ok (.iload_n 2, 1) := by decide +kernel
theorem dX9_clog_12 : decode cX9_clog 12 = .ok (.iconst 0, 1) := by decide +kernel
theorem dX9_clog_13 : decode cX9_clog 13 = .ok (.iconst 4, 1) := by decide +kernel
theorem dX9_clog_14 : decode cX9_clog 14 = .ok (.invokestatic 99, 3) := by decide +kernel
theorem dX9_clog_17 : decode cX9_clog 17 = .ok (.ifCond .ne 5, 3) := by decide +kernel
theorem dX9_clog_22 : decode cX9_clog 22 = .ok (.iload_n 2, 1) := by decide +kernel
theorem dX9_clog_23 : decode cX9_clog 23 = .ok (.iconst 2, 1) := by decide +kernel
theorem dX9_clog_24 : decode cX9_clog 24 = .ok (.if_icmp .ne 19, 3) := by decide +kernel
theorem dX9_clog_43 : decode cX9_clog 43 = .ok (.iload_n 2, 1) := by decide +kernel
theorem dX9_clog_44 : decode cX9_clog 44 = .ok (.iconst 3, 1) := by decide +kernel
theorem dX9_clog_45 : decode cX9_clog 45 = .ok (.if_icmp .ne 19, 3) := by decide +kernel
theorem dX9_clog_64 : decode cX9_clog 64 = .ok (.aload_n 0, 1) := by decide +kernel
theorem dX9_clog_65 : decode cX9_clog 65 = .ok (.getfield 26, 3) := by decide +kernel
theorem dX9_clog_68 : decode cX9_clog 68 = .ok (.iload_n 1, 1) := by decide +kernel
theorem dX9_clog_69 : decode cX9_clog 69 = .ok (.iload_n 2, 1) := by decide +kernel
theorem dX9_clog_70 : decode cX9_clog 70 = .ok (.invokevirtual 127, 3) := by decide +kernel
theorem dX9_clog_73 : decode cX9_clog 73 = .ok (.ireturn, 1) := by decide +kernel
theorem dX9_clog_48 : decode cX9_clog 48 = .ok (.aload_n 0, 1) := by decide +kernel
theorem dX9_clog_49 : decode cX9_clog 49 = .ok (.getfield 26, 3) := by decide +kernel
theorem dX9_clog_52 : decode cX9_clog 52 = .ok (.iload_n 1, 1) := by decide +kernel
theorem dX9_clog_53 : decode cX9_clog 53 = .ok (.aload_n 0, 1) := by decide +kernel
theorem dX9_clog_54 : decode cX9_clog 54 = .ok (.getfield 26, 3) := by decide +kernel
theorem dX9_clog_57 : decode cX9_clog 57 = .ok (.getfield 117, 3) := by decide +kernel
theorem dX9_clog_60 : decode cX9_clog 60 = .ok (.invokevirtual 124, 3) := by decide +kernel
theorem dX9_clog_63 : decode cX9_clog 63 = .ok (.ireturn, 1) := by decide +kernel
theorem dX9_clog_27 : decode cX9_clog 27 = .ok (.aload_n 0, 1) := by decide +kernel
theorem dX9_clog_28 : decode cX9_clog 28 = .ok (.getfield 26, 3) := by decide +kernel
theorem dX9_clog_31 : decode cX9_clog 31 = .ok (.iload_n 1, 1) := by decide +kernel
theorem dX9_clog_32 : decode cX9_clog 32 = .ok (.aload_n 0, 1) := by decide +kernel
theorem dX9_clog_33 : decode cX9_clog 33 = .ok (.getfield 26, 3) := by decide +kernel
theorem dX9_clog_36 : decode cX9_clog 36 = .ok (.getfield 117, 3) := by decide +kernel
theorem dX9_clog_39 : decode cX9_clog 39 = .ok (.invokevirtual 120, 3) := by decide +kernel
theorem dX9_clog_42 : decode cX9_clog 42 = .ok (.ireturn, 1) := by decide +kernel
theorem dX9_feet_0 : decode cX9_feet 0 = .ok (.iload_n 1, 1) := by decide +kernel
theorem dX9_feet_1 : decode cX9_feet 1 = .ok (.iconst 0, 1) := by decide +kernel
theorem dX9_feet_2 : decode cX9_feet 2 = .ok (.aload_n 0, 1) := by decide +kernel
theorem dX9_feet_3 : decode cX9_feet 3 = .ok (.getfield 33, 3) := by decide +kernel
theorem dX9_feet_6 : decode cX9_feet 6 = .ok (.getfield 130, 3) := by decide +kernel
theorem dX9_feet_9 : decode cX9_feet 9 = .ok (.iconst 1, 1) := by decide +kernel
theorem dX9_feet_10 : decode cX9_feet 10 = .ok (.isub, 1) := by decide +kernel
theorem dX9_feet_11 : decode cX9_feet 11 = .ok (.invokestatic 99, 3) := by decide +kernel
theorem dX9_feet_14 : decode cX9_feet 14 = .ok (.ifCond .eq 10, 3) := by decide +kernel
theorem dX9_feet_24 : decode cX9_feet 24 = .ok (.iconst (-1), 1) := by decide +kernel
theorem dX9_feet_25 : decode cX9_feet 25 = .ok (.ireturn, 1) := by decide +kernel
theorem dX9_feet_17 : decode cX9_feet 17 = .ok (.iload_n 2, 1) := by decide +kernel
theorem dX9_feet_18 : decode cX9_feet 18 = .ok (.invokestatic 133, 3) := by decide +kernel
theorem dX9_feet_21 : decode cX9_feet 21 = .ok (.ifCond .ne 5, 3) := by decide +kernel
theorem dX9_feet_26 : decode cX9_feet 26 = .ok (.aload_n 0, 1) := by decide +kernel
theorem dX9_feet_27 : decode cX9_feet 27 = .ok (.getfield 33, 3) := by decide +kernel
theorem dX9_feet_30 : decode cX9_feet 30 = .ok (.iload_n 1, 1) := by decide +kernel
theorem dX9_feet_31 : decode cX9_feet 31 = .ok (.iload_n 2, 1) := by decide +kernel
theorem dX9_feet_32 : decode cX9_feet 32 = .ok (.invokevirtual 136, 3) := by decide +kernel
theorem dX9_feet_35 : decode cX9_feet 35 = .ok (.ireturn, 1) := by decide +kernel
theorem dX9_mates_0 : decode cX9_mates 0 = .ok (.aload_n 0, 1) := by decide +kernel
theorem dX9_mates_1 : decode cX9_mates 1 = .ok (.getfield 26, 3) := by decide +kernel
theorem dX9_mates_4 : decode cX9_mates 4 = .ok (.iload_n 1, 1) := by decide +kernel
theorem dX9_mates_5 : decode cX9_mates 5 = .ok (.invokevirtual 113, 3) := by decide +kernel
theorem dX9_mates_8 : decode cX9_mates 8 = .ok (.ifCond .ne 5, 3) := by decide +kernel
theorem dX9_mates_13 : decode cX9_mates 13 = .ok (.aload_n 0, 1) := by decide +kernel
theorem dX9_mates_14 : decode cX9_mates 14 = .ok (.getfield 26, 3) := by decide +kernel
theorem dX9_mates_17 : decode cX9_mates 17 = .ok (.iload_n 1, 1) := by decide +kernel
theorem dX9_mates_18 : decode cX9_mates 18 = .ok (.invokevirtual 168, 3) := by decide +kernel
theorem dX9_mates_21 : decode cX9_mates 21 = .ok (.ireturn, 1) := by decide +kernel
theorem dX9_mates_11 : decode cX9_mates 11 = .ok (.iconst (-1), 1) := by decide +kernel
theorem dX9_mates_12 : decode cX9_mates 12 = .ok (.ireturn, 1) := by decide +kernel
theorem dX9_pairs_0 : decode cX9_pairs 0 = .ok (.iload_n 1, 1) := by decide +kernel
theorem dX9_pairs_1 : decode cX9_pairs 1 = .ok (.bipush (-2), 2) := by decide +kernel
theorem dX9_pairs_3 : decode cX9_pairs 3 = .ok (.aload_n 0, 1) := by decide +kernel
theorem dX9_pairs_4 : decode cX9_pairs 4 = .ok (.getfield 26, 3) := by decide +kernel
theorem dX9_pairs_7 : decode cX9_pairs 7 = .ok (.getfield 110, 3) := by decide +kernel
theorem dX9_pairs_10 : decode cX9_pairs 10 = .ok (.iconst 1, 1) := by decide +kernel
theorem dX9_pairs_11 : decode cX9_pairs 11 = .ok (.isub, 1) := by decide +kernel
theorem dX9_pairs_12 : decode cX9_pairs 12 = .ok (.invokestatic 99, 3) := by decide +kernel
theorem dX9_pairs_15 : decode cX9_pairs 15 = .ok (.ifCond .ne 5, 3) := by decide +kernel
theorem dX9_pairs_20 : decode cX9_pairs 20 = .ok (.aload_n 0, 1) := by decide +kernel
theorem dX9_pairs_21 : decode cX9_pairs 21 = .ok (.getfield 66, 3) := by decide +kernel
theorem dX9_pairs_24 : decode cX9_pairs 24 = .ok (.aload_n 0, 1) := by decide +kernel
theorem dX9_pairs_25 : decode cX9_pairs 25 = .ok (.getfield 26, 3) := by decide +kernel
theorem kw566 : Cond.code yX1_look cX1_look 3 none ∈ Tg := mem_Tg (List.mem_append_right _ (List.mem_of_getElem? (i := 566) (by decide +kernel))) (by decide +kernel)
theorem dX9_pairs_28 : decode cX9_pairs 28 = .ok (.invokevirtual 172, 3) := by decide +kernel
theorem dX9_pairs_31 : decode cX9_pairs 31 = .ok (.aload_n 0, 1) := by decide +kernel
theorem dX9_pairs_32 : decode cX9_pairs 32 = .ok (.getfield 66, 3) := by decide +kernel
theorem kw579 : Cond.code yX1_match cX1_match 4 none ∈ Tg := mem_Tg (List.mem_append_right _ (List.mem_of_getElem? (i := 579) (by decide +kernel))) (by decide +kernel)
theorem dX9_pairs_35 : decode cX9_pairs 35 = .ok (.invokevirtual 175, 3) := by decide +kernel
theorem dX9_pairs_38 : decode cX9_pairs 38 = .ok (.iload_n 1, 1) := by decide +kernel
theorem dX9_pairs_39 : decode cX9_pairs 39 = .ok (.iconst (-1), 1) := by decide +kernel
theorem dX9_pairs_40 : decode cX9_pairs 40 = .ok (.if_icmp .ne 11, 3) := by decide +kernel
theorem dX9_pairs_51 : decode cX9_pairs 51 = .ok (.iload_n 1, 1) := by decide +kernel
theorem dX9_pairs_52 : decode cX9_pairs 52 = .ok (.bipush (-2), 2) := by decide +kernel
theorem dX9_pairs_54 : decode cX9_pairs 54 = .ok (.if_icmp .ne 11, 3) := by decide +kernel
theorem dX9_pairs_65 : decode cX9_pairs 65 = .ok (.aload_n 0, 1) := by decide +kernel
theorem dX9_pairs_66 : decode cX9_pairs 66 = .ok (.getfield 66, 3) := by decide +kernel
theorem dX9_pairs_69 : decode cX9_pairs 69 = .ok (.iload_n 1, 1) := by decide +kernel
theorem kw611 : Cond.code yX1_partnerOf cX1_partnerOf 2 (some .int) ∈ Tg := mem_Tg (List.mem_append_right _ (List.mem_of_getElem? (i := 611) (by decide +kernel))) (by decide +kernel)
theorem dX9_pairs_70 : decode cX9_pairs 70 = .ok (.invokevirtual 182, 3) := by decide +kernel
theorem dX9_pairs_73 : decode cX9_pairs 73 = .ok (.ireturn, 1) := by decide +kernel
theorem dX9_pairs_57 : decode cX9_pairs 57 = .ok (.aload_n 0, 1) := by decide +kernel
theorem dX9_pairs_58 : decode cX9_pairs 58 = .ok (.getfield 66, 3) := by decide +kernel
theorem dX9_pairs_61 : decode cX9_pairs 61 = .ok (.getfield 179, 3) := by decide +kernel
theorem dX9_pairs_64 : decode cX9_pairs 64 = .ok (.ireturn, 1) := by decide +kernel
theorem dX9_pairs_43 : decode cX9_pairs 43 = .ok (.aload_n 0, 1) := by decide +kernel
theorem dX9_pairs_44 : decode cX9_pairs 44 = .ok (.getfield 66, 3) := by decide +kernel
theorem dX9_pairs_47 : decode cX9_pairs 47 = .ok (.getfield 178, 3) := by decide +kernel
theorem dX9_pairs_50 : decode cX9_pairs 50 = .ok (.ireturn, 1) := by decide +kernel
theorem dX9_pairs_18 : decode cX9_pairs 18 = .ok (.iconst (-1), 1) := by decide +kernel
theorem dX9_pairs_19 : decode cX9_pairs 19 = .ok (.ireturn, 1) := by decide +kernel
theorem dX9_leftOver_0 : decode cX9_leftOver 0 = .ok (.iload_n 1, 1) := by decide +kernel
theorem dX9_leftOver_1 : decode cX9_leftOver 1 = .ok (.invokestatic 133, 3) := by decide +kernel
theorem dX9_leftOver_4 : decode cX9_leftOver 4 = .ok (.ifCond .ne 5, 3) := by decide +kernel
theorem dX9_leftOver_9 : decode cX9_leftOver 9 = .ok (.aload_n 0, 1) := by decide +kernel
theorem dX9_leftOver_10 : decode cX9_leftOver 10 = .ok (.getfield 66, 3) := by decide +kernel
theorem dX9_leftOver_13 : decode cX9_leftOver 13 = .ok (.aload_n 0, 1) := by decide +kernel
theorem dX9_leftOver_14 : decode cX9_leftOver 14 = .ok (.getfield 26, 3) := by decide +kernel
theorem dX9_leftOver_17 : decode cX9_leftOver 17 = .ok (.invokevirtual 172, 3) := by decide +kernel
theorem dX9_leftOver_20 : decode cX9_leftOver 20 = .ok (.aload_n 0, 1) := by decide +kernel
theorem dX9_leftOver_21 : decode cX9_leftOver 21 = .ok (.getfield 66, 3) := by decide +kernel
theorem dX9_leftOver_24 : decode cX9_leftOver 24 = .ok (.invokevirtual 175, 3) := by decide +kernel
theorem dX9_leftOver_27 : decode cX9_leftOver 27 = .ok (.aload_n 0, 1) := by decide +kernel
theorem dX9_leftOver_28 : decode cX9_leftOver 28 = .ok (.getfield 26, 3) := by decide +kernel
theorem dX9_leftOver_31 : decode cX9_leftOver 31 = .ok (.iload_n 1, 1) := by decide +kernel
theorem dX9_leftOver_32 : decode cX9_leftOver 32 = .ok (.invokevirtual 185, 3) := by decide +kernel
theorem dX9_leftOver_35 : decode cX9_leftOver 35 = .ok (.invokestatic 188, 3) := by decide +kernel
theorem dX9_leftOver_38 : decode cX9_leftOver 38 = .ok (.aload_n 0, 1) := by decide +kernel
theorem dX9_leftOver_39 : decode cX9_leftOver 39 = .ok (.getfield 66, 3) := by decide +kernel
theorem dX9_leftOver_42 : decode cX9_leftOver 42 = .ok (.getfield 178, 3) := by decide +kernel
theorem dX9_leftOver_45 : decode cX9_leftOver 45 = .ok (.isub, 1) := by decide +kernel
theorem dX9_leftOver_46 : decode cX9_leftOver 46 = .ok (.ireturn, 1) := by decide +kernel
theorem dX9_leftOver_7 : decode cX9_leftOver 7 = .ok (.iconst (-1), 1) := by decide +kernel
theorem dX9_leftOver_8 : decode cX9_leftOver 8 = .ok (.ireturn, 1) := by decide +kernel
theorem dX9_served_0 : decode cX9_served 0 = .ok (.aload_n 0, 1) := by decide +kernel
theorem dX9_served_1 : decode cX9_served 1 = .ok (.getfield 66, 3) := by decide +kernel
theorem dX9_served_4 : decode cX9_served 4 = .ok (.aload_n 0, 1) := by decide +kernel
theorem dX9_served_5 : decode cX9_served 5 = .ok (.getfield 26, 3) := by decide +kernel
theorem dX9_served_8 : decode cX9_served 8 = .ok (.invokevirtual 172, 3) := by decide +kernel
theorem dX9_served_11 : decode cX9_served 11 = .ok (.aload_n 0, 1) := by decide +kernel
theorem dX9_served_12 : decode cX9_served 12 = .ok (.getfield 66, 3) := by decide +kernel
theorem dX9_served_15 : decode cX9_served 15 = .ok (.aload_n 0, 1) := by decide +kernel
theorem dX9_served_16 : decode cX9_served 16 = .ok (.getfield 33, 3) := by decide +kernel
theorem kw630 : Cond.code yX1_serve cX1_serve 5 (some .int) ∈ Tg := mem_Tg (List.mem_append_right _ (List.mem_of_getElem? (i := 630) (by decide +kernel))) (by decide +kernel)
theorem dX9_served_19 : decode cX9_served 19 = .ok (.invokevirtual 193, 3) := by decide +kernel
theorem dX9_served_22 : decode cX9_served 22 = .ok (.ireturn, 1) := by decide +kernel
theorem dX9_whose_0 : decode cX9_whose 0 = .ok (.aload_n 0, 1) := by decide +kernel
theorem dX9_whose_1 : decode cX9_whose 1 = .ok (.getfield 26, 3) := by decide +kernel
theorem dX9_whose_4 : decode cX9_whose 4 = .ok (.iload_n 1, 1) := by decide +kernel
theorem dX9_whose_5 : decode cX9_whose 5 = .ok (.invokevirtual 113, 3) := by decide +kernel
theorem dX9_whose_8 : decode cX9_whose 8 = .ok (.ifCond .ne 5, 3) := by decide +kernel
theorem dX9_whose_13 : decode cX9_whose 13 = .ok (.iconst 0, 1) := by decide +kernel
theorem dX9_whose_14 : decode cX9_whose 14 = .ok (.istore_n 2, 1) := by decide +kernel
theorem dX9_whose_15 : decode cX9_whose 15 = .ok (.iconst 0, 1) := by decide +kernel
theorem dX9_whose_16 : decode cX9_whose 16 = .ok (.istore_n 3, 1) := by decide +kernel
theorem dX9_whose_17 : decode cX9_whose 17 = .ok (.iload_n 3, 1) := by decide +kernel
theorem dX9_whose_18 : decode cX9_whose 18 = .ok (.aload_n 0, 1) := by decide +kernel
theorem dX9_whose_19 : decode cX9_whose 19 = .ok (.getfield 33, 3) := by decide +kernel
theorem dX9_whose_22 : decode cX9_whose 22 = .ok (.getfield 130, 3) := by decide +kernel
theorem dX9_whose_25 : decode cX9_whose 25 = .ok (.if_icmp .ge 50, 3) := by decide +kernel
theorem dX9_whose_28 : decode cX9_whose 28 = .ok (.aload_n 0, 1) := by decide +kernel
theorem dX9_whose_29 : decode cX9_whose 29 = .ok (.getfield 33, 3) := by decide +kernel
theorem dX9_whose_32 : decode cX9_whose 32 = .ok (.iload_n 3, 1) := by decide +kernel
theorem dX9_whose_33 : decode cX9_whose 33 = .ok (.aload_n 0, 1) := by decide +kernel
theorem dX9_whose_34 : decode cX9_whose 34 = .ok (.getfield 26, 3) := by decide +kernel
theorem dX9_whose_37 : decode cX9_whose 37 = .ok (.iload_n 1, 1) := by decide +kernel
theorem dX9_whose_38 : decode cX9_whose 38 = .ok (.iconst 1, 1) := by decide +kernel
theorem dX9_whose_39 : decode cX9_whose 39 = .ok (.invokevirtual 127, 3) := by decide +kernel
theorem dX9_whose_42 : decode cX9_whose 42 = .ok (.aload_n 0, 1) := by decide +kernel
theorem dX9_whose_43 : decode cX9_whose 43 = .ok (.getfield 26, 3) := by decide +kernel
theorem dX9_whose_46 : decode cX9_whose 46 = .ok (.iload_n 1, 1) := by decide +kernel
theorem dX9_whose_47 : decode cX9_whose 47 = .ok (.aload_n 0, 1) := by decide +kernel
theorem dX9_whose_48 : decode cX9_whose 48 = .ok (.getfield 26, 3) := by decide +kernel
theorem dX9_whose_51 : decode cX9_whose 51 = .ok (.getfield 117, 3) := by decide +kernel
theorem dX9_whose_54 : decode cX9_whose 54 = .ok (.invokevirtual 120, 3) := by decide +kernel
theorem dX9_whose_57 : decode cX9_whose 57 = .ok (.invokevirtual 197, 3) := by decide +kernel
theorem dX9_whose_60 : decode cX9_whose 60 = .ok (.ifCond .eq 9, 3) := by decide +kernel
theorem dX9_whose_69 : decode cX9_whose 69 = .ok (.iinc 3 1, 3) := by decide +kernel
theorem dX9_whose_72 : decode cX9_whose 72 = .ok (.goto (-55), 3) := by decide +kernel
theorem dX9_whose_63 : decode cX9_whose 63 = .ok (.iload_n 2, 1) := by decide +kernel
theorem dX9_whose_64 : decode cX9_whose 64 = .ok (.iconst 1, 1) := by decide +kernel
theorem dX9_whose_65 : decode cX9_whose 65 = .ok (.iload_n 3, 1) := by decide +kernel
theorem dX9_whose_66 : decode cX9_whose 66 = .ok (.ishl, 1) := by decide +kernel
theorem dX9_whose_67 : decode cX9_whose 67 = .ok (.ior, 1) := by decide +kernel
theorem dX9_whose_68 : decode cX9_whose 68 = .ok (.istore_n 2, 1) := by decide +kernel
theorem dX9_whose_75 : decode cX9_whose 75 = .ok (.iload_n 2, 1) := by decide +kernel
theorem dX9_whose_76 : decode cX9_whose 76 = .ok (.ireturn, 1) := by decide +kernel
theorem dX9_whose_11 : decode cX9_whose 11 = .ok (.iconst (-1), 1) := by decide +kernel
theorem dX9_whose_12 : decode cX9_whose 12 = .ok (.ireturn, 1) := by decide +kernel
theorem dX9_alikeBy_0 : decode cX9_alikeBy 0 = .ok (.aload_n 0, 1) := by decide +kernel
theorem dX9_alikeBy_1 : decode cX9_alikeBy 1 = .ok (.getfield 26, 3) := by decide +kernel
theorem dX9_alikeBy_4 : decode cX9_alikeBy 4 = .ok (.iload_n 1, 1) := by decide +kernel
theorem dX9_alikeBy_5 : decode cX9_alikeBy 5 = .ok (.iconst 0, 1) := by decide +kernel
theorem dX9_alikeBy_6 : decode cX9_alikeBy 6 = .ok (.invokevirtual 200, 3) := by decide +kernel
theorem dX9_alikeBy_9 : decode cX9_alikeBy 9 = .ok (.ifCond .eq 15, 3) := by decide +kernel
theorem dX9_alikeBy_24 : decode cX9_alikeBy 24 = .ok (.iconst (-1), 1) := by decide +kernel
theorem dX9_alikeBy_25 : decode cX9_alikeBy 25 = .ok (.ireturn, 1) := by decide +kernel
theorem dX9_alikeBy_12 : decode cX9_alikeBy 12 = .ok (.aload_n 0, 1) := by decide +kernel
theorem dX9_alikeBy_13 : decode cX9_alikeBy 13 = .ok (.getfield 26, 3) := by decide +kernel
theorem dX9_alikeBy_16 : decode cX9_alikeBy 16 = .ok (.iload_n 2, 1) := by decide +kernel
theorem dX9_alikeBy_17 : decode cX9_alikeBy 17 = .ok (.iconst 1, 1) := by decide +kernel
theorem dX9_alikeBy_18 : decode cX9_alikeBy 18 = .ok (.invokevirtual 200, 3) := by decide +kernel
theorem dX9_alikeBy_21 : decode cX9_alikeBy 21 = .ok (.ifCond .ne 5, 3) := by decide +kernel
theorem dX9_alikeBy_26 : decode cX9_alikeBy 26 = .ok (.iconst 0, 1) := by decide +kernel
theorem dX9_alikeBy_27 : decode cX9_alikeBy 27 = .ok (.istore_n 3, 1) := by decide +kernel
theorem dX9_alikeBy_28 : decode cX9_alikeBy 28 = .ok (.iload_n 3, 1) := by decide +kernel
theorem dX9_alikeBy_29 : decode cX9_alikeBy 29 = .ok (.bipush 60, 2) := by decide +kernel
theorem dX9_alikeBy_31 : decode cX9_alikeBy 31 = .ok (.if_icmp .gt 32, 3) := by decide +kernel
theorem dX9_alikeBy_34 : decode cX9_alikeBy 34 = .ok (.aload_n 0, 1) := by decide +kernel
theorem dX9_alikeBy_35 : decode cX9_alikeBy 35 = .ok (.getfield 26, 3) := by decide +kernel
theorem dX9_alikeBy_38 : decode cX9_alikeBy 38 = .ok (.iload_n 1, 1) := by decide +kernel
theorem dX9_alikeBy_39 : decode cX9_alikeBy 39 = .ok (.iload_n 2, 1) := by decide +kernel
theorem dX9_alikeBy_40 : decode cX9_alikeBy 40 = .ok (.aload_n 0, 1) := by decide +kernel
theorem dX9_alikeBy_41 : decode cX9_alikeBy 41 = .ok (.getfield 26, 3) := by decide +kernel
theorem dX9_alikeBy_44 : decode cX9_alikeBy 44 = .ok (.getfield 117, 3) := by decide +kernel
theorem dX9_alikeBy_47 : decode cX9_alikeBy 47 = .ok (.iload_n 3, 1) := by decide +kernel
theorem dX9_alikeBy_48 : decode cX9_alikeBy 48 = .ok (.iadd, 1) := by decide +kernel
theorem dX9_alikeBy_49 : decode cX9_alikeBy 49 = .ok (.invokevirtual 151, 3) := by decide +kernel
theorem dX9_alikeBy_52 : decode cX9_alikeBy 52 = .ok (.ifCond .eq 5, 3) := by decide +kernel
theorem dX9_alikeBy_57 : decode cX9_alikeBy 57 = .ok (.iinc 3 1, 3) := by decide +kernel
theorem dX9_alikeBy_60 : decode cX9_alikeBy 60 = .ok (.goto (-32), 3) := by decide +kernel
theorem dX9_alikeBy_55 : decode cX9_alikeBy 55 = .ok (.iload_n 3, 1) := by decide +kernel
theorem dX9_alikeBy_56 : decode cX9_alikeBy 56 = .ok (.ireturn, 1) := by decide +kernel
theorem dX9_alikeBy_63 : decode cX9_alikeBy 63 = .ok (.bipush (-4), 2) := by decide +kernel
theorem dX9_alikeBy_65 : decode cX9_alikeBy 65 = .ok (.ireturn, 1) := by decide +kernel
theorem dX9_dry_0 : decode cX9_dry 0 = .ok (.aload_n 0, 1) := by decide +kernel
theorem dX9_dry_1 : decode cX9_dry 1 = .ok (.getfield 26, 3) := by decide +kernel
theorem dX9_dry_4 : decode cX9_dry 4 = .ok (.iload_n 1, 1) := by decide +kernel
theorem dX9_dry_5 : decode cX9_dry 5 = .ok (.invokevirtual 113, 3) := by decide +kernel
theorem dX9_dry_8 : decode cX9_dry 8 = .ok (.ifCond .eq 12, 3) := by decide +kernel
theorem dX9_dry_20 : decode cX9_dry 20 = .ok (.iconst (-1), 1) := by decide +kernel
theorem dX9_dry_21 : decode cX9_dry 21 = .ok (.ireturn, 1) := by decide +kernel
theorem dX9_dry_11 : decode cX9_dry 11 = .ok (.iload_n 2, 1) := by decide +kernel
theorem dX9_dry_12 : decode cX9_dry 12 = .ok (.iconst 0, 1) := by decide +kernel
theorem dX9_dry_13 : decode cX9_dry 13 = .ok (.iconst 1, 1) := by decide +kernel
theorem dX9_dry_14 : decode cX9_dry 14 = .ok (.invokestatic 99, 3) := by decide +kernel
theorem dX9_dry_17 : decode cX9_dry 17 = .ok (.ifCond .ne 5, 3) := by decide +kernel
theorem dX9_dry_22 : decode cX9_dry 22 = .ok (.aload_n 0, 1) := by decide +kernel
theorem dX9_dry_23 : decode cX9_dry 23 = .ok (.getfield 26, 3) := by decide +kernel
theorem dX9_dry_26 : decode cX9_dry 26 = .ok (.iload_n 1, 1) := by decide +kernel
theorem dX9_dry_27 : decode cX9_dry 27 = .ok (.aload_n 0, 1) := by decide +kernel
theorem dX9_dry_28 : decode cX9_dry 28 = .ok (.getfield 26, 3) := by decide +kernel
theorem dX9_dry_31 : decode cX9_dry 31 = .ok (.getfield 117, 3) := by decide +kernel
theorem dX9_dry_34 : decode cX9_dry 34 = .ok (.bipush 30, 2) := by decide +kernel
theorem dX9_dry_36 : decode cX9_dry 36 = .ok (.iadd, 1) := by decide +kernel
theorem dX9_dry_37 : decode cX9_dry 37 = .ok (.invokevirtual 120, 3) := by decide +kernel
theorem dX9_dry_40 : decode cX9_dry 40 = .ok (.istore_n 3, 1) := by decide +kernel
theorem dX9_dry_41 : decode cX9_dry 41 = .ok (.iload_n 2, 1) := by decide +kernel
theorem dX9_dry_42 : decode cX9_dry 42 = .ok (.iconst 1, 1) := by decide +kernel
theorem dX9_dry_43 : decode cX9_dry 43 = .ok (.if_icmp .ne 5, 3) := by decide +kernel
theorem dX9_dry_48 : decode cX9_dry 48 = .ok (.iconst 0, 1) := by decide +kernel
theorem dX9_dry_49 : decode cX9_dry 49 = .ok (.istore 4, 2) := by decide +kernel
theorem dX9_dry_51 : decode cX9_dry 51 = .ok (.iload 4, 2) := by decide +kernel
theorem dX9_dry_53 : decode cX9_dry 53 = .ok (.bipush 30, 2) := by decide +kernel
theorem dX9_dry_55 : decode cX9_dry 55 = .ok (.if_icmp .ge 31, 3) := by decide +kernel
theorem dX9_dry_58 : decode cX9_dry 58 = .ok (.aload_n 0, 1) := by decide +kernel
theorem dX9_dry_59 : decode cX9_dry 59 = .ok (.getfield 26, 3) := by decide +kernel
theorem dX9_dry_62 : decode cX9_dry 62 = .ok (.iload_n 1, 1) := by decide +kernel
theorem dX9_dry_63 : decode cX9_dry 63 = .ok (.aload_n 0, 1) := by decide +kernel
theorem dX9_dry_64 : decode cX9_dry 64 = .ok (.getfield 26, 3) := by decide +kernel
theorem dX9_dry_67 : decode cX9_dry 67 = .ok (.getfield 117, 3) := by decide +kernel
theorem dX9_dry_70 : decode cX9_dry 70 = .ok (.iload 4, 2) := by decide +kernel
theorem dX9_dry_72 : decode cX9_dry 72 = .ok (.iadd, 1) := by decide +kernel
theorem dX9_dry_73 : decode cX9_dry 73 = .ok (.invokevirtual 120, 3) := by decide +kernel
theorem dX9_dry_76 : decode cX9_dry 76 = .ok (.iload_n 3, 1) := by decide +kernel
theorem dX9_dry_77 : decode cX9_dry 77 = .ok (.if_icmp .eq 9, 3) := by decide +kernel
theorem dX9_dry_80 : decode cX9_dry 80 = .ok (.iinc 4 1, 3) := by decide +kernel
theorem dX9_dry_83 : decode cX9_dry 83 = .ok (.goto (-32), 3) := by decide +kernel
theorem dX9_dry_86 : decode cX9_dry 86 = .ok (.iload 4, 2) := by decide +kernel
theorem dX9_dry_88 : decode cX9_dry 88 = .ok (.ireturn, 1) := by decide +kernel
theorem dX9_dry_46 : decode cX9_dry 46 = .ok (.iload_n 3, 1) := by decide +kernel
theorem dX9_dry_47 : decode cX9_dry 47 = .ok (.ireturn, 1) := by decide +kernel
theorem dX9_sawn_0 : decode cX9_sawn 0 = .ok (.iload_n 1, 1) := by decide +kernel
theorem dX9_sawn_1 : decode cX9_sawn 1 = .ok (.iconst (-1), 1) := by decide +kernel
theorem dX9_sawn_2 : decode cX9_sawn 2 = .ok (.if_icmp .ge 5, 3) := by decide +kernel
theorem dX9_sawn_7 : decode cX9_sawn 7 = .ok (.aload_n 0, 1) := by decide +kernel
theorem dX9_sawn_8 : decode cX9_sawn 8 = .ok (.getfield 40, 3) := by decide +kernel
theorem dX9_sawn_11 : decode cX9_sawn 11 = .ok (.iload_n 1, 1) := by decide +kernel
theorem kw667 : Cond.code yX0_saw cX0_saw 5 (some .int) ∈ Tg := mem_Tg (List.mem_append_right _ (List.mem_of_getElem? (i := 667) (by decide +kernel))) (by decide +kernel)
theorem dX9_sawn_12 : decode cX9_sawn 12 = .ok (.invokevirtual 204, 3) := by decide +kernel
theorem dX9_sawn_15 : decode cX9_sawn 15 = .ok (.ireturn, 1) := by decide +kernel
theorem dX9_sawn_5 : decode cX9_sawn 5 = .ok (.iconst (-1), 1) := by decide +kernel
theorem dX9_sawn_6 : decode cX9_sawn 6 = .ok (.ireturn, 1) := by decide +kernel
theorem dX9_sizes_0 : decode cX9_sizes 0 = .ok (.iload_n 1, 1) := by decide +kernel
theorem dX9_sizes_1 : decode cX9_sizes 1 = .ok (.iconst 1, 1) := by decide +kernel
theorem dX9_sizes_2 : decode cX9_sizes 2 = .ok (.iconst 5, 1) := by decide +kernel
theorem dX9_sizes_3 : decode cX9_sizes 3 = .ok (.invokestatic 99, 3) := by decide +kernel
theorem dX9_sizes_6 : decode cX9_sizes 6 = .ok (.ifCond .eq 12, 3) := by decide +kernel
theorem dX9_sizes_18 : decode cX9_sizes 18 = .ok (.iconst (-1), 1) := by decide +kernel
theorem dX9_sizes_19 : decode cX9_sizes 19 = .ok (.ireturn, 1) := by decide +kernel
theorem dX9_sizes_9 : decode cX9_sizes 9 = .ok (.iload_n 2, 1) := by decide +kernel
theorem dX9_sizes_10 : decode cX9_sizes 10 = .ok (.iconst 0, 1) := by decide +kernel
theorem dX9_sizes_11 : decode cX9_sizes 11 = .ok (.iconst 1, 1) := by decide +kernel
theorem dX9_sizes_12 : decode cX9_sizes 12 = .ok (.invokestatic 99, 3) := by decide +kernel
theorem dX9_sizes_15 : decode cX9_sizes 15 = .ok (.ifCond .ne 5, 3) := by decide +kernel
theorem dX9_sizes_20 : decode cX9_sizes 20 = .ok (.iconst (-1), 1) := by decide +kernel
theorem dX9_sizes_21 : decode cX9_sizes 21 = .ok (.istore_n 3, 1) := by decide +kernel
theorem dX9_sizes_22 : decode cX9_sizes 22 = .ok (.iconst 0, 1) := by decide +kernel
theorem dX9_sizes_23 : decode cX9_sizes 23 = .ok (.istore 4, 2) := by decide +kernel
theorem dX9_sizes_25 : decode cX9_sizes 25 = .ok (.iconst 1, 1) := by decide +kernel
theorem dX9_sizes_26 : decode cX9_sizes 26 = .ok (.istore 5, 2) := by decide +kernel
theorem dX9_sizes_28 : decode cX9_sizes 28 = .ok (.iload 5, 2) := by decide +kernel
theorem dX9_sizes_30 : decode cX9_sizes 30 = .ok (.bipush 72, 2) := by decide +kernel
theorem dX9_sizes_32 : decode cX9_sizes 32 = .ok (.if_icmp .gt 34, 3) := by decide +kernel
theorem dX9_sizes_35 : decode cX9_sizes 35 = .ok (.aload_n 0, 1) := by decide +kernel
theorem dX9_sizes_36 : decode cX9_sizes 36 = .ok (.getfield 26, 3) := by decide +kernel
theorem dX9_sizes_39 : decode cX9_sizes 39 = .ok (.iload 5, 2) := by decide +kernel
theorem dX9_sizes_41 : decode cX9_sizes 41 = .ok (.iload_n 1, 1) := by decide +kernel
theorem kw679 : Cond.code yX4_unholedFrom cX4_unholedFrom 5 (some .int) ∈ Tg := mem_Tg (List.mem_append_right _ (List.mem_of_getElem? (i := 679) (by decide +kernel))) (by decide +kernel)
theorem dX9_sizes_42 : decode cX9_sizes 42 = .ok (.invokevirtual 207, 3) := by decide +kernel
theorem dX9_sizes_45 : decode cX9_sizes 45 = .ok (.istore 6, 2) := by decide +kernel
theorem dX9_sizes_47 : decode cX9_sizes 47 = .ok (.iload 6, 2) := by decide +kernel
theorem dX9_sizes_49 : decode cX9_sizes 49 = .ok (.iload_n 3, 1) := by decide +kernel
theorem dX9_sizes_50 : decode cX9_sizes 50 = .ok (.if_icmp .le 10, 3) := by decide +kernel
theorem dX9_sizes_60 : decode cX9_sizes 60 = .ok (.iinc 5 1, 3) := by decide +kernel
theorem dX9_sizes_63 : decode cX9_sizes 63 = .ok (.goto (-35), 3) := by decide +kernel
theorem dX9_sizes_53 : decode cX9_sizes 53 = .ok (.iload 6, 2) := by decide +kernel
theorem dX9_sizes_55 : decode cX9_sizes 55 = .ok (.istore_n 3, 1) := by decide +kernel
theorem dX9_sizes_56 : decode cX9_sizes 56 = .ok (.iload 5, 2) := by decide +kernel
theorem dX9_sizes_58 : decode cX9_sizes 58 = .ok (.istore 4, 2) := by decide +kernel
theorem dX9_sizes_66 : decode cX9_sizes 66 = .ok (.iload_n 2, 1) := by decide +kernel
theorem dX9_sizes_67 : decode cX9_sizes 67 = .ok (.ifCond .ne 8, 3) := by decide +kernel
theorem dX9_sizes_75 : decode cX9_sizes 75 = .ok (.iload_n 3, 1) := by decide +kernel
theorem dX9_sizes_76 : decode cX9_sizes 76 = .ok (.ireturn, 1) := by decide +kernel
theorem dX9_sizes_70 : decode cX9_sizes 70 = .ok (.iload 4, 2) := by decide +kernel
theorem dX9_sizes_72 : decode cX9_sizes 72 = .ok (.goto 4, 3) := by decide +kernel
theorem dX9_heard_0 : decode cX9_heard 0 = .ok (.iload_n 1, 1) := by decide +kernel
theorem dX9_heard_1 : decode cX9_heard 1 = .ok (.iconst 0, 1) := by decide +kernel
theorem dX9_heard_2 : decode cX9_heard 2 = .ok (.bipush 9, 2) := by decide +kernel
theorem dX9_heard_4 : decode cX9_heard 4 = .ok (.invokestatic 99, 3) := by decide +kernel
theorem dX9_heard_7 : decode cX9_heard 7 = .ok (.ifCond .eq 22, 3) := by decide +kernel
theorem dX9_heard_29 : decode cX9_heard 29 = .ok (.iconst (-1), 1) := by decide +kernel
theorem dX9_heard_30 : decode cX9_heard 30 = .ok (.ireturn, 1) := by decide +kernel
theorem dX9_heard_10 : decode cX9_heard 10 = .ok (.iload_n 2, 1) := by decide +kernel
theorem dX9_heard_11 : decode cX9_heard 11 = .ok (.iconst 1, 1) := by decide +kernel
theorem dX9_heard_12 : decode cX9_heard 12 = .ok (.bipush 9, 2) := by decide +kernel
theorem dX9_heard_14 : decode cX9_heard 14 = .ok (.invokestatic 99, 3) := by decide +kernel
theorem dX9_heard_17 : decode cX9_heard 17 = .ok (.ifCond .eq 12, 3) := by decide +kernel
theorem dX9_heard_20 : decode cX9_heard 20 = .ok (.iload_n 3, 1) := by decide +kernel
theorem dX9_heard_21 : decode cX9_heard 21 = .ok (.iconst 0, 1) := by decide +kernel
theorem dX9_heard_22 : decode cX9_heard 22 = .ok (.iconst 1, 1) := by decide +kernel
theorem dX9_heard_23 : decode cX9_heard 23 = .ok (.invokestatic 99, 3) := by decide +kernel
theorem dX9_heard_26 : decode cX9_heard 26 = .ok (.ifCond .ne 5, 3) := by decide +kernel
theorem dX9_heard_31 : decode cX9_heard 31 = .ok (.aload_n 0, 1) := by decide +kernel
theorem dX9_heard_32 : decode cX9_heard 32 = .ok (.getfield 47, 3) := by decide +kernel
theorem dX9_heard_35 : decode cX9_heard 35 = .ok (.getfield 210, 3) := by decide +kernel
theorem dX9_heard_38 : decode cX9_heard 38 = .ok (.bipush 8, 2) := by decide +kernel
theorem dX9_heard_40 : decode cX9_heard 40 = .ok (.if_icmp .lt 6, 3) := by decide +kernel
theorem dX9_heard_46 : decode cX9_heard 46 = .ok (.aload_n 0, 1) := by decide +kernel
theorem dX9_heard_47 : decode cX9_heard 47 = .ok (.getfield 47, 3) := by decide +kernel
theorem dX9_heard_50 : decode cX9_heard 50 = .ok (.iload_n 1, 1) := by decide +kernel
theorem dX9_heard_51 : decode cX9_heard 51 = .ok (.iload_n 2, 1) := by decide +kernel
theorem dX9_heard_52 : decode cX9_heard 52 = .ok (.iload_n 3, 1) := by decide +kernel
theorem kw687 : Cond.code yX7_add cX7_add 4 none ∈ Tg := mem_Tg (List.mem_append_right _ (List.mem_of_getElem? (i := 687) (by decide +kernel))) (by decide +kernel)
theorem dX9_heard_53 : decode cX9_heard 53 = .ok (.invokevirtual 213, 3) := by decide +kernel
theorem dX9_heard_56 : decode cX9_heard 56 = .ok (.aload_n 0, 1) := by decide +kernel
theorem dX9_heard_57 : decode cX9_heard 57 = .ok (.getfield 47, 3) := by decide +kernel
theorem dX9_heard_60 : decode cX9_heard 60 = .ok (.getfield 210, 3) := by decide +kernel
theorem dX9_heard_63 : decode cX9_heard 63 = .ok (.ireturn, 1) := by decide +kernel
theorem dX9_heard_43 : decode cX9_heard 43 = .ok (.bipush (-3), 2) := by decide +kernel
theorem dX9_heard_45 : decode cX9_heard 45 = .ok (.ireturn, 1) := by decide +kernel
theorem dX9_forget_0 : decode cX9_forget 0 = .ok (.aload_n 0, 1) := by decide +kernel
theorem dX9_forget_1 : decode cX9_forget 1 = .ok (.getfield 47, 3) := by decide +kernel
theorem dX9_forget_4 : decode cX9_forget 4 = .ok (.getfield 210, 3) := by decide +kernel
theorem dX9_forget_7 : decode cX9_forget 7 = .ok (.istore_n 1, 1) := by decide +kernel
theorem dX9_forget_8 : decode cX9_forget 8 = .ok (.aload_n 0, 1) := by decide +kernel
theorem dX9_forget_9 : decode cX9_forget 9 = .ok (.getfield 47, 3) := by decide +kernel
theorem dX9_forget_12 : decode cX9_forget 12 = .ok (.iconst 0, 1) := by decide +kernel
theorem dX9_forget_13 : decode cX9_forget 13 = .ok (.putfield 210, 3) := by decide +kernel
theorem dX9_forget_16 : decode cX9_forget 16 = .ok (.iload_n 1, 1) := by decide +kernel
theorem dX9_forget_17 : decode cX9_forget 17 = .ok (.ireturn, 1) := by decide +kernel
theorem dX9_thick_0 : decode cX9_thick 0 = .ok (.iload_n 1, 1) := by decide +kernel
theorem dX9_thick_1 : decode cX9_thick 1 = .ok (.iconst 0, 1) := by decide +kernel
theorem dX9_thick_2 : decode cX9_thick 2 = .ok (.bipush 9, 2) := by decide +kernel
theorem dX9_thick_4 : decode cX9_thick 4 = .ok (.invokestatic 99, 3) := by decide +kernel
theorem dX9_thick_7 : decode cX9_thick 7 = .ok (.ifCond .ne 5, 3) := by decide +kernel
theorem dX9_thick_12 : decode cX9_thick 12 = .ok (.aload_n 0, 1) := by decide +kernel
theorem dX9_thick_13 : decode cX9_thick 13 = .ok (.getfield 47, 3) := by decide +kernel
theorem dX9_thick_16 : decode cX9_thick 16 = .ok (.iload_n 1, 1) := by decide +kernel
theorem kw700 : Cond.code yX7_thicknesses cX7_thicknesses 4 (some .int) ∈ Tg := mem_Tg (List.mem_append_right _ (List.mem_of_getElem? (i := 700) (by decide +kernel))) (by decide +kernel)
theorem dX9_thick_17 : decode cX9_thick 17 = .ok (.invokevirtual 216, 3) := by decide +kernel
theorem dX9_thick_20 : decode cX9_thick 20 = .ok (.ireturn, 1) := by decide +kernel
theorem dX9_thick_10 : decode cX9_thick 10 = .ok (.iconst (-1), 1) := by decide +kernel
theorem dX9_thick_11 : decode cX9_thick 11 = .ok (.ireturn, 1) := by decide +kernel
theorem dX9_whole_0 : decode cX9_whole 0 = .ok (.iload_n 1, 1) := by decide +kernel
theorem dX9_whole_1 : decode cX9_whole 1 = .ok (.iconst 0, 1) := by decide +kernel
theorem dX9_whole_2 : decode cX9_whole 2 = .ok (.iconst 4, 1) := by decide +kernel
theorem dX9_whole_3 : decode cX9_whole 3 = .ok (.invokestatic 99, 3) := by decide +kernel
theorem dX9_whole_6 : decode cX9_whole 6 = .ok (.ifCond .eq 22, 3) := by decide +kernel
theorem dX9_whole_28 : decode cX9_whole 28 = .ok (.iconst (-1), 1) := by decide +kernel
theorem dX9_whole_29 : decode cX9_whole 29 = .ok (.ireturn, 1) := by decide +kernel
theorem dX9_whole_9 : decode cX9_whole 9 = .ok (.iload_n 2, 1) := by decide +kernel
theorem dX9_whole_10 : decode cX9_whole 10 = .ok (.iconst 0, 1) := by decide +kernel
theorem dX9_whole_11 : decode cX9_whole 11 = .ok (.bipush 10, 2) := by decide +kernel
theorem dX9_whole_13 : decode cX9_whole 13 = .ok (.invokestatic 99, 3) := by decide +kernel
theorem dX9_whole_16 : decode cX9_whole 16 = .ok (.ifCond .eq 12, 3) := by decide +kernel
theorem dX9_whole_19 : decode cX9_whole 19 = .ok (.iload_n 3, 1) := by decide +kernel
theorem dX9_whole_20 : decode cX9_whole 20 = .ok (.iconst 0, 1) := by decide +kernel
theorem dX9_whole_21 : decode cX9_whole 21 = .ok (.iconst 1, 1) := by decide +kernel
theorem dX9_whole_22 : decode cX9_whole 22 = .ok (.invokestatic 99, 3) := by decide +kernel
theorem dX9_whole_25 : decode cX9_whole 25 = .ok (.ifCond .ne 5, 3) := by decide +kernel
theorem dX9_whole_30 : decode cX9_whole 30 = .ok (.iconst 1, 1) := by decide +kernel
theorem dX9_whole_31 : decode cX9_whole 31 = .ok (.bipush 10, 2) := by decide +kernel
theorem dX9_whole_33 : decode cX9_whole 33 = .ok (.iload_n 2, 1) := by decide +kernel
theorem dX9_whole_34 : decode cX9_whole 34 = .ok (.isub, 1) := by decide +kernel
theorem kw712 : Cond.code yX9_commonDivisorWithTen cX9_commonDivisorWithTen 2 (some .int) ∈ Tg := mem_Tg (List.mem_append_right _ (List.mem_of_getElem? (i := 712) (by decide +kernel))) (by decide +kernel)
theorem dX9_whole_35 : decode cX9_whole 35 = .ok (.invokestatic 219, 3) := by decide +kernel
theorem dX9_whole_38 : decode cX9_whole 38 = .ok (.invokestatic 222, 3) := by decide +kernel
theorem dX9_whole_41 : decode cX9_whole 41 = .ok (.istore 4, 2) := by decide +kernel
theorem dX9_whole_43 : decode cX9_whole 43 = .ok (.iload_n 3, 1) := by decide +kernel
theorem dX9_whole_44 : decode cX9_whole 44 = .ok (.ifCond .ne 13, 3) := by decide +kernel
theorem dX9_whole_57 : decode cX9_whole 57 = .ok (.bipush 10, 2) := by decide +kernel
theorem dX9_whole_59 : decode cX9_whole 59 = .ok (.iload 4, 2) := by decide +kernel
theorem dX9_whole_61 : decode cX9_whole 61 = .ok (.idiv, 1) := by decide +kernel
theorem dX9_whole_62 : decode cX9_whole 62 = .ok (.istore 5, 2) := by decide +kernel
theorem dX9_whole_64 : decode cX9_whole 64 = .ok (.iload 5, 2) := by decide +kernel
theorem dX9_whole_66 : decode cX9_whole 66 = .ok (.iconst 2, 1) := by decide +kernel
theorem dX9_whole_67 : decode cX9_whole 67 = .ok (.iload_n 1, 1) := by decide +kernel
theorem dX9_whole_68 : decode cX9_whole 68 = .ok (.imul, 1) := by decide +kernel
theorem kw716 : Cond.code yX9_power cX9_power 5 (some .long) ∈ Tg := mem_Tg (List.mem_append_right _ (List.mem_of_getElem? (i := 716) (by decide +kernel))) (by decide +kernel)
theorem dX9_whole_69 : decode cX9_whole 69 = .ok (.invokestatic 227, 3) := by decide +kernel
theorem dX9_whole_72 : decode cX9_whole 72 = .ok (.l2i, 1) := by decide +kernel
theorem dX9_whole_73 : decode cX9_whole 73 = .ok (.ireturn, 1) := by decide +kernel
theorem dX9_whole_47 : decode cX9_whole 47 = .ok (.bipush 10, 2) := by decide +kernel
theorem dX9_whole_49 : decode cX9_whole 49 = .ok (.iload_n 2, 1) := by decide +kernel
theorem dX9_whole_50 : decode cX9_whole 50 = .ok (.isub, 1) := by decide +kernel
theorem dX9_whole_51 : decode cX9_whole 51 = .ok (.iload 4, 2) := by decide +kernel
theorem dX9_whole_53 : decode cX9_whole 53 = .ok (.idiv, 1) := by decide +kernel
theorem dX9_whole_54 : decode cX9_whole 54 = .ok (.goto 8, 3) := by decide +kernel
theorem dX9_together_0 : decode cX9_together 0 = .ok (.iload_n 1, 1) := by decide +kernel
theorem dX9_together_1 : decode cX9_together 1 = .ok (.iconst 0, 1) := by decide +kernel
theorem dX9_together_2 : decode cX9_together 2 = .ok (.iconst 3, 1) := by decide +kernel
theorem dX9_together_3 : decode cX9_together 3 = .ok (.invokestatic 99, 3) := by decide +kernel
theorem dX9_together_6 : decode cX9_together 6 = .ok (.ifCond .eq 13, 3) := by decide +kernel
theorem dX9_together_19 : decode cX9_together 19 = .ok (.iconst (-1), 1) := by decide +kernel
theorem dX9_together_20 : decode cX9_together 20 = .ok (.ireturn, 1) := by decide +kernel
theorem dX9_together_9 : decode cX9_together 9 = .ok (.iload_n 2, 1) := by decide +kernel
theorem dX9_together_10 : decode cX9_together 10 = .ok (.iconst 0, 1) := by decide +kernel
theorem dX9_together_11 : decode cX9_together 11 = .ok (.bipush 33, 2) := by decide +kernel
theorem dX9_together_13 : decode cX9_together 13 = .ok (.invokestatic 99, 3) := by decide +kernel
theorem dX9_together_16 : decode cX9_together 16 = .ok (.ifCond .ne 5, 3) := by decide +kernel
theorem dX9_together_21 : decode cX9_together 21 = .ok (.iload_n 1, 1) := by decide +kernel
theorem dX9_together_22 : decode cX9_together 22 = .ok (.ifCond .ne 6, 3) := by decide +kernel
theorem dX9_together_28 : decode cX9_together 28 = .ok (.iload_n 1, 1) := by decide +kernel
theorem dX9_together_29 : decode cX9_together 29 = .ok (.iload_n 2, 1) := by decide +kernel
theorem dX9_together_30 : decode cX9_together 30 = .ok (.iconst 1, 1) := by decide +kernel
theorem kw724 : Cond.code yX9_cutsInTheMean cX9_cutsInTheMean 9 (some .long) ∈ Tg := mem_Tg (List.mem_append_right _ (List.mem_of_getElem? (i := 724) (by decide +kernel))) (by decide +kernel)
theorem dX9_together_31 : decode cX9_together 31 = .ok (.invokestatic 232, 3) := by decide +kernel
theorem dX9_together_34 : decode cX9_together 34 = .ok (.iload_n 1, 1) := by decide +kernel
theorem dX9_together_35 : decode cX9_together 35 = .ok (.iload_n 2, 1) := by decide +kernel
theorem dX9_together_36 : decode cX9_together 36 = .ok (.iconst 0, 1) := by decide +kernel
theorem dX9_together_37 : decode cX9_together 37 = .ok (.invokestatic 232, 3) := by decide +kernel
theorem dX9_together_40 : decode cX9_together 40 = .ok (.lsub, 1) := by decide +kernel
theorem dX9_together_41 : decode cX9_together 41 = .ok (.lstore_n 3, 1) := by decide +kernel
theorem dX9_together_42 : decode cX9_together 42 = .ok (.lconst 1, 1) := by decide +kernel
theorem dX9_together_43 : decode cX9_together 43 = .ok (.bipush 100, 2) := by decide +kernel
theorem dX9_together_45 : decode cX9_together 45 = .ok (.iconst 2, 1) := by decide +kernel
theorem dX9_together_46 : decode cX9_together 46 = .ok (.iload_n 1, 1) := by decide +kernel
theorem dX9_together_47 : decode cX9_together 47 = .ok (.imul, 1) := by decide +kernel
theorem dX9_together_48 : decode cX9_together 48 = .ok (.iconst 1, 1) := by decide +kernel
theorem dX9_together_49 : decode cX9_together 49 = .ok (.isub, 1) := by decide +kernel
theorem dX9_together_50 : decode cX9_together 50 = .ok (.invokestatic 227, 3) := by decide +kernel
theorem dX9_together_53 : decode cX9_together 53 = .ok (.invokestatic 236, 3) := by decide +kernel
theorem dX9_together_56 : decode cX9_together 56 = .ok (.lstore 5, 2) := by decide +kernel
theorem kw729 : Cond.constantLong RX9 239 (10000) ∈ Tg := mem_Tg (List.mem_append_right _ (List.mem_of_getElem? (i := 729) (by decide +kernel))) (by decide +kernel)
theorem dX9_together_58 : decode cX9_together 58 = .ok (.ldc2_w 239, 3) := by decide +kernel
theorem dX9_together_61 : decode cX9_together 61 = .ok (.lload_n 3, 1) := by decide +kernel
theorem dX9_together_62 : decode cX9_together 62 = .ok (.lmul, 1) := by decide +kernel
theorem dX9_together_63 : decode cX9_together 63 = .ok (.lload 5, 2) := by decide +kernel
theorem dX9_together_65 : decode cX9_together 65 = .ok (.ldiv, 1) := by decide +kernel
theorem dX9_together_66 : decode cX9_together 66 = .ok (.l2i, 1) := by decide +kernel
theorem kw721 : Cond.constant RX9 231 (100000) ∈ Tg := mem_Tg (List.mem_append_right _ (List.mem_of_getElem? (i := 721) (by decide +kernel))) (by decide +kernel)
theorem dX9_together_67 : decode cX9_together 67 = .ok (.ldc 231, 2) := by decide +kernel
theorem dX9_together_69 : decode cX9_together 69 = .ok (.iadd, 1) := by decide +kernel
theorem dX9_together_70 : decode cX9_together 70 = .ok (.ireturn, 1) := by decide +kernel
theorem dX9_together_25 : decode cX9_together 25 = .ok (.ldc 231, 2) := by decide +kernel
theorem dX9_together_27 : decode cX9_together 27 = .ok (.ireturn, 1) := by decide +kernel
theorem dX9_year_0 : decode cX9_year 0 = .ok (.iload_n 1, 1) := by decide +kernel
theorem dX9_year_1 : decode cX9_year 1 = .ok (.iconst 0, 1) := by decide +kernel
theorem dX9_year_2 : decode cX9_year 2 = .ok (.sipush 9999, 3) := by decide +kernel
theorem dX9_year_5 : decode cX9_year 5 = .ok (.invokestatic 99, 3) := by decide +kernel
theorem dX9_year_8 : decode cX9_year 8 = .ok (.ifCond .eq 22, 3) := by decide +kernel
theorem dX9_year_30 : decode cX9_year 30 = .ok (.iconst (-1), 1) := by decide +kernel
theorem dX9_year_31 : decode cX9_year 31 = .ok (.ireturn, 1) := by decide +kernel
theorem dX9_year_11 : decode cX9_year 11 = .ok (.iload_n 2, 1) := by decide +kernel
theorem dX9_year_12 : decode cX9_year 12 = .ok (.iconst 1, 1) := by decide +kernel
theorem dX9_year_13 : decode cX9_year 13 = .ok (.bipush 60, 2) := by decide +kernel
theorem dX9_year_15 : decode cX9_year 15 = .ok (.invokestatic 99, 3) := by decide +kernel
theorem dX9_year_18 : decode cX9_year 18 = .ok (.ifCond .eq 12, 3) := by decide +kernel
theorem dX9_year_21 : decode cX9_year 21 = .ok (.iload_n 3, 1) := by decide +kernel
theorem dX9_year_22 : decode cX9_year 22 = .ok (.iconst 0, 1) := by decide +kernel
theorem dX9_year_23 : decode cX9_year 23 = .ok (.iconst 1, 1) := by decide +kernel
theorem dX9_year_24 : decode cX9_year 24 = .ok (.invokestatic 99, 3) := by decide +kernel
theorem dX9_year_27 : decode cX9_year 27 = .ok (.ifCond .ne 5, 3) := by decide +kernel
theorem dX9_year_32 : decode cX9_year 32 = .ok (.aload_n 0, 1) := by decide +kernel
theorem dX9_year_33 : decode cX9_year 33 = .ok (.getfield 73, 3) := by decide +kernel
theorem dX9_year_36 : decode cX9_year 36 = .ok (.aload_n 0, 1) := by decide +kernel
theorem dX9_year_37 : decode cX9_year 37 = .ok (.getfield 26, 3) := by decide +kernel
theorem dX9_year_40 : decode cX9_year 40 = .ok (.iload_n 1, 1) := by decide +kernel
theorem dX9_year_41 : decode cX9_year 41 = .ok (.iload_n 2, 1) := by decide +kernel
theorem kw737 : Cond.code yX8_live cX8_live 6 none ∈ Tg := mem_Tg (List.mem_append_right _ (List.mem_of_getElem? (i := 737) (by decide +kernel))) (by decide +kernel)
theorem dX9_year_42 : decode cX9_year 42 = .ok (.invokevirtual 241, 3) := by decide +kernel
theorem dX9_year_45 : decode cX9_year 45 = .ok (.iload_n 3, 1) := by decide +kernel
theorem dX9_year_46 : decode cX9_year 46 = .ok (.ifCond .ne 13, 3) := by decide +kernel
theorem dX9_year_59 : decode cX9_year 59 = .ok (.aload_n 0, 1) := by decide +kernel
theorem dX9_year_60 : decode cX9_year 60 = .ok (.getfield 73, 3) := by decide +kernel
theorem dX9_year_63 : decode cX9_year 63 = .ok (.getfield 248, 3) := by decide +kernel
theorem dX9_year_66 : decode cX9_year 66 = .ok (.getfield 110, 3) := by decide +kernel
theorem dX9_year_69 : decode cX9_year 69 = .ok (.ireturn, 1) := by decide +kernel
theorem dX9_year_49 : decode cX9_year 49 = .ok (.aload_n 0, 1) := by decide +kernel
theorem dX9_year_50 : decode cX9_year 50 = .ok (.getfield 73, 3) := by decide +kernel
theorem dX9_year_53 : decode cX9_year 53 = .ok (.getfield 245, 3) := by decide +kernel
theorem dX9_year_56 : decode cX9_year 56 = .ok (.goto 13, 3) := by decide +kernel
theorem dX9_count_0 : decode cX9_count 0 = .ok (.iload_n 1, 1) := by decide +kernel
theorem dX9_count_1 : decode cX9_count 1 = .ok (.tableswitch 135 0 9 #[55, 63, 71, 79, 87, 95, 103, 111, 119, 127], 55) := by decide +kernel
theorem dX9_count_56 : decode cX9_count 56 = .ok (.aload_n 0, 1) := by decide +kernel
theorem dX9_count_57 : decode cX9_count 57 = .ok (.getfield 26, 3) := by decide +kernel
theorem dX9_count_60 : decode cX9_count 60 = .ok (.getfield 110, 3) := by decide +kernel
theorem dX9_count_63 : decode cX9_count 63 = .ok (.ireturn, 1) := by decide +kernel
theorem dX9_count_64 : decode cX9_count 64 = .ok (.aload_n 0, 1) := by decide +kernel
theorem dX9_count_65 : decode cX9_count 65 = .ok (.getfield 33, 3) := by decide +kernel
theorem dX9_count_68 : decode cX9_count 68 = .ok (.getfield 130, 3) := by decide +kernel
theorem dX9_count_71 : decode cX9_count 71 = .ok (.ireturn, 1) := by decide +kernel
theorem dX9_count_72 : decode cX9_count 72 = .ok (.aload_n 0, 1) := by decide +kernel
theorem dX9_count_73 : decode cX9_count 73 = .ok (.getfield 26, 3) := by decide +kernel
theorem dX9_count_76 : decode cX9_count 76 = .ok (.getfield 117, 3) := by decide +kernel
theorem dX9_count_79 : decode cX9_count 79 = .ok (.ireturn, 1) := by decide +kernel
theorem dX9_count_80 : decode cX9_count 80 = .ok (.aload_n 0, 1) := by decide +kernel
theorem dX9_count_81 : decode cX9_count 81 = .ok (.getfield 40, 3) := by decide +kernel
theorem kw769 : Cond.code yX0_knotsInside cX0_knotsInside 1 (some .int) ∈ Tg := mem_Tg (List.mem_append_right _ (List.mem_of_getElem? (i := 769) (by decide +kernel))) (by decide +kernel)
theorem dX9_count_84 : decode cX9_count 84 = .ok (.invokevirtual 253, 3) := by decide +kernel
theorem dX9_count_87 : decode cX9_count 87 = .ok (.ireturn, 1) := by decide +kernel
theorem dX9_count_88 : decode cX9_count 88 = .ok (.aload_n 0, 1) := by decide +kernel
theorem dX9_count_89 : decode cX9_count 89 = .ok (.getfield 26, 3) := by decide +kernel
theorem kw779 : Cond.code yX4_holedOnes cX4_holedOnes 3 (some .int) ∈ Tg := mem_Tg (List.mem_append_right _ (List.mem_of_getElem? (i := 779) (by decide +kernel))) (by decide +kernel)
theorem dX9_count_92 : decode cX9_count 92 = .ok (.invokevirtual 256, 3) := by decide +kernel
theorem dX9_count_95 : decode cX9_count 95 = .ok (.ireturn, 1) := by decide +kernel
theorem dX9_count_96 : decode cX9_count 96 = .ok (.aload_n 0, 1) := by decide +kernel
theorem dX9_count_97 : decode cX9_count 97 = .ok (.getfield 47, 3) := by decide +kernel
theorem dX9_count_100 : decode cX9_count 100 = .ok (.getfield 210, 3) := by decide +kernel
theorem dX9_count_103 : decode cX9_count 103 = .ok (.ireturn, 1) := by decide +kernel
theorem dX9_count_104 : decode cX9_count 104 = .ok (.aload_n 0, 1) := by decide +kernel
theorem dX9_count_105 : decode cX9_count 105 = .ok (.getfield 56, 3) := by decide +kernel
theorem dX9_count_108 : decode cX9_count 108 = .ok (.getfield 165, 3) := by decide +kernel
theorem dX9_count_111 : decode cX9_count 111 = .ok (.ireturn, 1) := by decide +kernel
theorem dX9_count_112 : decode cX9_count 112 = .ok (.aload_n 0, 1) := by decide +kernel
theorem dX9_count_113 : decode cX9_count 113 = .ok (.getfield 60, 3) := by decide +kernel
theorem dX9_count_116 : decode cX9_count 116 = .ok (.getfield 165, 3) := by decide +kernel
theorem dX9_count_119 : decode cX9_count 119 = .ok (.ireturn, 1) := by decide +kernel
theorem dX9_count_120 : decode cX9_count 120 = .ok (.aload_n 0, 1) := by decide +kernel
theorem dX9_count_121 : decode cX9_count 121 = .ok (.getfield 10, 3) := by decide +kernel
theorem dX9_count_124 : decode cX9_count 124 = .ok (.getfield 103, 3) := by decide +kernel
theorem dX9_count_127 : decode cX9_count 127 = .ok (.ireturn, 1) := by decide +kernel
theorem dX9_count_128 : decode cX9_count 128 = .ok (.aload_n 0, 1) := by decide +kernel
theorem dX9_count_129 : decode cX9_count 129 = .ok (.getfield 33, 3) := by decide +kernel
theorem dX9_count_132 : decode cX9_count 132 = .ok (.getfield 259, 3) := by decide +kernel
theorem dX9_count_135 : decode cX9_count 135 = .ok (.ireturn, 1) := by decide +kernel
theorem dX9_count_136 : decode cX9_count 136 = .ok (.iconst (-1), 1) := by decide +kernel
theorem dX9_count_137 : decode cX9_count 137 = .ok (.ireturn, 1) := by decide +kernel
theorem fg_X9_10 : FG RX9 10 9 0 (.object "LeftAndRight$Text") true := ⟨RX9, TX9, 10, tyX9, rfl, in9, by decide, tyX9_ok, nmX9, kw399, rfl, by decide +kernel⟩
theorem fg_X9_103 : FG RX9 103 5 1 .int false := ⟨RX5, TX5, 2, tyX5, rfl, in5, by decide, tyX5_ok, nmX5, kw37, rfl, by decide +kernel⟩
theorem cv_X9_89 : CVw RX9 89 RX5 yX5_append 1 := ⟨by decide +kernel, kw282, kw283, kw284, kw2⟩
theorem cv_X9_96 : CVw RX9 96 RX5 yX5_clear 0 := ⟨by decide +kernel, kw395, kw396, kw397, kw2⟩
theorem fg_X9_19 : FG RX9 19 9 1 (.object "LeftAndRight$Reader") true := ⟨RX9, TX9, 10, tyX9, rfl, in9, by decide, tyX9_ok, nmX9, kw400, rfl, by decide +kernel⟩
theorem cv_X9_106 : CVw RX9 106 RX3 yX3_read 1 := ⟨by decide +kernel, kw290, kw291, kw292, kw3⟩
theorem fg_X9_26 : FG RX9 26 9 2 (.object "LeftAndRight$Shelf") true := ⟨RX9, TX9, 10, tyX9, rfl, in9, by decide, tyX9_ok, nmX9, kw401, rfl, by decide +kernel⟩
theorem cv_X9_113 : CVw RX9 113 RX4 yX4_holds 1 := ⟨by decide +kernel, kw451, kw452, kw453, kw4⟩
theorem cv_X9_127 : CVw RX9 127 RX4 yX4_cell 2 := ⟨by decide +kernel, kw474, kw461, kw462, kw4⟩
theorem fg_X9_117 : FG RX9 117 4 2 .int false := ⟨RX4, TX4, 3, tyX4, rfl, in4, by decide, tyX4_ok, nmX4, kw66, rfl, by decide +kernel⟩
theorem cv_X9_124 : CVw RX9 124 RX4 yX4_weightOn 2 := ⟨by decide +kernel, kw470, kw471, kw472, kw4⟩
theorem cv_X9_120 : CVw RX9 120 RX4 yX4_sizeOn 2 := ⟨by decide +kernel, kw456, kw457, kw458, kw4⟩
theorem fg_X9_33 : FG RX9 33 9 3 (.object "LeftAndRight$Waiting") true := ⟨RX9, TX9, 10, tyX9, rfl, in9, by decide, tyX9_ok, nmX9, kw402, rfl, by decide +kernel⟩
theorem fg_X9_130 : FG RX9 130 6 2 .int false := ⟨RX6, TX6, 4, tyX6, rfl, in6, by decide, tyX6_ok, nmX6, kw85, rfl, by decide +kernel⟩
theorem cv_X9_136 : CVw RX9 136 RX6 yX6_foot 2 := ⟨by decide +kernel, kw479, kw480, kw481, kw5⟩
theorem cv_X9_168 : CVw RX9 168 RX4 yX4_matesOf 1 := ⟨by decide +kernel, kw554, kw555, kw556, kw4⟩
theorem fg_X9_110 : FG RX9 110 4 1 .int false := ⟨RX4, TX4, 3, tyX4, rfl, in4, by decide, tyX4_ok, nmX4, kw61, rfl, by decide +kernel⟩
theorem fg_X9_66 : FG RX9 66 9 8 (.object "LeftAndRight$Pairing") true := ⟨RX9, TX9, 10, tyX9, rfl, in9, by decide, tyX9_ok, nmX9, kw407, rfl, by decide +kernel⟩
theorem cv_X9_172 : CVw RX9 172 RX1 yX1_look 1 := ⟨by decide +kernel, kw563, kw564, kw565, kw10⟩
theorem cv_X9_175 : CVw RX9 175 RX1 yX1_match 0 := ⟨by decide +kernel, kw576, kw577, kw578, kw10⟩
theorem cv_X9_182 : CVw RX9 182 RX1 yX1_partnerOf 1 := ⟨by decide +kernel, kw608, kw609, kw610, kw10⟩
theorem fg_X9_179 : FG RX9 179 1 7 .int false := ⟨RX1, TX1, 8, tyX1, rfl, in1, by decide, tyX1_ok, nmX1, kw198, rfl, by decide +kernel⟩
theorem fg_X9_178 : FG RX9 178 1 6 .int false := ⟨RX1, TX1, 8, tyX1, rfl, in1, by decide, tyX1_ok, nmX1, kw196, rfl, by decide +kernel⟩
theorem cv_X9_185 : CVw RX9 185 RX4 yX4_ofSide 1 := ⟨by decide +kernel, kw616, kw570, kw571, kw4⟩
theorem cs_X9_188 : CSw RX9 188 yJ6_bitCount_0f7a4 1 := ⟨by decide +kernel, kw617, kw618, kw19⟩
theorem cv_X9_193 : CVw RX9 193 RX1 yX1_serve 1 := ⟨by decide +kernel, kw627, kw628, kw629, kw10⟩
theorem cv_X9_197 : CVw RX9 197 RX6 yX6_suits 3 := ⟨by decide +kernel, kw650, kw632, kw633, kw5⟩
theorem cv_X9_200 : CVw RX9 200 RX4 yX4_isOfSide 2 := ⟨by decide +kernel, kw655, kw516, kw517, kw4⟩
theorem cv_X9_151 : CVw RX9 151 RX4 yX4_areAlikeOn 3 := ⟨by decide +kernel, kw511, kw512, kw513, kw4⟩
theorem fg_X9_40 : FG RX9 40 9 4 (.object "LeftAndRight$Log") true := ⟨RX9, TX9, 10, tyX9, rfl, in9, by decide, tyX9_ok, nmX9, kw403, rfl, by decide +kernel⟩
theorem cv_X9_204 : CVw RX9 204 RX0 yX0_saw 1 := ⟨by decide +kernel, kw664, kw665, kw666, kw6⟩
theorem cv_X9_207 : CVw RX9 207 RX4 yX4_unholedFrom 2 := ⟨by decide +kernel, kw676, kw677, kw678, kw4⟩
theorem fg_X9_47 : FG RX9 47 9 5 (.object "LeftAndRight$Walls") true := ⟨RX9, TX9, 10, tyX9, rfl, in9, by decide, tyX9_ok, nmX9, kw404, rfl, by decide +kernel⟩
theorem fg_X9_210 : FG RX9 210 7 3 .int false := ⟨RX7, TX7, 4, tyX7, rfl, in7, by decide, tyX7_ok, nmX7, kw153, rfl, by decide +kernel⟩
theorem cv_X9_213 : CVw RX9 213 RX7 yX7_add 3 := ⟨by decide +kernel, kw684, kw685, kw686, kw7⟩
theorem cv_X9_216 : CVw RX9 216 RX7 yX7_thicknesses 1 := ⟨by decide +kernel, kw697, kw698, kw699, kw7⟩
theorem cs_X9_219 : CSw RX9 219 yX9_commonDivisorWithTen 1 := ⟨by decide +kernel, kw710, kw711, kw1⟩
theorem mh_X9_222 : MH RX9 222 Lib.Math.max.name Lib.Math.max.code 2 := ⟨kw713, kw170, kw9, kw171⟩
theorem cs_X9_227 : CSw RX9 227 yX9_power 2 := ⟨by decide +kernel, kw714, kw715, kw1⟩
theorem cs_X9_232 : CSw RX9 232 yX9_cutsInTheMean 3 := ⟨by decide +kernel, kw722, kw723, kw1⟩
theorem ml_X9_236 : ML RX9 236 := ⟨kw726, kw727, kw9, kw728⟩
theorem fg_X9_73 : FG RX9 73 9 9 (.object "LeftAndRight$Year") true := ⟨RX9, TX9, 10, tyX9, rfl, in9, by decide, tyX9_ok, nmX9, kw408, rfl, by decide +kernel⟩
theorem cv_X9_241 : CVw RX9 241 RX8 yX8_live 3 := ⟨by decide +kernel, kw734, kw735, kw736, kw11⟩
theorem fg_X9_248 : FG RX9 248 8 0 (.object "LeftAndRight$Shelf") true := ⟨RX8, TX8, 2, tyX8, rfl, in8, by decide, tyX8_ok, nmX8, kw225, rfl, by decide +kernel⟩
theorem fg_X9_245 : FG RX9 245 8 1 .int false := ⟨RX8, TX8, 2, tyX8, rfl, in8, by decide, tyX8_ok, nmX8, kw227, rfl, by decide +kernel⟩
theorem cv_X9_253 : CVw RX9 253 RX0 yX0_knotsInside 0 := ⟨by decide +kernel, kw766, kw767, kw768, kw6⟩
theorem cv_X9_256 : CVw RX9 256 RX4 yX4_holedOnes 0 := ⟨by decide +kernel, kw776, kw777, kw778, kw4⟩
theorem fg_X9_56 : FG RX9 56 9 6 (.object "LeftAndRight$Pile") true := ⟨RX9, TX9, 10, tyX9, rfl, in9, by decide, tyX9_ok, nmX9, kw405, rfl, by decide +kernel⟩
theorem fg_X9_165 : FG RX9 165 2 1 .int false := ⟨RX2, TX2, 2, tyX2, rfl, in2, by decide, tyX2_ok, nmX2, kw177, rfl, by decide +kernel⟩
theorem fg_X9_60 : FG RX9 60 9 7 (.object "LeftAndRight$Pile") true := ⟨RX9, TX9, 10, tyX9, rfl, in9, by decide, tyX9_ok, nmX9, kw406, rfl, by decide +kernel⟩
theorem fg_X9_259 : FG RX9 259 6 3 .int false := ⟨RX6, TX6, 4, tyX6, rfl, in6, by decide, tyX6_ok, nmX6, kw89, rfl, by decide +kernel⟩
theorem sw_out_X9_count_1 {x : Int32} (h0 : ¬ x = 0) (h1 : ¬ x = 1) (h2 : ¬ x = 2) (h3 : ¬ x = 3) (h4 : ¬ x = 4) (h5 : ¬ x = 5) (h6 : ¬ x = 6) (h7 : ¬ x = 7) (h8 : ¬ x = 8) (h9 : ¬ x = 9) : x.toInt < 0 ∨ 9 < x.toInt := by
  have e0 : x.toInt ≠ 0 := sw_ne h0
  have e1 : x.toInt ≠ 1 := sw_ne h1
  have e2 : x.toInt ≠ 2 := sw_ne h2
  have e3 : x.toInt ≠ 3 := sw_ne h3
  have e4 : x.toInt ≠ 4 := sw_ne h4
  have e5 : x.toInt ≠ 5 := sw_ne h5
  have e6 : x.toInt ≠ 6 := sw_ne h6
  have e7 : x.toInt ≠ 7 := sw_ne h7
  have e8 : x.toInt ≠ 8 := sw_ne h8
  have e9 : x.toInt ≠ 9 := sw_ne h9
  omega
set_option maxHeartbeats 8000000 in
set_option maxRecDepth 100000 in
theorem c_X9_write (l : Launch) (dC : Nat → ClassId) (dI : Nat → Nat → Nat) (cc : Nat → ClassId) (q0 q1 q3 q11 q13 q16 q17 q21 q23 q25 q30 q2 : Nat) (text_length : Int32) (text_letters : (Nat → Int32)) (x1 : Int32) (sz : Nat) (ret : Int32) (o_text_letters : (Nat → Int32)) (o_text_length : Int32) (hu : f_X9_write x1 text_length text_letters = some (ret, o_text_letters, o_text_length)) : Met l yX9_write (mw yX9_write cX9_write 2 (some .int)) ({ frames := 1, cells := 0, slots := 0, locals := 22 } : Room) (va_Pc [.ref q0, .int x1] (mP (dC, dI) (ts cc) sz [(q0, .inr (9, [.ref q1, .ref q3, .ref q11, .ref q13, .ref q16, .ref q17, .ref q21, .ref q23, .ref q25, .ref q30])), (q1, .inr (5, [.ref q2, .int text_length])), (q2, .inl (cc 1, 200, .inl text_letters))])) ((fun A => va_Qi (fun (r : Int32) (w : (Nat → Int32) × Int32) => r = ret ∧ w = (o_text_letters, o_text_length)) (fun (w : (Nat → Int32) × Int32) t => va_P (dC, dI) classes [(q0, .inr (9, [.ref q1, .ref q3, .ref q11, .ref q13, .ref q16, .ref q17, .ref q21, .ref q23, .ref q25, .ref q30])), (q1, .inr (5, [.ref q2, .int w.2])), (q2, .inl (cc 1, 200, .inl w.1))] t.heap) A) (va_A [(q0, .inr (9, [.ref q1, .ref q3, .ref q11, .ref q13, .ref q16, .ref q17, .ref q21, .ref q23, .ref q25, .ref q30])), (q1, .inr (5, [.ref q2, .int text_length])), (q2, .inl (cc 1, 200, .inl text_letters))] sz)) 0 0 (va_A [(q0, .inr (9, [.ref q1, .ref q3, .ref q11, .ref q13, .ref q16, .ref q17, .ref q21, .ref q23, .ref q25, .ref q30])), (q1, .inr (5, [.ref q2, .int text_length])), (q2, .inl (cc 1, 200, .inl text_letters))] sz) := by
  refine met_go (Qc := fun A => va_Qi (fun (r : Int32) (w : (Nat → Int32) × Int32) => r = ret ∧ w = (o_text_letters, o_text_length)) (fun (w : (Nat → Int32) × Int32) t => va_P (dC, dI) classes [(q0, .inr (9, [.ref q1, .ref q3, .ref q11, .ref q13, .ref q16, .ref q17, .ref q21, .ref q23, .ref q25, .ref q30])), (q1, .inr (5, [.ref q2, .int w.2])), (q2, .inl (cc 1, 200, .inl w.1))] t.heap) A) (by decide) (Nat.le_of_ble_eq_true rfl) ?_
  intro p e s m below meth c A ls H locs hC hr hlk hin hA hP hl _
  have hC : CX p m c cX9_write 2 s ([.ref q0, .int x1] : List Value).toArray RX9 (dC, dI) (ts cc) := hC
  have hx := hC.1.1
  have hb := hC.1.2
  have h := hu
  have hu0 := hu
  unfold f_X9_write at h
  have hl : lv_has ls 2 [(0, .ref q0), (1, .int x1)] := hl
  refine lv_iload_n hx hb dX9_write_0 rfl (lv_at hl 1 rfl) ?_
  refine lv_bipush (v := 32) hx hb dX9_write_1 (by decide) ?_
  refine lv_bipush (v := 126) hx hb dX9_write_3 (by decide) ?_
  obtain ⟨r1, hu, h⟩ := bnd_h h
  refine kc_z (kS hC (c_X9_within l dC dI cc x1 32 126 H.size r1 hu) cs_X9_99 kw338 rfl rfl ⟨(Nat.le_of_ble_eq_true rfl), (Nat.le_of_ble_eq_true rfl)⟩ hP [] rfl rfl (As := [.int x1, .int 32, .int 126]) (rest := []) rfl rfl hl.1 (Nat.le_of_ble_eq_true rfl) dX9_write_5 ⟨Nat.zero_le _, Nat.zero_le _⟩) hP hA [] rfl rfl (fun hz_r1 H locs hP => ?_)
  have hP : PD (dC, dI) A s.heap [(q0, .inr (9, [.ref q1, .ref q3, .ref q11, .ref q13, .ref q16, .ref q17, .ref q21, .ref q23, .ref q25, .ref q30])), (q1, .inr (5, [.ref q2, .int text_length])), (q2, .inl (cc 1, 200, .inl text_letters))] H locs := hP
  refine lv_if_ne (tgt := 13) hx hb dX9_write_8 (by decide) (fun c2 => ?_) (fun c2 => ?_)
  · have h := if_f c2 h
    refine lv_aload_n hx hb dX9_write_13 rfl (lv_at hl 0 rfl) ?_
    refine g_get hC hP fg_X9_10 0 rfl rfl dX9_write_14 ?_
    refine g_get hC hP fg_X9_103 1 rfl rfl dX9_write_17 ?_
    refine lv_sipush (v := 200) hx hb dX9_write_20 (by decide) ?_
    refine lv_icmp_lt (tgt := 29) hx hb dX9_write_23 (by decide) (fun c3 => ?_) (fun c3 => ?_)
    · have h := if_t c3 h
      refine lv_aload_n hx hb dX9_write_29 rfl (lv_at hl 0 rfl) ?_
      refine g_get hC hP fg_X9_10 0 rfl rfl dX9_write_30 ?_
      refine lv_iload_n hx hb dX9_write_33 rfl (lv_at hl 1 rfl) ?_
      obtain ⟨⟨w4, w5⟩, hu, h⟩ := bnd_h h
      refine kc_v (kV hC (c_X5_append l dC dI cc q1 q2 text_length text_letters x1 H.size w4 w5 hu) cv_X9_89 kw285 rfl rfl ⟨(Nat.le_of_ble_eq_true rfl), (Nat.le_of_ble_eq_true rfl)⟩ hP [1, 2] rfl rfl rfl (q0 := 1) rfl (As := [.int x1]) (rest := []) rfl rfl hl.1 (Nat.le_of_ble_eq_true rfl) dX9_write_34 ⟨Nat.zero_le _, Nat.zero_le _⟩) hP hA [1, 2] rfl rfl (fun H locs hP => ?_)
      have hP : PD (dC, dI) A s.heap [(q0, .inr (9, [.ref q1, .ref q3, .ref q11, .ref q13, .ref q16, .ref q17, .ref q21, .ref q23, .ref q25, .ref q30])), (q1, .inr (5, [.ref q2, .int w5])), (q2, .inl (cc 1, 200, .inl w4))] H locs := hP
      refine lv_aload_n hx hb dX9_write_37 rfl (lv_at hl 0 rfl) ?_
      refine g_get hC hP fg_X9_10 0 rfl rfl dX9_write_38 ?_
      refine g_get hC hP fg_X9_103 1 rfl rfl dX9_write_41 ?_
      exact ret_i hC hr hlk hP dX9_write_44 (w4, w5) (Prod.mk.inj (Option.some.inj h)) rfl
    · have h := if_f c3 h
      refine lv_bipush (v := -3) hx hb dX9_write_26 (by decide) ?_
      exact ret_i hC hr hlk hP dX9_write_28 (text_letters, text_length) (Prod.mk.inj (Option.some.inj h)) rfl
  · have h := if_t c2 h
    refine lv_iconst (v := -1) hx hb dX9_write_11 (by decide) ?_
    exact ret_i hC hr hlk hP dX9_write_12 (text_letters, text_length) (Prod.mk.inj (Option.some.inj h)) rfl
set_option maxHeartbeats 8000000 in
set_option maxRecDepth 100000 in
theorem c_X9_wipe (l : Launch) (dC : Nat → ClassId) (dI : Nat → Nat → Nat) (cc : Nat → ClassId) (q0 q1 q3 q11 q13 q16 q17 q21 q23 q25 q30 q2 : Nat) (text_length : Int32) (sz : Nat) (ret : Int32) (o_text_length : Int32) (hu : f_X9_wipe text_length = some (ret, o_text_length)) : Met l yX9_wipe (mw yX9_wipe cX9_wipe 2 (some .int)) ({ frames := 1, cells := 0, slots := 0, locals := 20 } : Room) (va_Pc [.ref q0] (mP (dC, dI) (ts cc) sz [(q0, .inr (9, [.ref q1, .ref q3, .ref q11, .ref q13, .ref q16, .ref q17, .ref q21, .ref q23, .ref q25, .ref q30])), (q1, .inr (5, [.ref q2, .int text_length]))])) ((fun A => va_Qi (fun (r : Int32) (w : Int32) => r = ret ∧ w = o_text_length) (fun (w : Int32) t => va_P (dC, dI) classes [(q0, .inr (9, [.ref q1, .ref q3, .ref q11, .ref q13, .ref q16, .ref q17, .ref q21, .ref q23, .ref q25, .ref q30])), (q1, .inr (5, [.ref q2, .int w]))] t.heap) A) (va_A [(q0, .inr (9, [.ref q1, .ref q3, .ref q11, .ref q13, .ref q16, .ref q17, .ref q21, .ref q23, .ref q25, .ref q30])), (q1, .inr (5, [.ref q2, .int text_length]))] sz)) 0 0 (va_A [(q0, .inr (9, [.ref q1, .ref q3, .ref q11, .ref q13, .ref q16, .ref q17, .ref q21, .ref q23, .ref q25, .ref q30])), (q1, .inr (5, [.ref q2, .int text_length]))] sz) := by
  refine met_go (Qc := fun A => va_Qi (fun (r : Int32) (w : Int32) => r = ret ∧ w = o_text_length) (fun (w : Int32) t => va_P (dC, dI) classes [(q0, .inr (9, [.ref q1, .ref q3, .ref q11, .ref q13, .ref q16, .ref q17, .ref q21, .ref q23, .ref q25, .ref q30])), (q1, .inr (5, [.ref q2, .int w]))] t.heap) A) (by decide) (Nat.le_of_ble_eq_true rfl) ?_
  intro p e s m below meth c A ls H locs hC hr hlk hin hA hP hl _
  have hC : CX p m c cX9_wipe 2 s ([.ref q0] : List Value).toArray RX9 (dC, dI) (ts cc) := hC
  have hx := hC.1.1
  have hb := hC.1.2
  have h := hu
  have hu0 := hu
  unfold f_X9_wipe at h
  have hl : lv_has ls 2 [(0, .ref q0)] := hl
  refine lv_aload_n hx hb dX9_wipe_0 rfl (lv_at hl 0 rfl) ?_
  refine g_get hC hP fg_X9_10 0 rfl rfl dX9_wipe_1 ?_
  refine g_get hC hP fg_X9_103 1 rfl rfl dX9_wipe_4 ?_
  refine lv_istore_n (lv' := [(1, .int text_length), (0, .ref q0)]) hx hb dX9_wipe_7 rfl hl (by decide) rfl (fun ls hl => ?_)
  refine lv_aload_n hx hb dX9_wipe_8 rfl (lv_at hl 1 rfl) ?_
  refine g_get hC hP fg_X9_10 0 rfl rfl dX9_wipe_9 ?_
  obtain ⟨w1, hu, h⟩ := bnd_h h
  refine kc_v (kV hC (c_X5_clear l dC dI cc q1 q2 text_length H.size w1 hu) cv_X9_96 kw398 rfl rfl ⟨(Nat.le_of_ble_eq_true rfl), (Nat.le_of_ble_eq_true rfl)⟩ hP [1] rfl rfl rfl (q0 := 1) rfl (As := []) (rest := []) rfl rfl hl.1 (Nat.le_of_ble_eq_true rfl) dX9_wipe_12 ⟨Nat.zero_le _, Nat.zero_le _⟩) hP hA [1] rfl rfl (fun H locs hP => ?_)
  have hP : PD (dC, dI) A s.heap [(q0, .inr (9, [.ref q1, .ref q3, .ref q11, .ref q13, .ref q16, .ref q17, .ref q21, .ref q23, .ref q25, .ref q30])), (q1, .inr (5, [.ref q2, .int w1]))] H locs := hP
  refine lv_iload_n hx hb dX9_wipe_15 rfl (lv_at hl 0 rfl) ?_
  exact ret_i hC hr hlk hP dX9_wipe_16 w1 (Prod.mk.inj (Option.some.inj h)) rfl
set_option maxHeartbeats 8000000 in
set_option maxRecDepth 100000 in
theorem c_X9_fault (l : Launch) (dC : Nat → ClassId) (dI : Nat → Nat → Nat) (cc : Nat → ClassId) (q0 q1 q3 q11 q13 q16 q17 q21 q23 q25 q30 q2 q4 q6 q9 q10 q5 q7 q8 : Nat) (text_length : Int32) (text_letters : (Nat → Int32)) (reader_told : Int32) (reader_shelf_clogs : Int32) (reader_shelf_day : Int32) (reader_shelf_cells : (Nat → Int32)) (reader_waiting_number : Int32) (reader_waiting_stocking : Int32) (reader_waiting_lefts : (Nat → Int32)) (reader_waiting_rights : (Nat → Int32)) (reader_log_length : Int32) (reader_log_block : Int32) (reader_log_knots : Int64) (reader_numbers : (Nat → Int32)) (sz : Nat) (ret : Int32) (o_reader_shelf_cells : (Nat → Int32)) (o_reader_shelf_clogs : Int32) (o_reader_shelf_day : Int32) (o_reader_waiting_lefts : (Nat → Int32)) (o_reader_waiting_rights : (Nat → Int32)) (o_reader_waiting_number : Int32) (o_reader_waiting_stocking : Int32) (o_reader_log_length : Int32) (o_reader_log_block : Int32) (o_reader_log_knots : Int64) (o_reader_numbers : (Nat → Int32)) (o_reader_told : Int32) (hu : f_X9_fault text_length text_letters reader_told reader_shelf_cells reader_waiting_lefts reader_waiting_rights reader_numbers = some (ret, o_reader_shelf_cells, o_reader_shelf_clogs, o_reader_shelf_day, o_reader_waiting_lefts, o_reader_waiting_rights, o_reader_waiting_number, o_reader_waiting_stocking, o_reader_log_length, o_reader_log_block, o_reader_log_knots, o_reader_numbers, o_reader_told)) : Met l yX9_fault (mw yX9_fault cX9_fault 1 (some .int)) ({ frames := 5, cells := 0, slots := 0, locals := 112 } : Room) (va_Pc [.ref q0] (mP (dC, dI) (ts cc) sz [(q0, .inr (9, [.ref q1, .ref q3, .ref q11, .ref q13, .ref q16, .ref q17, .ref q21, .ref q23, .ref q25, .ref q30])), (q1, .inr (5, [.ref q2, .int text_length])), (q2, .inl (cc 1, 200, .inl text_letters)), (q3, .inr (3, [.ref q4, .ref q6, .ref q9, .ref q10, .int reader_told])), (q4, .inr (4, [.ref q5, .int reader_shelf_clogs, .int reader_shelf_day])), (q5, .inl (cc 0, 50, .inl reader_shelf_cells)), (q6, .inr (6, [.ref q7, .ref q8, .int reader_waiting_number, .int reader_waiting_stocking])), (q7, .inl (cc 0, 5, .inl reader_waiting_lefts)), (q8, .inl (cc 0, 5, .inl reader_waiting_rights)), (q9, .inr (0, [.int reader_log_length, .int reader_log_block, .long reader_log_knots])), (q10, .inl (cc 0, 4, .inl reader_numbers))])) ((fun A => va_Qi (fun (r : Int32) (w : (Nat → Int32) × Int32 × Int32 × (Nat → Int32) × (Nat → Int32) × Int32 × Int32 × Int32 × Int32 × Int64 × (Nat → Int32) × Int32) => r = ret ∧ w = (o_reader_shelf_cells, o_reader_shelf_clogs, o_reader_shelf_day, o_reader_waiting_lefts, o_reader_waiting_rights, o_reader_waiting_number, o_reader_waiting_stocking, o_reader_log_length, o_reader_log_block, o_reader_log_knots, o_reader_numbers, o_reader_told)) (fun (w : (Nat → Int32) × Int32 × Int32 × (Nat → Int32) × (Nat → Int32) × Int32 × Int32 × Int32 × Int32 × Int64 × (Nat → Int32) × Int32) t => va_P (dC, dI) classes [(q0, .inr (9, [.ref q1, .ref q3, .ref q11, .ref q13, .ref q16, .ref q17, .ref q21, .ref q23, .ref q25, .ref q30])), (q1, .inr (5, [.ref q2, .int text_length])), (q2, .inl (cc 1, 200, .inl text_letters)), (q3, .inr (3, [.ref q4, .ref q6, .ref q9, .ref q10, .int w.2.2.2.2.2.2.2.2.2.2.2])), (q4, .inr (4, [.ref q5, .int w.2.1, .int w.2.2.1])), (q5, .inl (cc 0, 50, .inl w.1)), (q6, .inr (6, [.ref q7, .ref q8, .int w.2.2.2.2.2.1, .int w.2.2.2.2.2.2.1])), (q7, .inl (cc 0, 5, .inl w.2.2.2.1)), (q8, .inl (cc 0, 5, .inl w.2.2.2.2.1)), (q9, .inr (0, [.int w.2.2.2.2.2.2.2.1, .int w.2.2.2.2.2.2.2.2.1, .long w.2.2.2.2.2.2.2.2.2.1])), (q10, .inl (cc 0, 4, .inl w.2.2.2.2.2.2.2.2.2.2.1))] t.heap) A) (va_A [(q0, .inr (9, [.ref q1, .ref q3, .ref q11, .ref q13, .ref q16, .ref q17, .ref q21, .ref q23, .ref q25, .ref q30])), (q1, .inr (5, [.ref q2, .int text_length])), (q2, .inl (cc 1, 200, .inl text_letters)), (q3, .inr (3, [.ref q4, .ref q6, .ref q9, .ref q10, .int reader_told])), (q4, .inr (4, [.ref q5, .int reader_shelf_clogs, .int reader_shelf_day])), (q5, .inl (cc 0, 50, .inl reader_shelf_cells)), (q6, .inr (6, [.ref q7, .ref q8, .int reader_waiting_number, .int reader_waiting_stocking])), (q7, .inl (cc 0, 5, .inl reader_waiting_lefts)), (q8, .inl (cc 0, 5, .inl reader_waiting_rights)), (q9, .inr (0, [.int reader_log_length, .int reader_log_block, .long reader_log_knots])), (q10, .inl (cc 0, 4, .inl reader_numbers))] sz)) 0 0 (va_A [(q0, .inr (9, [.ref q1, .ref q3, .ref q11, .ref q13, .ref q16, .ref q17, .ref q21, .ref q23, .ref q25, .ref q30])), (q1, .inr (5, [.ref q2, .int text_length])), (q2, .inl (cc 1, 200, .inl text_letters)), (q3, .inr (3, [.ref q4, .ref q6, .ref q9, .ref q10, .int reader_told])), (q4, .inr (4, [.ref q5, .int reader_shelf_clogs, .int reader_shelf_day])), (q5, .inl (cc 0, 50, .inl reader_shelf_cells)), (q6, .inr (6, [.ref q7, .ref q8, .int reader_waiting_number, .int reader_waiting_stocking])), (q7, .inl (cc 0, 5, .inl reader_waiting_lefts)), (q8, .inl (cc 0, 5, .inl reader_waiting_rights)), (q9, .inr (0, [.int reader_log_length, .int reader_log_block, .long reader_log_knots])), (q10, .inl (cc 0, 4, .inl reader_numbers))] sz) := by
  refine met_go (Qc := fun A => va_Qi (fun (r : Int32) (w : (Nat → Int32) × Int32 × Int32 × (Nat → Int32) × (Nat → Int32) × Int32 × Int32 × Int32 × Int32 × Int64 × (Nat → Int32) × Int32) => r = ret ∧ w = (o_reader_shelf_cells, o_reader_shelf_clogs, o_reader_shelf_day, o_reader_waiting_lefts, o_reader_waiting_rights, o_reader_waiting_number, o_reader_waiting_stocking, o_reader_log_length, o_reader_log_block, o_reader_log_knots, o_reader_numbers, o_reader_told)) (fun (w : (Nat → Int32) × Int32 × Int32 × (Nat → Int32) × (Nat → Int32) × Int32 × Int32 × Int32 × Int32 × Int64 × (Nat → Int32) × Int32) t => va_P (dC, dI) classes [(q0, .inr (9, [.ref q1, .ref q3, .ref q11, .ref q13, .ref q16, .ref q17, .ref q21, .ref q23, .ref q25, .ref q30])), (q1, .inr (5, [.ref q2, .int text_length])), (q2, .inl (cc 1, 200, .inl text_letters)), (q3, .inr (3, [.ref q4, .ref q6, .ref q9, .ref q10, .int w.2.2.2.2.2.2.2.2.2.2.2])), (q4, .inr (4, [.ref q5, .int w.2.1, .int w.2.2.1])), (q5, .inl (cc 0, 50, .inl w.1)), (q6, .inr (6, [.ref q7, .ref q8, .int w.2.2.2.2.2.1, .int w.2.2.2.2.2.2.1])), (q7, .inl (cc 0, 5, .inl w.2.2.2.1)), (q8, .inl (cc 0, 5, .inl w.2.2.2.2.1)), (q9, .inr (0, [.int w.2.2.2.2.2.2.2.1, .int w.2.2.2.2.2.2.2.2.1, .long w.2.2.2.2.2.2.2.2.2.1])), (q10, .inl (cc 0, 4, .inl w.2.2.2.2.2.2.2.2.2.2.1))] t.heap) A) (by decide) (Nat.le_of_ble_eq_true rfl) ?_
  intro p e s m below meth c A ls H locs hC hr hlk hin hA hP hl _
  have hC : CX p m c cX9_fault 1 s ([.ref q0] : List Value).toArray RX9 (dC, dI) (ts cc) := hC
  have hx := hC.1.1
  have hb := hC.1.2
  have h := hu
  have hu0 := hu
  unfold f_X9_fault at h
  have hl : lv_has ls 1 [(0, .ref q0)] := hl
  refine lv_aload_n hx hb dX9_fault_0 rfl (lv_at hl 0 rfl) ?_
  refine g_get hC hP fg_X9_19 0 rfl rfl dX9_fault_1 ?_
  refine lv_aload_n hx hb dX9_fault_4 rfl (lv_at hl 0 rfl) ?_
  refine g_get hC hP fg_X9_10 0 rfl rfl dX9_fault_5 ?_
  obtain ⟨⟨r1, w2, w3, w4, w5, w6, w7, w8, w9, w10, w11, w12, w13⟩, hu, h⟩ := bnd_h h
  refine kc_i (kV hC (c_X3_read l dC dI cc q3 q4 q6 q9 q10 q5 q7 q8 q1 q2 reader_told reader_shelf_clogs reader_shelf_day reader_shelf_cells reader_waiting_number reader_waiting_stocking reader_waiting_lefts reader_waiting_rights reader_log_length reader_log_block reader_log_knots reader_numbers text_length text_letters H.size r1 w2 w3 w4 w5 w6 w7 w8 w9 w10 w11 w12 w13 hu) cv_X9_106 kw293 rfl rfl ⟨(Nat.le_of_ble_eq_true rfl), (Nat.le_of_ble_eq_true rfl)⟩ hP [3, 4, 5, 6, 7, 8, 9, 10, 1, 2] rfl rfl rfl (q0 := 3) rfl (As := [.ref q1]) (rest := []) rfl rfl hl.1 (Nat.le_of_ble_eq_true rfl) dX9_fault_8 ⟨Nat.zero_le _, Nat.zero_le _⟩) hP hA [3, 4, 5, 6, 7, 8, 9, 10, 1, 2] rfl rfl (fun H locs hP => ?_)
  have hP : PD (dC, dI) A s.heap [(q0, .inr (9, [.ref q1, .ref q3, .ref q11, .ref q13, .ref q16, .ref q17, .ref q21, .ref q23, .ref q25, .ref q30])), (q1, .inr (5, [.ref q2, .int text_length])), (q2, .inl (cc 1, 200, .inl text_letters)), (q3, .inr (3, [.ref q4, .ref q6, .ref q9, .ref q10, .int w13])), (q4, .inr (4, [.ref q5, .int w3, .int w4])), (q5, .inl (cc 0, 50, .inl w2)), (q6, .inr (6, [.ref q7, .ref q8, .int w7, .int w8])), (q7, .inl (cc 0, 5, .inl w5)), (q8, .inl (cc 0, 5, .inl w6)), (q9, .inr (0, [.int w9, .int w10, .long w11])), (q10, .inl (cc 0, 4, .inl w12))] H locs := hP
  exact ret_i hC hr hlk hP dX9_fault_11 (w2, w3, w4, w5, w6, w7, w8, w9, w10, w11, w12, w13) (Prod.mk.inj (Option.some.inj h)) rfl
set_option maxHeartbeats 8000000 in
set_option maxRecDepth 100000 in
theorem c_X9_clog (l : Launch) (dC : Nat → ClassId) (dI : Nat → Nat → Nat) (cc : Nat → ClassId) (q0 q1 q3 q11 q13 q16 q17 q21 q23 q25 q30 q12 : Nat) (shelf_clogs : Int32) (shelf_day : Int32) (shelf_cells : (Nat → Int32)) (x1 : Int32) (x2 : Int32) (sz : Nat) (ret : Int32) (hu : f_X9_clog x1 x2 shelf_clogs shelf_day shelf_cells = some ret) : Met l yX9_clog (mw yX9_clog cX9_clog 3 (some .int)) ({ frames := 3, cells := 0, slots := 0, locals := 69 } : Room) (va_Pc [.ref q0, .int x1, .int x2] (mP (dC, dI) (ts cc) sz [(q0, .inr (9, [.ref q1, .ref q3, .ref q11, .ref q13, .ref q16, .ref q17, .ref q21, .ref q23, .ref q25, .ref q30])), (q11, .inr (4, [.ref q12, .int shelf_clogs, .int shelf_day])), (q12, .inl (cc 0, 50, .inl shelf_cells))])) ((fun A => va_Qi (fun (r : Int32) (w : Unit) => r = ret ∧ w = ()) (fun (w : Unit) t => va_P (dC, dI) classes [(q0, .inr (9, [.ref q1, .ref q3, .ref q11, .ref q13, .ref q16, .ref q17, .ref q21, .ref q23, .ref q25, .ref q30])), (q11, .inr (4, [.ref q12, .int shelf_clogs, .int shelf_day])), (q12, .inl (cc 0, 50, .inl shelf_cells))] t.heap) A) (va_A [(q0, .inr (9, [.ref q1, .ref q3, .ref q11, .ref q13, .ref q16, .ref q17, .ref q21, .ref q23, .ref q25, .ref q30])), (q11, .inr (4, [.ref q12, .int shelf_clogs, .int shelf_day])), (q12, .inl (cc 0, 50, .inl shelf_cells))] sz)) 0 0 (va_A [(q0, .inr (9, [.ref q1, .ref q3, .ref q11, .ref q13, .ref q16, .ref q17, .ref q21, .ref q23, .ref q25, .ref q30])), (q11, .inr (4, [.ref q12, .int shelf_clogs, .int shelf_day])), (q12, .inl (cc 0, 50, .inl shelf_cells))] sz) := by
  refine met_go (Qc := fun A => va_Qi (fun (r : Int32) (w : Unit) => r = ret ∧ w = ()) (fun (w : Unit) t => va_P (dC, dI) classes [(q0, .inr (9, [.ref q1, .ref q3, .ref q11, .ref q13, .ref q16, .ref q17, .ref q21, .ref q23, .ref q25, .ref q30])), (q11, .inr (4, [.ref q12, .int shelf_clogs, .int shelf_day])), (q12, .inl (cc 0, 50, .inl shelf_cells))] t.heap) A) (by decide) (Nat.le_of_ble_eq_true rfl) ?_
  intro p e s m below meth c A ls H locs hC hr hlk hin hA hP hl _
  have hC : CX p m c cX9_clog 3 s ([.ref q0, .int x1, .int x2] : List Value).toArray RX9 (dC, dI) (ts cc) := hC
  have hx := hC.1.1
  have hb := hC.1.2
  have h := hu
  have hu0 := hu
  unfold f_X9_clog at h
  have hl : lv_has ls 3 [(0, .ref q0), (1, .int x1), (2, .int x2)] := hl
  refine lv_aload_n hx hb dX9_clog_0 rfl (lv_at hl 0 rfl) ?_
  refine g_get hC hP fg_X9_26 0 rfl rfl dX9_clog_1 ?_
  refine lv_iload_n hx hb dX9_clog_4 rfl (lv_at hl 1 rfl) ?_
  obtain ⟨r1, hu, h⟩ := bnd_h h
  refine kc_z (kV hC (c_X4_holds l dC dI cc q11 q12 shelf_clogs shelf_day x1 H.size r1 hu) cv_X9_113 kw454 rfl rfl ⟨(Nat.le_of_ble_eq_true rfl), (Nat.le_of_ble_eq_true rfl)⟩ hP [1] rfl rfl rfl (q0 := 1) rfl (As := [.int x1]) (rest := []) rfl rfl hl.1 (Nat.le_of_ble_eq_true rfl) dX9_clog_5 ⟨Nat.zero_le _, Nat.zero_le _⟩) hP hA [1] rfl rfl (fun hz_r1 H locs hP => ?_)
  have hP : PD (dC, dI) A s.heap [(q0, .inr (9, [.ref q1, .ref q3, .ref q11, .ref q13, .ref q16, .ref q17, .ref q21, .ref q23, .ref q25, .ref q30])), (q11, .inr (4, [.ref q12, .int shelf_clogs, .int shelf_day])), (q12, .inl (cc 0, 50, .inl shelf_cells))] H locs := hP
  refine lv_if_eq (tgt := 20) hx hb dX9_clog_8 (by decide) (fun c2 => ?_) (fun c2 => ?_)
  · have h := if_t c2 h
    refine lv_iconst (v := -1) hx hb dX9_clog_20 (by decide) ?_
    exact ret_i hC hr hlk hP dX9_clog_21 () (⟨Option.some.inj h, rfl⟩) rfl
  · have h := if_f c2 h
    refine lv_iload_n hx hb dX9_clog_11 rfl (lv_at hl 2 rfl) ?_
    refine lv_iconst (v := 0) hx hb dX9_clog_12 (by decide) ?_
    refine lv_iconst (v := 4) hx hb dX9_clog_13 (by decide) ?_
    obtain ⟨r3, hu, h⟩ := bnd_h h
    refine kc_z (kS hC (c_X9_within l dC dI cc x2 0 4 H.size r3 hu) cs_X9_99 kw338 rfl rfl ⟨(Nat.le_of_ble_eq_true rfl), (Nat.le_of_ble_eq_true rfl)⟩ hP [] rfl rfl (As := [.int x2, .int 0, .int 4]) (rest := []) rfl rfl hl.1 (Nat.le_of_ble_eq_true rfl) dX9_clog_14 ⟨Nat.zero_le _, Nat.zero_le _⟩) hP hA [] rfl rfl (fun hz_r3 H locs hP => ?_)
    have hP : PD (dC, dI) A s.heap [(q0, .inr (9, [.ref q1, .ref q3, .ref q11, .ref q13, .ref q16, .ref q17, .ref q21, .ref q23, .ref q25, .ref q30])), (q11, .inr (4, [.ref q12, .int shelf_clogs, .int shelf_day])), (q12, .inl (cc 0, 50, .inl shelf_cells))] H locs := hP
    refine lv_if_ne (tgt := 22) hx hb dX9_clog_17 (by decide) (fun c4 => ?_) (fun c4 => ?_)
    · have h := if_f c4 h
      refine lv_iload_n hx hb dX9_clog_22 rfl (lv_at hl 2 rfl) ?_
      refine lv_iconst (v := 2) hx hb dX9_clog_23 (by decide) ?_
      refine lv_icmp_ne (tgt := 43) hx hb dX9_clog_24 (by decide) (fun c5 => ?_) (fun c5 => ?_)
      · have h := if_f c5 h
        refine lv_iload_n hx hb dX9_clog_43 rfl (lv_at hl 2 rfl) ?_
        refine lv_iconst (v := 3) hx hb dX9_clog_44 (by decide) ?_
        refine lv_icmp_ne (tgt := 64) hx hb dX9_clog_45 (by decide) (fun c6 => ?_) (fun c6 => ?_)
        · have h := if_f c6 h
          refine lv_aload_n hx hb dX9_clog_64 rfl (lv_at hl 0 rfl) ?_
          refine g_get hC hP fg_X9_26 0 rfl rfl dX9_clog_65 ?_
          refine lv_iload_n hx hb dX9_clog_68 rfl (lv_at hl 1 rfl) ?_
          refine lv_iload_n hx hb dX9_clog_69 rfl (lv_at hl 2 rfl) ?_
          obtain ⟨r7, hu, h⟩ := bnd_h h
          refine kc_i (kV hC (c_X4_cell l dC dI cc q11 q12 shelf_clogs shelf_day shelf_cells x1 x2 H.size r7 hu) cv_X9_127 kw463 rfl rfl ⟨(Nat.le_of_ble_eq_true rfl), (Nat.le_of_ble_eq_true rfl)⟩ hP [1, 2] rfl rfl rfl (q0 := 1) rfl (As := [.int x1, .int x2]) (rest := []) rfl rfl hl.1 (Nat.le_of_ble_eq_true rfl) dX9_clog_70 ⟨Nat.zero_le _, Nat.zero_le _⟩) hP hA [1, 2] rfl rfl (fun H locs hP => ?_)
          have hP : PD (dC, dI) A s.heap [(q0, .inr (9, [.ref q1, .ref q3, .ref q11, .ref q13, .ref q16, .ref q17, .ref q21, .ref q23, .ref q25, .ref q30])), (q11, .inr (4, [.ref q12, .int shelf_clogs, .int shelf_day])), (q12, .inl (cc 0, 50, .inl shelf_cells))] H locs := hP
          exact ret_i hC hr hlk hP dX9_clog_73 () (⟨Option.some.inj h, rfl⟩) rfl
        · have h := if_t c6 h
          refine lv_aload_n hx hb dX9_clog_48 rfl (lv_at hl 0 rfl) ?_
          refine g_get hC hP fg_X9_26 0 rfl rfl dX9_clog_49 ?_
          refine lv_iload_n hx hb dX9_clog_52 rfl (lv_at hl 1 rfl) ?_
          refine lv_aload_n hx hb dX9_clog_53 rfl (lv_at hl 0 rfl) ?_
          refine g_get hC hP fg_X9_26 0 rfl rfl dX9_clog_54 ?_
          refine g_get hC hP fg_X9_117 1 rfl rfl dX9_clog_57 ?_
          obtain ⟨r8, hu, h⟩ := bnd_h h
          refine kc_i (kV hC (c_X4_weightOn l dC dI cc q11 q12 shelf_clogs shelf_day shelf_cells x1 shelf_day H.size r8 hu) cv_X9_124 kw473 rfl rfl ⟨(Nat.le_of_ble_eq_true rfl), (Nat.le_of_ble_eq_true rfl)⟩ hP [1, 2] rfl rfl rfl (q0 := 1) rfl (As := [.int x1, .int shelf_day]) (rest := []) rfl rfl hl.1 (Nat.le_of_ble_eq_true rfl) dX9_clog_60 ⟨Nat.zero_le _, Nat.zero_le _⟩) hP hA [1, 2] rfl rfl (fun H locs hP => ?_)
          have hP : PD (dC, dI) A s.heap [(q0, .inr (9, [.ref q1, .ref q3, .ref q11, .ref q13, .ref q16, .ref q17, .ref q21, .ref q23, .ref q25, .ref q30])), (q11, .inr (4, [.ref q12, .int shelf_clogs, .int shelf_day])), (q12, .inl (cc 0, 50, .inl shelf_cells))] H locs := hP
          exact ret_i hC hr hlk hP dX9_clog_63 () (⟨Option.some.inj h, rfl⟩) rfl
      · have h := if_t c5 h
        refine lv_aload_n hx hb dX9_clog_27 rfl (lv_at hl 0 rfl) ?_
        refine g_get hC hP fg_X9_26 0 rfl rfl dX9_clog_28 ?_
        refine lv_iload_n hx hb dX9_clog_31 rfl (lv_at hl 1 rfl) ?_
        refine lv_aload_n hx hb dX9_clog_32 rfl (lv_at hl 0 rfl) ?_
        refine g_get hC hP fg_X9_26 0 rfl rfl dX9_clog_33 ?_
        refine g_get hC hP fg_X9_117 1 rfl rfl dX9_clog_36 ?_
        obtain ⟨r9, hu, h⟩ := bnd_h h
        refine kc_i (kV hC (c_X4_sizeOn l dC dI cc q11 q12 shelf_clogs shelf_day shelf_cells x1 shelf_day H.size r9 hu) cv_X9_120 kw459 rfl rfl ⟨(Nat.le_of_ble_eq_true rfl), (Nat.le_of_ble_eq_true rfl)⟩ hP [1, 2] rfl rfl rfl (q0 := 1) rfl (As := [.int x1, .int shelf_day]) (rest := []) rfl rfl hl.1 (Nat.le_of_ble_eq_true rfl) dX9_clog_39 ⟨Nat.zero_le _, Nat.zero_le _⟩) hP hA [1, 2] rfl rfl (fun H locs hP => ?_)
        have hP : PD (dC, dI) A s.heap [(q0, .inr (9, [.ref q1, .ref q3, .ref q11, .ref q13, .ref q16, .ref q17, .ref q21, .ref q23, .ref q25, .ref q30])), (q11, .inr (4, [.ref q12, .int shelf_clogs, .int shelf_day])), (q12, .inl (cc 0, 50, .inl shelf_cells))] H locs := hP
        exact ret_i hC hr hlk hP dX9_clog_42 () (⟨Option.some.inj h, rfl⟩) rfl
    · have h := if_t c4 h
      refine lv_iconst (v := -1) hx hb dX9_clog_20 (by decide) ?_
      exact ret_i hC hr hlk hP dX9_clog_21 () (⟨Option.some.inj h, rfl⟩) rfl
set_option maxHeartbeats 8000000 in
set_option maxRecDepth 100000 in
theorem c_X9_feet (l : Launch) (dC : Nat → ClassId) (dI : Nat → Nat → Nat) (cc : Nat → ClassId) (q0 q1 q3 q11 q13 q16 q17 q21 q23 q25 q30 q14 q15 : Nat) (waiting_number : Int32) (waiting_stocking : Int32) (waiting_lefts : (Nat → Int32)) (waiting_rights : (Nat → Int32)) (x1 : Int32) (x2 : Int32) (sz : Nat) (ret : Int32) (hu : f_X9_feet x1 x2 waiting_number waiting_lefts waiting_rights = some ret) : Met l yX9_feet (mw yX9_feet cX9_feet 3 (some .int)) ({ frames := 2, cells := 0, slots := 0, locals := 43 } : Room) (va_Pc [.ref q0, .int x1, .int x2] (mP (dC, dI) (ts cc) sz [(q0, .inr (9, [.ref q1, .ref q3, .ref q11, .ref q13, .ref q16, .ref q17, .ref q21, .ref q23, .ref q25, .ref q30])), (q13, .inr (6, [.ref q14, .ref q15, .int waiting_number, .int waiting_stocking])), (q14, .inl (cc 0, 5, .inl waiting_lefts)), (q15, .inl (cc 0, 5, .inl waiting_rights))])) ((fun A => va_Qi (fun (r : Int32) (w : Unit) => r = ret ∧ w = ()) (fun (w : Unit) t => va_P (dC, dI) classes [(q0, .inr (9, [.ref q1, .ref q3, .ref q11, .ref q13, .ref q16, .ref q17, .ref q21, .ref q23, .ref q25, .ref q30])), (q13, .inr (6, [.ref q14, .ref q15, .int waiting_number, .int waiting_stocking])), (q14, .inl (cc 0, 5, .inl waiting_lefts)), (q15, .inl (cc 0, 5, .inl waiting_rights))] t.heap) A) (va_A [(q0, .inr (9, [.ref q1, .ref q3, .ref q11, .ref q13, .ref q16, .ref q17, .ref q21, .ref q23, .ref q25, .ref q30])), (q13, .inr (6, [.ref q14, .ref q15, .int waiting_number, .int waiting_stocking])), (q14, .inl (cc 0, 5, .inl waiting_lefts)), (q15, .inl (cc 0, 5, .inl waiting_rights))] sz)) 0 0 (va_A [(q0, .inr (9, [.ref q1, .ref q3, .ref q11, .ref q13, .ref q16, .ref q17, .ref q21, .ref q23, .ref q25, .ref q30])), (q13, .inr (6, [.ref q14, .ref q15, .int waiting_number, .int waiting_stocking])), (q14, .inl (cc 0, 5, .inl waiting_lefts)), (q15, .inl (cc 0, 5, .inl waiting_rights))] sz) := by
  refine met_go (Qc := fun A => va_Qi (fun (r : Int32) (w : Unit) => r = ret ∧ w = ()) (fun (w : Unit) t => va_P (dC, dI) classes [(q0, .inr (9, [.ref q1, .ref q3, .ref q11, .ref q13, .ref q16, .ref q17, .ref q21, .ref q23, .ref q25, .ref q30])), (q13, .inr (6, [.ref q14, .ref q15, .int waiting_number, .int waiting_stocking])), (q14, .inl (cc 0, 5, .inl waiting_lefts)), (q15, .inl (cc 0, 5, .inl waiting_rights))] t.heap) A) (by decide) (Nat.le_of_ble_eq_true rfl) ?_
  intro p e s m below meth c A ls H locs hC hr hlk hin hA hP hl _
  have hC : CX p m c cX9_feet 3 s ([.ref q0, .int x1, .int x2] : List Value).toArray RX9 (dC, dI) (ts cc) := hC
  have hx := hC.1.1
  have hb := hC.1.2
  have h := hu
  have hu0 := hu
  unfold f_X9_feet at h
  have hl : lv_has ls 3 [(0, .ref q0), (1, .int x1), (2, .int x2)] := hl
  refine lv_iload_n hx hb dX9_feet_0 rfl (lv_at hl 1 rfl) ?_
  refine lv_iconst (v := 0) hx hb dX9_feet_1 (by decide) ?_
  refine lv_aload_n hx hb dX9_feet_2 rfl (lv_at hl 0 rfl) ?_
  refine g_get hC hP fg_X9_33 0 rfl rfl dX9_feet_3 ?_
  refine g_get hC hP fg_X9_130 1 rfl rfl dX9_feet_6 ?_
  refine lv_iconst (v := 1) hx hb dX9_feet_9 (by decide) ?_
  refine lv_isub hx hb dX9_feet_10 ?_
  obtain ⟨r1, hu, h⟩ := bnd_h h
  refine kc_z (kS hC (c_X9_within l dC dI cc x1 0 (waiting_number - 1) H.size r1 hu) cs_X9_99 kw338 rfl rfl ⟨(Nat.le_of_ble_eq_true rfl), (Nat.le_of_ble_eq_true rfl)⟩ hP [] rfl rfl (As := [.int x1, .int 0, .int (waiting_number - 1)]) (rest := []) rfl rfl hl.1 (Nat.le_of_ble_eq_true rfl) dX9_feet_11 ⟨Nat.zero_le _, Nat.zero_le _⟩) hP hA [] rfl rfl (fun hz_r1 H locs hP => ?_)
  have hP : PD (dC, dI) A s.heap [(q0, .inr (9, [.ref q1, .ref q3, .ref q11, .ref q13, .ref q16, .ref q17, .ref q21, .ref q23, .ref q25, .ref q30])), (q13, .inr (6, [.ref q14, .ref q15, .int waiting_number, .int waiting_stocking])), (q14, .inl (cc 0, 5, .inl waiting_lefts)), (q15, .inl (cc 0, 5, .inl waiting_rights))] H locs := hP
  refine lv_if_eq (tgt := 24) hx hb dX9_feet_14 (by decide) (fun c2 => ?_) (fun c2 => ?_)
  · have h := if_t c2 h
    refine lv_iconst (v := -1) hx hb dX9_feet_24 (by decide) ?_
    exact ret_i hC hr hlk hP dX9_feet_25 () (⟨Option.some.inj h, rfl⟩) rfl
  · have h := if_f c2 h
    refine lv_iload_n hx hb dX9_feet_17 rfl (lv_at hl 2 rfl) ?_
    obtain ⟨r3, hu, h⟩ := bnd_h h
    refine kc_z (kS hC (c_X9_isSide l dC dI cc x2 H.size r3 hu) cs_X9_133 kw341 rfl rfl ⟨(Nat.le_of_ble_eq_true rfl), (Nat.le_of_ble_eq_true rfl)⟩ hP [] rfl rfl (As := [.int x2]) (rest := []) rfl rfl hl.1 (Nat.le_of_ble_eq_true rfl) dX9_feet_18 ⟨Nat.zero_le _, Nat.zero_le _⟩) hP hA [] rfl rfl (fun hz_r3 H locs hP => ?_)
    have hP : PD (dC, dI) A s.heap [(q0, .inr (9, [.ref q1, .ref q3, .ref q11, .ref q13, .ref q16, .ref q17, .ref q21, .ref q23, .ref q25, .ref q30])), (q13, .inr (6, [.ref q14, .ref q15, .int waiting_number, .int waiting_stocking])), (q14, .inl (cc 0, 5, .inl waiting_lefts)), (q15, .inl (cc 0, 5, .inl waiting_rights))] H locs := hP
    refine lv_if_ne (tgt := 26) hx hb dX9_feet_21 (by decide) (fun c4 => ?_) (fun c4 => ?_)
    · have h := if_f c4 h
      refine lv_aload_n hx hb dX9_feet_26 rfl (lv_at hl 0 rfl) ?_
      refine g_get hC hP fg_X9_33 0 rfl rfl dX9_feet_27 ?_
      refine lv_iload_n hx hb dX9_feet_30 rfl (lv_at hl 1 rfl) ?_
      refine lv_iload_n hx hb dX9_feet_31 rfl (lv_at hl 2 rfl) ?_
      obtain ⟨r5, hu, h⟩ := bnd_h h
      refine kc_i (kV hC (c_X6_foot l dC dI cc q13 q14 q15 waiting_number waiting_stocking waiting_lefts waiting_rights x1 x2 H.size r5 hu) cv_X9_136 kw482 rfl rfl ⟨(Nat.le_of_ble_eq_true rfl), (Nat.le_of_ble_eq_true rfl)⟩ hP [1, 2, 3] rfl rfl rfl (q0 := 1) rfl (As := [.int x1, .int x2]) (rest := []) rfl rfl hl.1 (Nat.le_of_ble_eq_true rfl) dX9_feet_32 ⟨Nat.zero_le _, Nat.zero_le _⟩) hP hA [1, 2, 3] rfl rfl (fun H locs hP => ?_)
      have hP : PD (dC, dI) A s.heap [(q0, .inr (9, [.ref q1, .ref q3, .ref q11, .ref q13, .ref q16, .ref q17, .ref q21, .ref q23, .ref q25, .ref q30])), (q13, .inr (6, [.ref q14, .ref q15, .int waiting_number, .int waiting_stocking])), (q14, .inl (cc 0, 5, .inl waiting_lefts)), (q15, .inl (cc 0, 5, .inl waiting_rights))] H locs := hP
      exact ret_i hC hr hlk hP dX9_feet_35 () (⟨Option.some.inj h, rfl⟩) rfl
    · have h := if_t c4 h
      refine lv_iconst (v := -1) hx hb dX9_feet_24 (by decide) ?_
      exact ret_i hC hr hlk hP dX9_feet_25 () (⟨Option.some.inj h, rfl⟩) rfl
set_option maxHeartbeats 8000000 in
set_option maxRecDepth 100000 in
theorem c_X9_mates (l : Launch) (dC : Nat → ClassId) (dI : Nat → Nat → Nat) (cc : Nat → ClassId) (q0 q1 q3 q11 q13 q16 q17 q21 q23 q25 q30 q12 : Nat) (shelf_clogs : Int32) (shelf_day : Int32) (shelf_cells : (Nat → Int32)) (x1 : Int32) (sz : Nat) (ret : Int32) (hu : f_X9_mates x1 shelf_clogs shelf_day shelf_cells = some ret) : Met l yX9_mates (mw yX9_mates cX9_mates 2 (some .int)) ({ frames := 5, cells := 0, slots := 0, locals := 115 } : Room) (va_Pc [.ref q0, .int x1] (mP (dC, dI) (ts cc) sz [(q0, .inr (9, [.ref q1, .ref q3, .ref q11, .ref q13, .ref q16, .ref q17, .ref q21, .ref q23, .ref q25, .ref q30])), (q11, .inr (4, [.ref q12, .int shelf_clogs, .int shelf_day])), (q12, .inl (cc 0, 50, .inl shelf_cells))])) ((fun A => va_Qi (fun (r : Int32) (w : Unit) => r = ret ∧ w = ()) (fun (w : Unit) t => va_P (dC, dI) classes [(q0, .inr (9, [.ref q1, .ref q3, .ref q11, .ref q13, .ref q16, .ref q17, .ref q21, .ref q23, .ref q25, .ref q30])), (q11, .inr (4, [.ref q12, .int shelf_clogs, .int shelf_day])), (q12, .inl (cc 0, 50, .inl shelf_cells))] t.heap) A) (va_A [(q0, .inr (9, [.ref q1, .ref q3, .ref q11, .ref q13, .ref q16, .ref q17, .ref q21, .ref q23, .ref q25, .ref q30])), (q11, .inr (4, [.ref q12, .int shelf_clogs, .int shelf_day])), (q12, .inl (cc 0, 50, .inl shelf_cells))] sz)) 0 0 (va_A [(q0, .inr (9, [.ref q1, .ref q3, .ref q11, .ref q13, .ref q16, .ref q17, .ref q21, .ref q23, .ref q25, .ref q30])), (q11, .inr (4, [.ref q12, .int shelf_clogs, .int shelf_day])), (q12, .inl (cc 0, 50, .inl shelf_cells))] sz) := by
  refine met_go (Qc := fun A => va_Qi (fun (r : Int32) (w : Unit) => r = ret ∧ w = ()) (fun (w : Unit) t => va_P (dC, dI) classes [(q0, .inr (9, [.ref q1, .ref q3, .ref q11, .ref q13, .ref q16, .ref q17, .ref q21, .ref q23, .ref q25, .ref q30])), (q11, .inr (4, [.ref q12, .int shelf_clogs, .int shelf_day])), (q12, .inl (cc 0, 50, .inl shelf_cells))] t.heap) A) (by decide) (Nat.le_of_ble_eq_true rfl) ?_
  intro p e s m below meth c A ls H locs hC hr hlk hin hA hP hl _
  have hC : CX p m c cX9_mates 2 s ([.ref q0, .int x1] : List Value).toArray RX9 (dC, dI) (ts cc) := hC
  have hx := hC.1.1
  have hb := hC.1.2
  have h := hu
  have hu0 := hu
  unfold f_X9_mates at h
  have hl : lv_has ls 2 [(0, .ref q0), (1, .int x1)] := hl
  refine lv_aload_n hx hb dX9_mates_0 rfl (lv_at hl 0 rfl) ?_
  refine g_get hC hP fg_X9_26 0 rfl rfl dX9_mates_1 ?_
  refine lv_iload_n hx hb dX9_mates_4 rfl (lv_at hl 1 rfl) ?_
  obtain ⟨r1, hu, h⟩ := bnd_h h
  refine kc_z (kV hC (c_X4_holds l dC dI cc q11 q12 shelf_clogs shelf_day x1 H.size r1 hu) cv_X9_113 kw454 rfl rfl ⟨(Nat.le_of_ble_eq_true rfl), (Nat.le_of_ble_eq_true rfl)⟩ hP [1] rfl rfl rfl (q0 := 1) rfl (As := [.int x1]) (rest := []) rfl rfl hl.1 (Nat.le_of_ble_eq_true rfl) dX9_mates_5 ⟨Nat.zero_le _, Nat.zero_le _⟩) hP hA [1] rfl rfl (fun hz_r1 H locs hP => ?_)
  have hP : PD (dC, dI) A s.heap [(q0, .inr (9, [.ref q1, .ref q3, .ref q11, .ref q13, .ref q16, .ref q17, .ref q21, .ref q23, .ref q25, .ref q30])), (q11, .inr (4, [.ref q12, .int shelf_clogs, .int shelf_day])), (q12, .inl (cc 0, 50, .inl shelf_cells))] H locs := hP
  refine lv_if_ne (tgt := 13) hx hb dX9_mates_8 (by decide) (fun c2 => ?_) (fun c2 => ?_)
  · have h := if_f c2 h
    refine lv_aload_n hx hb dX9_mates_13 rfl (lv_at hl 0 rfl) ?_
    refine g_get hC hP fg_X9_26 0 rfl rfl dX9_mates_14 ?_
    refine lv_iload_n hx hb dX9_mates_17 rfl (lv_at hl 1 rfl) ?_
    obtain ⟨r3, hu, h⟩ := bnd_h h
    refine kc_i (kV hC (c_X4_matesOf l dC dI cc q11 q12 shelf_clogs shelf_day shelf_cells x1 H.size r3 hu) cv_X9_168 kw557 rfl rfl ⟨(Nat.le_of_ble_eq_true rfl), (Nat.le_of_ble_eq_true rfl)⟩ hP [1, 2] rfl rfl rfl (q0 := 1) rfl (As := [.int x1]) (rest := []) rfl rfl hl.1 (Nat.le_of_ble_eq_true rfl) dX9_mates_18 ⟨Nat.zero_le _, Nat.zero_le _⟩) hP hA [1, 2] rfl rfl (fun H locs hP => ?_)
    have hP : PD (dC, dI) A s.heap [(q0, .inr (9, [.ref q1, .ref q3, .ref q11, .ref q13, .ref q16, .ref q17, .ref q21, .ref q23, .ref q25, .ref q30])), (q11, .inr (4, [.ref q12, .int shelf_clogs, .int shelf_day])), (q12, .inl (cc 0, 50, .inl shelf_cells))] H locs := hP
    exact ret_i hC hr hlk hP dX9_mates_21 () (⟨Option.some.inj h, rfl⟩) rfl
  · have h := if_t c2 h
    refine lv_iconst (v := -1) hx hb dX9_mates_11 (by decide) ?_
    exact ret_i hC hr hlk hP dX9_mates_12 () (⟨Option.some.inj h, rfl⟩) rfl
set_option maxHeartbeats 8000000 in
set_option maxRecDepth 100000 in
theorem c_X9_pairs (l : Launch) (dC : Nat → ClassId) (dI : Nat → Nat → Nat) (cc : Nat → ClassId) (q0 q1 q3 q11 q13 q16 q17 q21 q23 q25 q30 q12 q26 q27 q28 q29 : Nat) (shelf_clogs : Int32) (shelf_day : Int32) (shelf_cells : (Nat → Int32)) (pairing_lefts : Int32) (pairing_clogs : Int32) (pairing_number : Int32) (pairing_apart : Int32) (pairing_sets : (Nat → Int32)) (pairing_mates : (Nat → Int32)) (pairing_sizes : (Nat → Int32)) (pairing_partners : (Nat → Int32)) (x1 : Int32) (sz : Nat) (ret : Int32) (o_pairing_sets : (Nat → Int32)) (o_pairing_mates : (Nat → Int32)) (o_pairing_sizes : (Nat → Int32)) (o_pairing_partners : (Nat → Int32)) (o_pairing_lefts : Int32) (o_pairing_clogs : Int32) (o_pairing_number : Int32) (o_pairing_apart : Int32) (hu : f_X9_pairs x1 shelf_clogs shelf_day shelf_cells pairing_lefts pairing_clogs pairing_number pairing_apart pairing_sets pairing_mates pairing_sizes pairing_partners = some (ret, o_pairing_sets, o_pairing_mates, o_pairing_sizes, o_pairing_partners, o_pairing_lefts, o_pairing_clogs, o_pairing_number, o_pairing_apart)) : Met l yX9_pairs (mw yX9_pairs cX9_pairs 2 (some .int)) ({ frames := 6, cells := 0, slots := 0, locals := 137 } : Room) (va_Pc [.ref q0, .int x1] (mP (dC, dI) (ts cc) sz [(q0, .inr (9, [.ref q1, .ref q3, .ref q11, .ref q13, .ref q16, .ref q17, .ref q21, .ref q23, .ref q25, .ref q30])), (q11, .inr (4, [.ref q12, .int shelf_clogs, .int shelf_day])), (q12, .inl (cc 0, 50, .inl shelf_cells)), (q25, .inr (1, [.ref q26, .ref q27, .ref q28, .ref q29, .int pairing_lefts, .int pairing_clogs, .int pairing_number, .int pairing_apart])), (q26, .inl (cc 0, 1024, .inl pairing_sets)), (q27, .inl (cc 0, 10, .inl pairing_mates)), (q28, .inl (cc 0, 10, .inl pairing_sizes)), (q29, .inl (cc 0, 10, .inl pairing_partners))])) ((fun A => va_Qi (fun (r : Int32) (w : (Nat → Int32) × (Nat → Int32) × (Nat → Int32) × (Nat → Int32) × Int32 × Int32 × Int32 × Int32) => r = ret ∧ w = (o_pairing_sets, o_pairing_mates, o_pairing_sizes, o_pairing_partners, o_pairing_lefts, o_pairing_clogs, o_pairing_number, o_pairing_apart)) (fun (w : (Nat → Int32) × (Nat → Int32) × (Nat → Int32) × (Nat → Int32) × Int32 × Int32 × Int32 × Int32) t => va_P (dC, dI) classes [(q0, .inr (9, [.ref q1, .ref q3, .ref q11, .ref q13, .ref q16, .ref q17, .ref q21, .ref q23, .ref q25, .ref q30])), (q11, .inr (4, [.ref q12, .int shelf_clogs, .int shelf_day])), (q12, .inl (cc 0, 50, .inl shelf_cells)), (q25, .inr (1, [.ref q26, .ref q27, .ref q28, .ref q29, .int w.2.2.2.2.1, .int w.2.2.2.2.2.1, .int w.2.2.2.2.2.2.1, .int w.2.2.2.2.2.2.2])), (q26, .inl (cc 0, 1024, .inl w.1)), (q27, .inl (cc 0, 10, .inl w.2.1)), (q28, .inl (cc 0, 10, .inl w.2.2.1)), (q29, .inl (cc 0, 10, .inl w.2.2.2.1))] t.heap) A) (va_A [(q0, .inr (9, [.ref q1, .ref q3, .ref q11, .ref q13, .ref q16, .ref q17, .ref q21, .ref q23, .ref q25, .ref q30])), (q11, .inr (4, [.ref q12, .int shelf_clogs, .int shelf_day])), (q12, .inl (cc 0, 50, .inl shelf_cells)), (q25, .inr (1, [.ref q26, .ref q27, .ref q28, .ref q29, .int pairing_lefts, .int pairing_clogs, .int pairing_number, .int pairing_apart])), (q26, .inl (cc 0, 1024, .inl pairing_sets)), (q27, .inl (cc 0, 10, .inl pairing_mates)), (q28, .inl (cc 0, 10, .inl pairing_sizes)), (q29, .inl (cc 0, 10, .inl pairing_partners))] sz)) 0 0 (va_A [(q0, .inr (9, [.ref q1, .ref q3, .ref q11, .ref q13, .ref q16, .ref q17, .ref q21, .ref q23, .ref q25, .ref q30])), (q11, .inr (4, [.ref q12, .int shelf_clogs, .int shelf_day])), (q12, .inl (cc 0, 50, .inl shelf_cells)), (q25, .inr (1, [.ref q26, .ref q27, .ref q28, .ref q29, .int pairing_lefts, .int pairing_clogs, .int pairing_number, .int pairing_apart])), (q26, .inl (cc 0, 1024, .inl pairing_sets)), (q27, .inl (cc 0, 10, .inl pairing_mates)), (q28, .inl (cc 0, 10, .inl pairing_sizes)), (q29, .inl (cc 0, 10, .inl pairing_partners))] sz) := by
  refine met_go (Qc := fun A => va_Qi (fun (r : Int32) (w : (Nat → Int32) × (Nat → Int32) × (Nat → Int32) × (Nat → Int32) × Int32 × Int32 × Int32 × Int32) => r = ret ∧ w = (o_pairing_sets, o_pairing_mates, o_pairing_sizes, o_pairing_partners, o_pairing_lefts, o_pairing_clogs, o_pairing_number, o_pairing_apart)) (fun (w : (Nat → Int32) × (Nat → Int32) × (Nat → Int32) × (Nat → Int32) × Int32 × Int32 × Int32 × Int32) t => va_P (dC, dI) classes [(q0, .inr (9, [.ref q1, .ref q3, .ref q11, .ref q13, .ref q16, .ref q17, .ref q21, .ref q23, .ref q25, .ref q30])), (q11, .inr (4, [.ref q12, .int shelf_clogs, .int shelf_day])), (q12, .inl (cc 0, 50, .inl shelf_cells)), (q25, .inr (1, [.ref q26, .ref q27, .ref q28, .ref q29, .int w.2.2.2.2.1, .int w.2.2.2.2.2.1, .int w.2.2.2.2.2.2.1, .int w.2.2.2.2.2.2.2])), (q26, .inl (cc 0, 1024, .inl w.1)), (q27, .inl (cc 0, 10, .inl w.2.1)), (q28, .inl (cc 0, 10, .inl w.2.2.1)), (q29, .inl (cc 0, 10, .inl w.2.2.2.1))] t.heap) A) (by decide) (Nat.le_of_ble_eq_true rfl) ?_
  intro p e s m below meth c A ls H locs hC hr hlk hin hA hP hl _
  have hC : CX p m c cX9_pairs 2 s ([.ref q0, .int x1] : List Value).toArray RX9 (dC, dI) (ts cc) := hC
  have hx := hC.1.1
  have hb := hC.1.2
  have h := hu
  have hu0 := hu
  unfold f_X9_pairs at h
  have hl : lv_has ls 2 [(0, .ref q0), (1, .int x1)] := hl
  refine lv_iload_n hx hb dX9_pairs_0 rfl (lv_at hl 1 rfl) ?_
  refine lv_bipush (v := -2) hx hb dX9_pairs_1 (by decide) ?_
  refine lv_aload_n hx hb dX9_pairs_3 rfl (lv_at hl 0 rfl) ?_
  refine g_get hC hP fg_X9_26 0 rfl rfl dX9_pairs_4 ?_
  refine g_get hC hP fg_X9_110 1 rfl rfl dX9_pairs_7 ?_
  refine lv_iconst (v := 1) hx hb dX9_pairs_10 (by decide) ?_
  refine lv_isub hx hb dX9_pairs_11 ?_
  obtain ⟨r1, hu, h⟩ := bnd_h h
  refine kc_z (kS hC (c_X9_within l dC dI cc x1 (-2) (shelf_clogs - 1) H.size r1 hu) cs_X9_99 kw338 rfl rfl ⟨(Nat.le_of_ble_eq_true rfl), (Nat.le_of_ble_eq_true rfl)⟩ hP [] rfl rfl (As := [.int x1, .int (-2), .int (shelf_clogs - 1)]) (rest := []) rfl rfl hl.1 (Nat.le_of_ble_eq_true rfl) dX9_pairs_12 ⟨Nat.zero_le _, Nat.zero_le _⟩) hP hA [] rfl rfl (fun hz_r1 H locs hP => ?_)
  have hP : PD (dC, dI) A s.heap [(q0, .inr (9, [.ref q1, .ref q3, .ref q11, .ref q13, .ref q16, .ref q17, .ref q21, .ref q23, .ref q25, .ref q30])), (q11, .inr (4, [.ref q12, .int shelf_clogs, .int shelf_day])), (q12, .inl (cc 0, 50, .inl shelf_cells)), (q25, .inr (1, [.ref q26, .ref q27, .ref q28, .ref q29, .int pairing_lefts, .int pairing_clogs, .int pairing_number, .int pairing_apart])), (q26, .inl (cc 0, 1024, .inl pairing_sets)), (q27, .inl (cc 0, 10, .inl pairing_mates)), (q28, .inl (cc 0, 10, .inl pairing_sizes)), (q29, .inl (cc 0, 10, .inl pairing_partners))] H locs := hP
  refine lv_if_ne (tgt := 20) hx hb dX9_pairs_15 (by decide) (fun c2 => ?_) (fun c2 => ?_)
  · have h := if_f c2 h
    refine lv_aload_n hx hb dX9_pairs_20 rfl (lv_at hl 0 rfl) ?_
    refine g_get hC hP fg_X9_66 0 rfl rfl dX9_pairs_21 ?_
    refine lv_aload_n hx hb dX9_pairs_24 rfl (lv_at hl 0 rfl) ?_
    refine g_get hC hP fg_X9_26 0 rfl rfl dX9_pairs_25 ?_
    obtain ⟨⟨w3, w4, w5, w6⟩, hu, h⟩ := bnd_h h
    refine kc_v (kV hC (c_X1_look l dC dI cc q25 q26 q27 q28 q29 q11 q12 pairing_lefts pairing_clogs pairing_number pairing_apart pairing_mates pairing_sizes shelf_clogs shelf_day shelf_cells H.size w3 w4 w5 w6 hu) cv_X9_172 kw566 rfl rfl ⟨(Nat.le_of_ble_eq_true rfl), (Nat.le_of_ble_eq_true rfl)⟩ hP [3, 5, 6, 1, 2] rfl rfl rfl (q0 := 3) rfl (As := [.ref q11]) (rest := []) rfl rfl hl.1 (Nat.le_of_ble_eq_true rfl) dX9_pairs_28 ⟨Nat.zero_le _, Nat.zero_le _⟩) hP hA [3, 5, 6, 1, 2] rfl rfl (fun H locs hP => ?_)
    have hP : PD (dC, dI) A s.heap [(q0, .inr (9, [.ref q1, .ref q3, .ref q11, .ref q13, .ref q16, .ref q17, .ref q21, .ref q23, .ref q25, .ref q30])), (q11, .inr (4, [.ref q12, .int shelf_clogs, .int shelf_day])), (q12, .inl (cc 0, 50, .inl shelf_cells)), (q25, .inr (1, [.ref q26, .ref q27, .ref q28, .ref q29, .int w5, .int w6, .int pairing_number, .int pairing_apart])), (q26, .inl (cc 0, 1024, .inl pairing_sets)), (q27, .inl (cc 0, 10, .inl w3)), (q28, .inl (cc 0, 10, .inl w4)), (q29, .inl (cc 0, 10, .inl pairing_partners))] H locs := hP
    refine lv_aload_n hx hb dX9_pairs_31 rfl (lv_at hl 0 rfl) ?_
    refine g_get hC hP fg_X9_66 0 rfl rfl dX9_pairs_32 ?_
    obtain ⟨⟨w7, w8, w9, w10⟩, hu, h⟩ := bnd_h h
    refine kc_v (kV hC (c_X1_match l dC dI cc q25 q26 q27 q28 q29 w5 w6 pairing_number pairing_apart pairing_sets w3 w4 pairing_partners H.size w7 w8 w9 w10 hu) cv_X9_175 kw579 rfl rfl ⟨(Nat.le_of_ble_eq_true rfl), (Nat.le_of_ble_eq_true rfl)⟩ hP [3, 4, 5, 6, 7] rfl rfl rfl (q0 := 3) rfl (As := []) (rest := []) rfl rfl hl.1 (Nat.le_of_ble_eq_true rfl) dX9_pairs_35 ⟨Nat.zero_le _, Nat.zero_le _⟩) hP hA [3, 4, 5, 6, 7] rfl rfl (fun H locs hP => ?_)
    have hP : PD (dC, dI) A s.heap [(q0, .inr (9, [.ref q1, .ref q3, .ref q11, .ref q13, .ref q16, .ref q17, .ref q21, .ref q23, .ref q25, .ref q30])), (q11, .inr (4, [.ref q12, .int shelf_clogs, .int shelf_day])), (q12, .inl (cc 0, 50, .inl shelf_cells)), (q25, .inr (1, [.ref q26, .ref q27, .ref q28, .ref q29, .int w5, .int w6, .int w9, .int w10])), (q26, .inl (cc 0, 1024, .inl w7)), (q27, .inl (cc 0, 10, .inl w3)), (q28, .inl (cc 0, 10, .inl w4)), (q29, .inl (cc 0, 10, .inl w8))] H locs := hP
    refine lv_iload_n hx hb dX9_pairs_38 rfl (lv_at hl 1 rfl) ?_
    refine lv_iconst (v := -1) hx hb dX9_pairs_39 (by decide) ?_
    refine lv_icmp_ne (tgt := 51) hx hb dX9_pairs_40 (by decide) (fun c11 => ?_) (fun c11 => ?_)
    · have h := if_f c11 h
      refine lv_iload_n hx hb dX9_pairs_51 rfl (lv_at hl 1 rfl) ?_
      refine lv_bipush (v := -2) hx hb dX9_pairs_52 (by decide) ?_
      refine lv_icmp_ne (tgt := 65) hx hb dX9_pairs_54 (by decide) (fun c12 => ?_) (fun c12 => ?_)
      · have h := if_f c12 h
        refine lv_aload_n hx hb dX9_pairs_65 rfl (lv_at hl 0 rfl) ?_
        refine g_get hC hP fg_X9_66 0 rfl rfl dX9_pairs_66 ?_
        refine lv_iload_n hx hb dX9_pairs_69 rfl (lv_at hl 1 rfl) ?_
        obtain ⟨r13, hu, h⟩ := bnd_h h
        refine kc_i (kV hC (c_X1_partnerOf l dC dI cc q25 q26 q27 q28 q29 w5 w6 w9 w10 w8 x1 H.size r13 hu) cv_X9_182 kw611 rfl rfl ⟨(Nat.le_of_ble_eq_true rfl), (Nat.le_of_ble_eq_true rfl)⟩ hP [3, 7] rfl rfl rfl (q0 := 3) rfl (As := [.int x1]) (rest := []) rfl rfl hl.1 (Nat.le_of_ble_eq_true rfl) dX9_pairs_70 ⟨Nat.zero_le _, Nat.zero_le _⟩) hP hA [3, 7] rfl rfl (fun H locs hP => ?_)
        have hP : PD (dC, dI) A s.heap [(q0, .inr (9, [.ref q1, .ref q3, .ref q11, .ref q13, .ref q16, .ref q17, .ref q21, .ref q23, .ref q25, .ref q30])), (q11, .inr (4, [.ref q12, .int shelf_clogs, .int shelf_day])), (q12, .inl (cc 0, 50, .inl shelf_cells)), (q25, .inr (1, [.ref q26, .ref q27, .ref q28, .ref q29, .int w5, .int w6, .int w9, .int w10])), (q26, .inl (cc 0, 1024, .inl w7)), (q27, .inl (cc 0, 10, .inl w3)), (q28, .inl (cc 0, 10, .inl w4)), (q29, .inl (cc 0, 10, .inl w8))] H locs := hP
        exact ret_i hC hr hlk hP dX9_pairs_73 (w7, w3, w4, w8, w5, w6, w9, w10) (Prod.mk.inj (Option.some.inj h)) rfl
      · have h := if_t c12 h
        refine lv_aload_n hx hb dX9_pairs_57 rfl (lv_at hl 0 rfl) ?_
        refine g_get hC hP fg_X9_66 0 rfl rfl dX9_pairs_58 ?_
        refine g_get hC hP fg_X9_179 3 rfl rfl dX9_pairs_61 ?_
        exact ret_i hC hr hlk hP dX9_pairs_64 (w7, w3, w4, w8, w5, w6, w9, w10) (Prod.mk.inj (Option.some.inj h)) rfl
    · have h := if_t c11 h
      refine lv_aload_n hx hb dX9_pairs_43 rfl (lv_at hl 0 rfl) ?_
      refine g_get hC hP fg_X9_66 0 rfl rfl dX9_pairs_44 ?_
      refine g_get hC hP fg_X9_178 3 rfl rfl dX9_pairs_47 ?_
      exact ret_i hC hr hlk hP dX9_pairs_50 (w7, w3, w4, w8, w5, w6, w9, w10) (Prod.mk.inj (Option.some.inj h)) rfl
  · have h := if_t c2 h
    refine lv_iconst (v := -1) hx hb dX9_pairs_18 (by decide) ?_
    exact ret_i hC hr hlk hP dX9_pairs_19 (pairing_sets, pairing_mates, pairing_sizes, pairing_partners, pairing_lefts, pairing_clogs, pairing_number, pairing_apart) (Prod.mk.inj (Option.some.inj h)) rfl
set_option maxHeartbeats 8000000 in
set_option maxRecDepth 100000 in
theorem c_X9_leftOver (l : Launch) (dC : Nat → ClassId) (dI : Nat → Nat → Nat) (cc : Nat → ClassId) (q0 q1 q3 q11 q13 q16 q17 q21 q23 q25 q30 q12 q26 q27 q28 q29 : Nat) (shelf_clogs : Int32) (shelf_day : Int32) (shelf_cells : (Nat → Int32)) (pairing_lefts : Int32) (pairing_clogs : Int32) (pairing_number : Int32) (pairing_apart : Int32) (pairing_sets : (Nat → Int32)) (pairing_mates : (Nat → Int32)) (pairing_sizes : (Nat → Int32)) (pairing_partners : (Nat → Int32)) (x1 : Int32) (sz : Nat) (ret : Int32) (o_pairing_sets : (Nat → Int32)) (o_pairing_mates : (Nat → Int32)) (o_pairing_sizes : (Nat → Int32)) (o_pairing_partners : (Nat → Int32)) (o_pairing_lefts : Int32) (o_pairing_clogs : Int32) (o_pairing_number : Int32) (o_pairing_apart : Int32) (hu : f_X9_leftOver x1 shelf_clogs shelf_day shelf_cells pairing_lefts pairing_clogs pairing_number pairing_apart pairing_sets pairing_mates pairing_sizes pairing_partners = some (ret, o_pairing_sets, o_pairing_mates, o_pairing_sizes, o_pairing_partners, o_pairing_lefts, o_pairing_clogs, o_pairing_number, o_pairing_apart)) : Met l yX9_leftOver (mw yX9_leftOver cX9_leftOver 2 (some .int)) ({ frames := 6, cells := 0, slots := 0, locals := 137 } : Room) (va_Pc [.ref q0, .int x1] (mP (dC, dI) (ts cc) sz [(q0, .inr (9, [.ref q1, .ref q3, .ref q11, .ref q13, .ref q16, .ref q17, .ref q21, .ref q23, .ref q25, .ref q30])), (q11, .inr (4, [.ref q12, .int shelf_clogs, .int shelf_day])), (q12, .inl (cc 0, 50, .inl shelf_cells)), (q25, .inr (1, [.ref q26, .ref q27, .ref q28, .ref q29, .int pairing_lefts, .int pairing_clogs, .int pairing_number, .int pairing_apart])), (q26, .inl (cc 0, 1024, .inl pairing_sets)), (q27, .inl (cc 0, 10, .inl pairing_mates)), (q28, .inl (cc 0, 10, .inl pairing_sizes)), (q29, .inl (cc 0, 10, .inl pairing_partners))])) ((fun A => va_Qi (fun (r : Int32) (w : (Nat → Int32) × (Nat → Int32) × (Nat → Int32) × (Nat → Int32) × Int32 × Int32 × Int32 × Int32) => r = ret ∧ w = (o_pairing_sets, o_pairing_mates, o_pairing_sizes, o_pairing_partners, o_pairing_lefts, o_pairing_clogs, o_pairing_number, o_pairing_apart)) (fun (w : (Nat → Int32) × (Nat → Int32) × (Nat → Int32) × (Nat → Int32) × Int32 × Int32 × Int32 × Int32) t => va_P (dC, dI) classes [(q0, .inr (9, [.ref q1, .ref q3, .ref q11, .ref q13, .ref q16, .ref q17, .ref q21, .ref q23, .ref q25, .ref q30])), (q11, .inr (4, [.ref q12, .int shelf_clogs, .int shelf_day])), (q12, .inl (cc 0, 50, .inl shelf_cells)), (q25, .inr (1, [.ref q26, .ref q27, .ref q28, .ref q29, .int w.2.2.2.2.1, .int w.2.2.2.2.2.1, .int w.2.2.2.2.2.2.1, .int w.2.2.2.2.2.2.2])), (q26, .inl (cc 0, 1024, .inl w.1)), (q27, .inl (cc 0, 10, .inl w.2.1)), (q28, .inl (cc 0, 10, .inl w.2.2.1)), (q29, .inl (cc 0, 10, .inl w.2.2.2.1))] t.heap) A) (va_A [(q0, .inr (9, [.ref q1, .ref q3, .ref q11, .ref q13, .ref q16, .ref q17, .ref q21, .ref q23, .ref q25, .ref q30])), (q11, .inr (4, [.ref q12, .int shelf_clogs, .int shelf_day])), (q12, .inl (cc 0, 50, .inl shelf_cells)), (q25, .inr (1, [.ref q26, .ref q27, .ref q28, .ref q29, .int pairing_lefts, .int pairing_clogs, .int pairing_number, .int pairing_apart])), (q26, .inl (cc 0, 1024, .inl pairing_sets)), (q27, .inl (cc 0, 10, .inl pairing_mates)), (q28, .inl (cc 0, 10, .inl pairing_sizes)), (q29, .inl (cc 0, 10, .inl pairing_partners))] sz)) 0 0 (va_A [(q0, .inr (9, [.ref q1, .ref q3, .ref q11, .ref q13, .ref q16, .ref q17, .ref q21, .ref q23, .ref q25, .ref q30])), (q11, .inr (4, [.ref q12, .int shelf_clogs, .int shelf_day])), (q12, .inl (cc 0, 50, .inl shelf_cells)), (q25, .inr (1, [.ref q26, .ref q27, .ref q28, .ref q29, .int pairing_lefts, .int pairing_clogs, .int pairing_number, .int pairing_apart])), (q26, .inl (cc 0, 1024, .inl pairing_sets)), (q27, .inl (cc 0, 10, .inl pairing_mates)), (q28, .inl (cc 0, 10, .inl pairing_sizes)), (q29, .inl (cc 0, 10, .inl pairing_partners))] sz) := by
  refine met_go (Qc := fun A => va_Qi (fun (r : Int32) (w : (Nat → Int32) × (Nat → Int32) × (Nat → Int32) × (Nat → Int32) × Int32 × Int32 × Int32 × Int32) => r = ret ∧ w = (o_pairing_sets, o_pairing_mates, o_pairing_sizes, o_pairing_partners, o_pairing_lefts, o_pairing_clogs, o_pairing_number, o_pairing_apart)) (fun (w : (Nat → Int32) × (Nat → Int32) × (Nat → Int32) × (Nat → Int32) × Int32 × Int32 × Int32 × Int32) t => va_P (dC, dI) classes [(q0, .inr (9, [.ref q1, .ref q3, .ref q11, .ref q13, .ref q16, .ref q17, .ref q21, .ref q23, .ref q25, .ref q30])), (q11, .inr (4, [.ref q12, .int shelf_clogs, .int shelf_day])), (q12, .inl (cc 0, 50, .inl shelf_cells)), (q25, .inr (1, [.ref q26, .ref q27, .ref q28, .ref q29, .int w.2.2.2.2.1, .int w.2.2.2.2.2.1, .int w.2.2.2.2.2.2.1, .int w.2.2.2.2.2.2.2])), (q26, .inl (cc 0, 1024, .inl w.1)), (q27, .inl (cc 0, 10, .inl w.2.1)), (q28, .inl (cc 0, 10, .inl w.2.2.1)), (q29, .inl (cc 0, 10, .inl w.2.2.2.1))] t.heap) A) (by decide) (Nat.le_of_ble_eq_true rfl) ?_
  intro p e s m below meth c A ls H locs hC hr hlk hin hA hP hl _
  have hC : CX p m c cX9_leftOver 2 s ([.ref q0, .int x1] : List Value).toArray RX9 (dC, dI) (ts cc) := hC
  have hx := hC.1.1
  have hb := hC.1.2
  have h := hu
  have hu0 := hu
  unfold f_X9_leftOver at h
  have hl : lv_has ls 2 [(0, .ref q0), (1, .int x1)] := hl
  refine lv_iload_n hx hb dX9_leftOver_0 rfl (lv_at hl 1 rfl) ?_
  obtain ⟨r1, hu, h⟩ := bnd_h h
  refine kc_z (kS hC (c_X9_isSide l dC dI cc x1 H.size r1 hu) cs_X9_133 kw341 rfl rfl ⟨(Nat.le_of_ble_eq_true rfl), (Nat.le_of_ble_eq_true rfl)⟩ hP [] rfl rfl (As := [.int x1]) (rest := []) rfl rfl hl.1 (Nat.le_of_ble_eq_true rfl) dX9_leftOver_1 ⟨Nat.zero_le _, Nat.zero_le _⟩) hP hA [] rfl rfl (fun hz_r1 H locs hP => ?_)
  have hP : PD (dC, dI) A s.heap [(q0, .inr (9, [.ref q1, .ref q3, .ref q11, .ref q13, .ref q16, .ref q17, .ref q21, .ref q23, .ref q25, .ref q30])), (q11, .inr (4, [.ref q12, .int shelf_clogs, .int shelf_day])), (q12, .inl (cc 0, 50, .inl shelf_cells)), (q25, .inr (1, [.ref q26, .ref q27, .ref q28, .ref q29, .int pairing_lefts, .int pairing_clogs, .int pairing_number, .int pairing_apart])), (q26, .inl (cc 0, 1024, .inl pairing_sets)), (q27, .inl (cc 0, 10, .inl pairing_mates)), (q28, .inl (cc 0, 10, .inl pairing_sizes)), (q29, .inl (cc 0, 10, .inl pairing_partners))] H locs := hP
  refine lv_if_ne (tgt := 9) hx hb dX9_leftOver_4 (by decide) (fun c2 => ?_) (fun c2 => ?_)
  · have h := if_f c2 h
    refine lv_aload_n hx hb dX9_leftOver_9 rfl (lv_at hl 0 rfl) ?_
    refine g_get hC hP fg_X9_66 0 rfl rfl dX9_leftOver_10 ?_
    refine lv_aload_n hx hb dX9_leftOver_13 rfl (lv_at hl 0 rfl) ?_
    refine g_get hC hP fg_X9_26 0 rfl rfl dX9_leftOver_14 ?_
    obtain ⟨⟨w3, w4, w5, w6⟩, hu, h⟩ := bnd_h h
    refine kc_v (kV hC (c_X1_look l dC dI cc q25 q26 q27 q28 q29 q11 q12 pairing_lefts pairing_clogs pairing_number pairing_apart pairing_mates pairing_sizes shelf_clogs shelf_day shelf_cells H.size w3 w4 w5 w6 hu) cv_X9_172 kw566 rfl rfl ⟨(Nat.le_of_ble_eq_true rfl), (Nat.le_of_ble_eq_true rfl)⟩ hP [3, 5, 6, 1, 2] rfl rfl rfl (q0 := 3) rfl (As := [.ref q11]) (rest := []) rfl rfl hl.1 (Nat.le_of_ble_eq_true rfl) dX9_leftOver_17 ⟨Nat.zero_le _, Nat.zero_le _⟩) hP hA [3, 5, 6, 1, 2] rfl rfl (fun H locs hP => ?_)
    have hP : PD (dC, dI) A s.heap [(q0, .inr (9, [.ref q1, .ref q3, .ref q11, .ref q13, .ref q16, .ref q17, .ref q21, .ref q23, .ref q25, .ref q30])), (q11, .inr (4, [.ref q12, .int shelf_clogs, .int shelf_day])), (q12, .inl (cc 0, 50, .inl shelf_cells)), (q25, .inr (1, [.ref q26, .ref q27, .ref q28, .ref q29, .int w5, .int w6, .int pairing_number, .int pairing_apart])), (q26, .inl (cc 0, 1024, .inl pairing_sets)), (q27, .inl (cc 0, 10, .inl w3)), (q28, .inl (cc 0, 10, .inl w4)), (q29, .inl (cc 0, 10, .inl pairing_partners))] H locs := hP
    refine lv_aload_n hx hb dX9_leftOver_20 rfl (lv_at hl 0 rfl) ?_
    refine g_get hC hP fg_X9_66 0 rfl rfl dX9_leftOver_21 ?_
    obtain ⟨⟨w7, w8, w9, w10⟩, hu, h⟩ := bnd_h h
    refine kc_v (kV hC (c_X1_match l dC dI cc q25 q26 q27 q28 q29 w5 w6 pairing_number pairing_apart pairing_sets w3 w4 pairing_partners H.size w7 w8 w9 w10 hu) cv_X9_175 kw579 rfl rfl ⟨(Nat.le_of_ble_eq_true rfl), (Nat.le_of_ble_eq_true rfl)⟩ hP [3, 4, 5, 6, 7] rfl rfl rfl (q0 := 3) rfl (As := []) (rest := []) rfl rfl hl.1 (Nat.le_of_ble_eq_true rfl) dX9_leftOver_24 ⟨Nat.zero_le _, Nat.zero_le _⟩) hP hA [3, 4, 5, 6, 7] rfl rfl (fun H locs hP => ?_)
    have hP : PD (dC, dI) A s.heap [(q0, .inr (9, [.ref q1, .ref q3, .ref q11, .ref q13, .ref q16, .ref q17, .ref q21, .ref q23, .ref q25, .ref q30])), (q11, .inr (4, [.ref q12, .int shelf_clogs, .int shelf_day])), (q12, .inl (cc 0, 50, .inl shelf_cells)), (q25, .inr (1, [.ref q26, .ref q27, .ref q28, .ref q29, .int w5, .int w6, .int w9, .int w10])), (q26, .inl (cc 0, 1024, .inl w7)), (q27, .inl (cc 0, 10, .inl w3)), (q28, .inl (cc 0, 10, .inl w4)), (q29, .inl (cc 0, 10, .inl w8))] H locs := hP
    refine lv_aload_n hx hb dX9_leftOver_27 rfl (lv_at hl 0 rfl) ?_
    refine g_get hC hP fg_X9_26 0 rfl rfl dX9_leftOver_28 ?_
    refine lv_iload_n hx hb dX9_leftOver_31 rfl (lv_at hl 1 rfl) ?_
    obtain ⟨r11, hu, h⟩ := bnd_h h
    refine kc_i (kV hC (c_X4_ofSide l dC dI cc q11 q12 shelf_clogs shelf_day shelf_cells x1 H.size r11 hu) cv_X9_185 kw572 rfl rfl ⟨(Nat.le_of_ble_eq_true rfl), (Nat.le_of_ble_eq_true rfl)⟩ hP [1, 2] rfl rfl rfl (q0 := 1) rfl (As := [.int x1]) (rest := []) rfl rfl hl.1 (Nat.le_of_ble_eq_true rfl) dX9_leftOver_32 ⟨Nat.zero_le _, Nat.zero_le _⟩) hP hA [1, 2] rfl rfl (fun H locs hP => ?_)
    have hP : PD (dC, dI) A s.heap [(q0, .inr (9, [.ref q1, .ref q3, .ref q11, .ref q13, .ref q16, .ref q17, .ref q21, .ref q23, .ref q25, .ref q30])), (q11, .inr (4, [.ref q12, .int shelf_clogs, .int shelf_day])), (q12, .inl (cc 0, 50, .inl shelf_cells)), (q25, .inr (1, [.ref q26, .ref q27, .ref q28, .ref q29, .int w5, .int w6, .int w9, .int w10])), (q26, .inl (cc 0, 1024, .inl w7)), (q27, .inl (cc 0, 10, .inl w3)), (q28, .inl (cc 0, 10, .inl w4)), (q29, .inl (cc 0, 10, .inl w8))] H locs := hP
    obtain ⟨r12, hu, h⟩ := bnd_h h
    refine kc_i (kS hC (c_J6_bitCount_0f7a4 l dC dI cc r11 H.size r12 hu) cs_X9_188 kw619 rfl rfl ⟨(Nat.le_of_ble_eq_true rfl), (Nat.le_of_ble_eq_true rfl)⟩ hP [] rfl rfl (As := [.int r11]) (rest := []) rfl rfl hl.1 (Nat.le_of_ble_eq_true rfl) dX9_leftOver_35 ⟨Nat.zero_le _, Nat.zero_le _⟩) hP hA [] rfl rfl (fun H locs hP => ?_)
    have hP : PD (dC, dI) A s.heap [(q0, .inr (9, [.ref q1, .ref q3, .ref q11, .ref q13, .ref q16, .ref q17, .ref q21, .ref q23, .ref q25, .ref q30])), (q11, .inr (4, [.ref q12, .int shelf_clogs, .int shelf_day])), (q12, .inl (cc 0, 50, .inl shelf_cells)), (q25, .inr (1, [.ref q26, .ref q27, .ref q28, .ref q29, .int w5, .int w6, .int w9, .int w10])), (q26, .inl (cc 0, 1024, .inl w7)), (q27, .inl (cc 0, 10, .inl w3)), (q28, .inl (cc 0, 10, .inl w4)), (q29, .inl (cc 0, 10, .inl w8))] H locs := hP
    refine lv_aload_n hx hb dX9_leftOver_38 rfl (lv_at hl 0 rfl) ?_
    refine g_get hC hP fg_X9_66 0 rfl rfl dX9_leftOver_39 ?_
    refine g_get hC hP fg_X9_178 3 rfl rfl dX9_leftOver_42 ?_
    refine lv_isub hx hb dX9_leftOver_45 ?_
    exact ret_i hC hr hlk hP dX9_leftOver_46 (w7, w3, w4, w8, w5, w6, w9, w10) (Prod.mk.inj (Option.some.inj h)) rfl
  · have h := if_t c2 h
    refine lv_iconst (v := -1) hx hb dX9_leftOver_7 (by decide) ?_
    exact ret_i hC hr hlk hP dX9_leftOver_8 (pairing_sets, pairing_mates, pairing_sizes, pairing_partners, pairing_lefts, pairing_clogs, pairing_number, pairing_apart) (Prod.mk.inj (Option.some.inj h)) rfl
set_option maxHeartbeats 8000000 in
set_option maxRecDepth 100000 in
theorem c_X9_served (l : Launch) (dC : Nat → ClassId) (dI : Nat → Nat → Nat) (cc : Nat → ClassId) (q0 q1 q3 q11 q13 q16 q17 q21 q23 q25 q30 q12 q14 q15 q26 q27 q28 q29 : Nat) (shelf_clogs : Int32) (shelf_day : Int32) (shelf_cells : (Nat → Int32)) (waiting_number : Int32) (waiting_stocking : Int32) (waiting_lefts : (Nat → Int32)) (waiting_rights : (Nat → Int32)) (pairing_lefts : Int32) (pairing_clogs : Int32) (pairing_number : Int32) (pairing_apart : Int32) (pairing_sets : (Nat → Int32)) (pairing_mates : (Nat → Int32)) (pairing_sizes : (Nat → Int32)) (sz : Nat) (ret : Int32) (o_pairing_sets : (Nat → Int32)) (o_pairing_mates : (Nat → Int32)) (o_pairing_sizes : (Nat → Int32)) (o_pairing_lefts : Int32) (o_pairing_clogs : Int32) (hu : f_X9_served shelf_clogs shelf_day shelf_cells waiting_number waiting_stocking waiting_lefts waiting_rights pairing_sets pairing_mates pairing_sizes = some (ret, o_pairing_sets, o_pairing_mates, o_pairing_sizes, o_pairing_lefts, o_pairing_clogs)) : Met l yX9_served (mw yX9_served cX9_served 1 (some .int)) ({ frames := 6, cells := 0, slots := 0, locals := 137 } : Room) (va_Pc [.ref q0] (mP (dC, dI) (ts cc) sz [(q0, .inr (9, [.ref q1, .ref q3, .ref q11, .ref q13, .ref q16, .ref q17, .ref q21, .ref q23, .ref q25, .ref q30])), (q11, .inr (4, [.ref q12, .int shelf_clogs, .int shelf_day])), (q12, .inl (cc 0, 50, .inl shelf_cells)), (q13, .inr (6, [.ref q14, .ref q15, .int waiting_number, .int waiting_stocking])), (q14, .inl (cc 0, 5, .inl waiting_lefts)), (q15, .inl (cc 0, 5, .inl waiting_rights)), (q25, .inr (1, [.ref q26, .ref q27, .ref q28, .ref q29, .int pairing_lefts, .int pairing_clogs, .int pairing_number, .int pairing_apart])), (q26, .inl (cc 0, 1024, .inl pairing_sets)), (q27, .inl (cc 0, 10, .inl pairing_mates)), (q28, .inl (cc 0, 10, .inl pairing_sizes))])) ((fun A => va_Qi (fun (r : Int32) (w : (Nat → Int32) × (Nat → Int32) × (Nat → Int32) × Int32 × Int32) => r = ret ∧ w = (o_pairing_sets, o_pairing_mates, o_pairing_sizes, o_pairing_lefts, o_pairing_clogs)) (fun (w : (Nat → Int32) × (Nat → Int32) × (Nat → Int32) × Int32 × Int32) t => va_P (dC, dI) classes [(q0, .inr (9, [.ref q1, .ref q3, .ref q11, .ref q13, .ref q16, .ref q17, .ref q21, .ref q23, .ref q25, .ref q30])), (q11, .inr (4, [.ref q12, .int shelf_clogs, .int shelf_day])), (q12, .inl (cc 0, 50, .inl shelf_cells)), (q13, .inr (6, [.ref q14, .ref q15, .int waiting_number, .int waiting_stocking])), (q14, .inl (cc 0, 5, .inl waiting_lefts)), (q15, .inl (cc 0, 5, .inl waiting_rights)), (q25, .inr (1, [.ref q26, .ref q27, .ref q28, .ref q29, .int w.2.2.2.1, .int w.2.2.2.2, .int pairing_number, .int pairing_apart])), (q26, .inl (cc 0, 1024, .inl w.1)), (q27, .inl (cc 0, 10, .inl w.2.1)), (q28, .inl (cc 0, 10, .inl w.2.2.1))] t.heap) A) (va_A [(q0, .inr (9, [.ref q1, .ref q3, .ref q11, .ref q13, .ref q16, .ref q17, .ref q21, .ref q23, .ref q25, .ref q30])), (q11, .inr (4, [.ref q12, .int shelf_clogs, .int shelf_day])), (q12, .inl (cc 0, 50, .inl shelf_cells)), (q13, .inr (6, [.ref q14, .ref q15, .int waiting_number, .int waiting_stocking])), (q14, .inl (cc 0, 5, .inl waiting_lefts)), (q15, .inl (cc 0, 5, .inl waiting_rights)), (q25, .inr (1, [.ref q26, .ref q27, .ref q28, .ref q29, .int pairing_lefts, .int pairing_clogs, .int pairing_number, .int pairing_apart])), (q26, .inl (cc 0, 1024, .inl pairing_sets)), (q27, .inl (cc 0, 10, .inl pairing_mates)), (q28, .inl (cc 0, 10, .inl pairing_sizes))] sz)) 0 0 (va_A [(q0, .inr (9, [.ref q1, .ref q3, .ref q11, .ref q13, .ref q16, .ref q17, .ref q21, .ref q23, .ref q25, .ref q30])), (q11, .inr (4, [.ref q12, .int shelf_clogs, .int shelf_day])), (q12, .inl (cc 0, 50, .inl shelf_cells)), (q13, .inr (6, [.ref q14, .ref q15, .int waiting_number, .int waiting_stocking])), (q14, .inl (cc 0, 5, .inl waiting_lefts)), (q15, .inl (cc 0, 5, .inl waiting_rights)), (q25, .inr (1, [.ref q26, .ref q27, .ref q28, .ref q29, .int pairing_lefts, .int pairing_clogs, .int pairing_number, .int pairing_apart])), (q26, .inl (cc 0, 1024, .inl pairing_sets)), (q27, .inl (cc 0, 10, .inl pairing_mates)), (q28, .inl (cc 0, 10, .inl pairing_sizes))] sz) := by
  refine met_go (Qc := fun A => va_Qi (fun (r : Int32) (w : (Nat → Int32) × (Nat → Int32) × (Nat → Int32) × Int32 × Int32) => r = ret ∧ w = (o_pairing_sets, o_pairing_mates, o_pairing_sizes, o_pairing_lefts, o_pairing_clogs)) (fun (w : (Nat → Int32) × (Nat → Int32) × (Nat → Int32) × Int32 × Int32) t => va_P (dC, dI) classes [(q0, .inr (9, [.ref q1, .ref q3, .ref q11, .ref q13, .ref q16, .ref q17, .ref q21, .ref q23, .ref q25, .ref q30])), (q11, .inr (4, [.ref q12, .int shelf_clogs, .int shelf_day])), (q12, .inl (cc 0, 50, .inl shelf_cells)), (q13, .inr (6, [.ref q14, .ref q15, .int waiting_number, .int waiting_stocking])), (q14, .inl (cc 0, 5, .inl waiting_lefts)), (q15, .inl (cc 0, 5, .inl waiting_rights)), (q25, .inr (1, [.ref q26, .ref q27, .ref q28, .ref q29, .int w.2.2.2.1, .int w.2.2.2.2, .int pairing_number, .int pairing_apart])), (q26, .inl (cc 0, 1024, .inl w.1)), (q27, .inl (cc 0, 10, .inl w.2.1)), (q28, .inl (cc 0, 10, .inl w.2.2.1))] t.heap) A) (by decide) (Nat.le_of_ble_eq_true rfl) ?_
  intro p e s m below meth c A ls H locs hC hr hlk hin hA hP hl _
  have hC : CX p m c cX9_served 1 s ([.ref q0] : List Value).toArray RX9 (dC, dI) (ts cc) := hC
  have hx := hC.1.1
  have hb := hC.1.2
  have h := hu
  have hu0 := hu
  unfold f_X9_served at h
  have hl : lv_has ls 1 [(0, .ref q0)] := hl
  refine lv_aload_n hx hb dX9_served_0 rfl (lv_at hl 0 rfl) ?_
  refine g_get hC hP fg_X9_66 0 rfl rfl dX9_served_1 ?_
  refine lv_aload_n hx hb dX9_served_4 rfl (lv_at hl 0 rfl) ?_
  refine g_get hC hP fg_X9_26 0 rfl rfl dX9_served_5 ?_
  obtain ⟨⟨w1, w2, w3, w4⟩, hu, h⟩ := bnd_h h
  refine kc_v (kV hC (c_X1_look l dC dI cc q25 q26 q27 q28 q29 q11 q12 pairing_lefts pairing_clogs pairing_number pairing_apart pairing_mates pairing_sizes shelf_clogs shelf_day shelf_cells H.size w1 w2 w3 w4 hu) cv_X9_172 kw566 rfl rfl ⟨(Nat.le_of_ble_eq_true rfl), (Nat.le_of_ble_eq_true rfl)⟩ hP [6, 8, 9, 1, 2] rfl rfl rfl (q0 := 6) rfl (As := [.ref q11]) (rest := []) rfl rfl hl.1 (Nat.le_of_ble_eq_true rfl) dX9_served_8 ⟨Nat.zero_le _, Nat.zero_le _⟩) hP hA [6, 8, 9, 1, 2] rfl rfl (fun H locs hP => ?_)
  have hP : PD (dC, dI) A s.heap [(q0, .inr (9, [.ref q1, .ref q3, .ref q11, .ref q13, .ref q16, .ref q17, .ref q21, .ref q23, .ref q25, .ref q30])), (q11, .inr (4, [.ref q12, .int shelf_clogs, .int shelf_day])), (q12, .inl (cc 0, 50, .inl shelf_cells)), (q13, .inr (6, [.ref q14, .ref q15, .int waiting_number, .int waiting_stocking])), (q14, .inl (cc 0, 5, .inl waiting_lefts)), (q15, .inl (cc 0, 5, .inl waiting_rights)), (q25, .inr (1, [.ref q26, .ref q27, .ref q28, .ref q29, .int w3, .int w4, .int pairing_number, .int pairing_apart])), (q26, .inl (cc 0, 1024, .inl pairing_sets)), (q27, .inl (cc 0, 10, .inl w1)), (q28, .inl (cc 0, 10, .inl w2))] H locs := hP
  refine lv_aload_n hx hb dX9_served_11 rfl (lv_at hl 0 rfl) ?_
  refine g_get hC hP fg_X9_66 0 rfl rfl dX9_served_12 ?_
  refine lv_aload_n hx hb dX9_served_15 rfl (lv_at hl 0 rfl) ?_
  refine g_get hC hP fg_X9_33 0 rfl rfl dX9_served_16 ?_
  obtain ⟨⟨r5, w6⟩, hu, h⟩ := bnd_h h
  refine kc_i (kV hC (c_X1_serve l dC dI cc q25 q26 q27 q28 q29 q13 q14 q15 w3 w4 pairing_number pairing_apart pairing_sets w1 w2 waiting_number waiting_stocking waiting_lefts waiting_rights H.size r5 w6 hu) cv_X9_193 kw630 rfl rfl ⟨(Nat.le_of_ble_eq_true rfl), (Nat.le_of_ble_eq_true rfl)⟩ hP [6, 7, 8, 9, 3, 4, 5] rfl rfl rfl (q0 := 6) rfl (As := [.ref q13]) (rest := []) rfl rfl hl.1 (Nat.le_of_ble_eq_true rfl) dX9_served_19 ⟨Nat.zero_le _, Nat.zero_le _⟩) hP hA [6, 7, 8, 9, 3, 4, 5] rfl rfl (fun H locs hP => ?_)
  have hP : PD (dC, dI) A s.heap [(q0, .inr (9, [.ref q1, .ref q3, .ref q11, .ref q13, .ref q16, .ref q17, .ref q21, .ref q23, .ref q25, .ref q30])), (q11, .inr (4, [.ref q12, .int shelf_clogs, .int shelf_day])), (q12, .inl (cc 0, 50, .inl shelf_cells)), (q13, .inr (6, [.ref q14, .ref q15, .int waiting_number, .int waiting_stocking])), (q14, .inl (cc 0, 5, .inl waiting_lefts)), (q15, .inl (cc 0, 5, .inl waiting_rights)), (q25, .inr (1, [.ref q26, .ref q27, .ref q28, .ref q29, .int w3, .int w4, .int pairing_number, .int pairing_apart])), (q26, .inl (cc 0, 1024, .inl w6)), (q27, .inl (cc 0, 10, .inl w1)), (q28, .inl (cc 0, 10, .inl w2))] H locs := hP
  exact ret_i hC hr hlk hP dX9_served_22 (w6, w1, w2, w3, w4) (Prod.mk.inj (Option.some.inj h)) rfl
set_option maxHeartbeats 8000000 in
set_option maxRecDepth 100000 in
theorem c_X9_whose (l : Launch) (dC : Nat → ClassId) (dI : Nat → Nat → Nat) (cc : Nat → ClassId) (q0 q1 q3 q11 q13 q16 q17 q21 q23 q25 q30 q12 q14 q15 : Nat) (shelf_clogs : Int32) (shelf_day : Int32) (shelf_cells : (Nat → Int32)) (waiting_number : Int32) (waiting_stocking : Int32) (waiting_lefts : (Nat → Int32)) (waiting_rights : (Nat → Int32)) (x1 : Int32) (sz : Nat) (ret : Int32) (hu : f_X9_whose x1 shelf_clogs shelf_day shelf_cells waiting_number waiting_stocking waiting_lefts waiting_rights = some ret) : Met l yX9_whose (mw yX9_whose cX9_whose 4 (some .int)) ({ frames := 3, cells := 0, slots := 0, locals := 68 } : Room) (va_Pc [.ref q0, .int x1] (mP (dC, dI) (ts cc) sz [(q0, .inr (9, [.ref q1, .ref q3, .ref q11, .ref q13, .ref q16, .ref q17, .ref q21, .ref q23, .ref q25, .ref q30])), (q11, .inr (4, [.ref q12, .int shelf_clogs, .int shelf_day])), (q12, .inl (cc 0, 50, .inl shelf_cells)), (q13, .inr (6, [.ref q14, .ref q15, .int waiting_number, .int waiting_stocking])), (q14, .inl (cc 0, 5, .inl waiting_lefts)), (q15, .inl (cc 0, 5, .inl waiting_rights))])) ((fun A => va_Qi (fun (r : Int32) (w : Unit) => r = ret ∧ w = ()) (fun (w : Unit) t => va_P (dC, dI) classes [(q0, .inr (9, [.ref q1, .ref q3, .ref q11, .ref q13, .ref q16, .ref q17, .ref q21, .ref q23, .ref q25, .ref q30])), (q11, .inr (4, [.ref q12, .int shelf_clogs, .int shelf_day])), (q12, .inl (cc 0, 50, .inl shelf_cells)), (q13, .inr (6, [.ref q14, .ref q15, .int waiting_number, .int waiting_stocking])), (q14, .inl (cc 0, 5, .inl waiting_lefts)), (q15, .inl (cc 0, 5, .inl waiting_rights))] t.heap) A) (va_A [(q0, .inr (9, [.ref q1, .ref q3, .ref q11, .ref q13, .ref q16, .ref q17, .ref q21, .ref q23, .ref q25, .ref q30])), (q11, .inr (4, [.ref q12, .int shelf_clogs, .int shelf_day])), (q12, .inl (cc 0, 50, .inl shelf_cells)), (q13, .inr (6, [.ref q14, .ref q15, .int waiting_number, .int waiting_stocking])), (q14, .inl (cc 0, 5, .inl waiting_lefts)), (q15, .inl (cc 0, 5, .inl waiting_rights))] sz)) 0 0 (va_A [(q0, .inr (9, [.ref q1, .ref q3, .ref q11, .ref q13, .ref q16, .ref q17, .ref q21, .ref q23, .ref q25, .ref q30])), (q11, .inr (4, [.ref q12, .int shelf_clogs, .int shelf_day])), (q12, .inl (cc 0, 50, .inl shelf_cells)), (q13, .inr (6, [.ref q14, .ref q15, .int waiting_number, .int waiting_stocking])), (q14, .inl (cc 0, 5, .inl waiting_lefts)), (q15, .inl (cc 0, 5, .inl waiting_rights))] sz) := by
  refine met_go (Qc := fun A => va_Qi (fun (r : Int32) (w : Unit) => r = ret ∧ w = ()) (fun (w : Unit) t => va_P (dC, dI) classes [(q0, .inr (9, [.ref q1, .ref q3, .ref q11, .ref q13, .ref q16, .ref q17, .ref q21, .ref q23, .ref q25, .ref q30])), (q11, .inr (4, [.ref q12, .int shelf_clogs, .int shelf_day])), (q12, .inl (cc 0, 50, .inl shelf_cells)), (q13, .inr (6, [.ref q14, .ref q15, .int waiting_number, .int waiting_stocking])), (q14, .inl (cc 0, 5, .inl waiting_lefts)), (q15, .inl (cc 0, 5, .inl waiting_rights))] t.heap) A) (by decide) (Nat.le_of_ble_eq_true rfl) ?_
  intro p e s m below meth c A ls H locs hC hr hlk hin hA hP hl _
  have hC : CX p m c cX9_whose 4 s ([.ref q0, .int x1] : List Value).toArray RX9 (dC, dI) (ts cc) := hC
  have hx := hC.1.1
  have hb := hC.1.2
  have h := hu
  have hu0 := hu
  unfold f_X9_whose at h
  have hl : lv_has ls 4 [(0, .ref q0), (1, .int x1)] := hl
  refine W_abs (fun Z eZ => ?_)
  refine lv_aload_n hx hb dX9_whose_0 rfl (lv_at hl 0 rfl) ?_
  refine g_get hC hP fg_X9_26 0 rfl rfl dX9_whose_1 ?_
  refine lv_iload_n hx hb dX9_whose_4 rfl (lv_at hl 1 rfl) ?_
  obtain ⟨r1, hu, h⟩ := bnd_h h
  refine kc_z (kV hC (c_X4_holds l dC dI cc q11 q12 shelf_clogs shelf_day x1 H.size r1 hu) cv_X9_113 kw454 rfl rfl ⟨(Nat.le_of_ble_eq_true rfl), (Nat.le_of_ble_eq_true rfl)⟩ hP [1] rfl rfl rfl (q0 := 1) rfl (As := [.int x1]) (rest := []) rfl rfl hl.1 (Nat.le_of_ble_eq_true rfl) dX9_whose_5 ⟨Nat.zero_le _, Nat.zero_le _⟩) hP hA [1] rfl rfl (fun hz_r1 H locs hP => ?_)
  have hP : PD (dC, dI) A s.heap [(q0, .inr (9, [.ref q1, .ref q3, .ref q11, .ref q13, .ref q16, .ref q17, .ref q21, .ref q23, .ref q25, .ref q30])), (q11, .inr (4, [.ref q12, .int shelf_clogs, .int shelf_day])), (q12, .inl (cc 0, 50, .inl shelf_cells)), (q13, .inr (6, [.ref q14, .ref q15, .int waiting_number, .int waiting_stocking])), (q14, .inl (cc 0, 5, .inl waiting_lefts)), (q15, .inl (cc 0, 5, .inl waiting_rights))] H locs := hP
  refine lv_if_ne (tgt := 13) hx hb dX9_whose_8 (by decide) (fun c2 => ?_) (fun c2 => ?_)
  · have h := if_f c2 h
    refine lv_iconst (v := 0) hx hb dX9_whose_13 (by decide) ?_
    refine lv_istore_n (lv' := [(2, .int 0), (0, .ref q0), (1, .int x1)]) hx hb dX9_whose_14 rfl hl (by decide) rfl (fun ls hl => ?_)
    refine lv_iconst (v := 0) hx hb dX9_whose_15 (by decide) ?_
    refine lv_istore_n (lv' := [(3, .int 0), (2, .int 0), (0, .ref q0), (1, .int x1)]) hx hb dX9_whose_16 rfl hl (by decide) rfl (fun ls hl => ?_)
    obtain ⟨⟨j3x, j4x⟩, hlp, h⟩ := bnd_h h
    have L1 : ∀ (n : Nat) (j3 : Int32) (j4 : Int32) (j3x : Int32) (j4x : Int32), lp (u2 (b_X9_whose_1 shelf_cells shelf_clogs shelf_day waiting_lefts waiting_number waiting_rights waiting_stocking x1)) n (j3, j4) = some (j3x, j4x) → ∀ (H : Heap) (locs : List Loc) (ls : Array Slot), PD (dC, dI) A s.heap [(q0, .inr (9, [.ref q1, .ref q3, .ref q11, .ref q13, .ref q16, .ref q17, .ref q21, .ref q23, .ref q25, .ref q30])), (q11, .inr (4, [.ref q12, .int shelf_clogs, .int shelf_day])), (q12, .inl (cc 0, 50, .inl shelf_cells)), (q13, .inr (6, [.ref q14, .ref q15, .int waiting_number, .int waiting_stocking])), (q14, .inl (cc 0, 5, .inl waiting_lefts)), (q15, .inl (cc 0, 5, .inl waiting_rights))] H locs → lv_has ls 4 [(0, .ref q0), (1, .int x1), (2, .int j3), (3, .int j4)] → (∀ (H : Heap) (locs : List Loc) (ls : Array Slot), PD (dC, dI) A s.heap [(q0, .inr (9, [.ref q1, .ref q3, .ref q11, .ref q13, .ref q16, .ref q17, .ref q21, .ref q23, .ref q25, .ref q30])), (q11, .inr (4, [.ref q12, .int shelf_clogs, .int shelf_day])), (q12, .inl (cc 0, 50, .inl shelf_cells)), (q13, .inr (6, [.ref q14, .ref q15, .int waiting_number, .int waiting_stocking])), (q14, .inl (cc 0, 5, .inl waiting_lefts)), (q15, .inl (cc 0, 5, .inl waiting_rights))] H locs → lv_has ls 4 [(0, .ref q0), (1, .int x1), (2, .int j3x), (3, .int j4x)] → W p l e ({ frames := 3, cells := 0, slots := 0, locals := 68 } : Room) s m ([.ref q0, .int x1] : List Value).toArray below meth c H locs 0 0 Z (F0 m 75 ls [])) → W p l e ({ frames := 3, cells := 0, slots := 0, locals := 68 } : Room) s m ([.ref q0, .int x1] : List Value).toArray below meth c H locs 0 0 Z (F0 m 17 ls []) := by
      intro n
      induction n with
      | zero => intro j3 j4 j3x j4x h; exact (lp_0 h).elim
      | succ n ih =>
        intro j3 j4 j3x j4x h H locs ls hP hl KK
        obtain ⟨y, h, hz⟩ := lp_h h
        refine lv_iload_n hx hb dX9_whose_17 rfl (lv_at hl 3 rfl) ?_
        refine lv_aload_n hx hb dX9_whose_18 rfl (lv_at hl 0 rfl) ?_
        refine g_get hC hP fg_X9_33 0 rfl rfl dX9_whose_19 ?_
        refine g_get hC hP fg_X9_130 3 rfl rfl dX9_whose_22 ?_
        refine lv_icmp_ge (tgt := 75) hx hb dX9_whose_25 (by decide) (fun c5 => ?_) (fun c5 => ?_)
        · have h := if_t c5 h
          cases lp_e h hz
          exact KK H locs ls hP (lv_sub hl [0, 1, 2, 3] rfl)
        · have h := if_f c5 h
          refine lv_aload_n hx hb dX9_whose_28 rfl (lv_at hl 0 rfl) ?_
          refine g_get hC hP fg_X9_33 0 rfl rfl dX9_whose_29 ?_
          refine lv_iload_n hx hb dX9_whose_32 rfl (lv_at hl 3 rfl) ?_
          refine lv_aload_n hx hb dX9_whose_33 rfl (lv_at hl 0 rfl) ?_
          refine g_get hC hP fg_X9_26 0 rfl rfl dX9_whose_34 ?_
          refine lv_iload_n hx hb dX9_whose_37 rfl (lv_at hl 1 rfl) ?_
          refine lv_iconst (v := 1) hx hb dX9_whose_38 (by decide) ?_
          obtain ⟨r6, hu, h⟩ := bnd_h h
          refine kc_i (kV hC (c_X4_cell l dC dI cc q11 q12 shelf_clogs shelf_day shelf_cells x1 1 H.size r6 hu) cv_X9_127 kw463 rfl rfl ⟨(Nat.le_of_ble_eq_true rfl), (Nat.le_of_ble_eq_true rfl)⟩ hP [1, 2] rfl rfl rfl (q0 := 1) rfl (As := [.int x1, .int 1]) (rest := [.int j4, .ref q13]) rfl rfl hl.1 (Nat.le_of_ble_eq_true rfl) dX9_whose_39 ⟨Nat.zero_le _, Nat.zero_le _⟩) hP hA [1, 2] rfl rfl (fun H locs hP => ?_)
          have hP : PD (dC, dI) A s.heap [(q0, .inr (9, [.ref q1, .ref q3, .ref q11, .ref q13, .ref q16, .ref q17, .ref q21, .ref q23, .ref q25, .ref q30])), (q11, .inr (4, [.ref q12, .int shelf_clogs, .int shelf_day])), (q12, .inl (cc 0, 50, .inl shelf_cells)), (q13, .inr (6, [.ref q14, .ref q15, .int waiting_number, .int waiting_stocking])), (q14, .inl (cc 0, 5, .inl waiting_lefts)), (q15, .inl (cc 0, 5, .inl waiting_rights))] H locs := hP
          refine lv_aload_n hx hb dX9_whose_42 rfl (lv_at hl 0 rfl) ?_
          refine g_get hC hP fg_X9_26 0 rfl rfl dX9_whose_43 ?_
          refine lv_iload_n hx hb dX9_whose_46 rfl (lv_at hl 1 rfl) ?_
          refine lv_aload_n hx hb dX9_whose_47 rfl (lv_at hl 0 rfl) ?_
          refine g_get hC hP fg_X9_26 0 rfl rfl dX9_whose_48 ?_
          refine g_get hC hP fg_X9_117 1 rfl rfl dX9_whose_51 ?_
          obtain ⟨r7, hu, h⟩ := bnd_h h
          refine kc_i (kV hC (c_X4_sizeOn l dC dI cc q11 q12 shelf_clogs shelf_day shelf_cells x1 shelf_day H.size r7 hu) cv_X9_120 kw459 rfl rfl ⟨(Nat.le_of_ble_eq_true rfl), (Nat.le_of_ble_eq_true rfl)⟩ hP [1, 2] rfl rfl rfl (q0 := 1) rfl (As := [.int x1, .int shelf_day]) (rest := [.int r6, .int j4, .ref q13]) rfl rfl hl.1 (Nat.le_of_ble_eq_true rfl) dX9_whose_54 ⟨Nat.zero_le _, Nat.zero_le _⟩) hP hA [1, 2] rfl rfl (fun H locs hP => ?_)
          have hP : PD (dC, dI) A s.heap [(q0, .inr (9, [.ref q1, .ref q3, .ref q11, .ref q13, .ref q16, .ref q17, .ref q21, .ref q23, .ref q25, .ref q30])), (q11, .inr (4, [.ref q12, .int shelf_clogs, .int shelf_day])), (q12, .inl (cc 0, 50, .inl shelf_cells)), (q13, .inr (6, [.ref q14, .ref q15, .int waiting_number, .int waiting_stocking])), (q14, .inl (cc 0, 5, .inl waiting_lefts)), (q15, .inl (cc 0, 5, .inl waiting_rights))] H locs := hP
          obtain ⟨r8, hu, h⟩ := bnd_h h
          refine kc_z (kV hC (c_X6_suits l dC dI cc q13 q14 q15 waiting_number waiting_stocking waiting_lefts waiting_rights j4 r6 r7 H.size r8 hu) cv_X9_197 kw634 rfl rfl ⟨(Nat.le_of_ble_eq_true rfl), (Nat.le_of_ble_eq_true rfl)⟩ hP [3, 4, 5] rfl rfl rfl (q0 := 3) rfl (As := [.int j4, .int r6, .int r7]) (rest := []) rfl rfl hl.1 (Nat.le_of_ble_eq_true rfl) dX9_whose_57 ⟨Nat.zero_le _, Nat.zero_le _⟩) hP hA [3, 4, 5] rfl rfl (fun hz_r8 H locs hP => ?_)
          have hP : PD (dC, dI) A s.heap [(q0, .inr (9, [.ref q1, .ref q3, .ref q11, .ref q13, .ref q16, .ref q17, .ref q21, .ref q23, .ref q25, .ref q30])), (q11, .inr (4, [.ref q12, .int shelf_clogs, .int shelf_day])), (q12, .inl (cc 0, 50, .inl shelf_cells)), (q13, .inr (6, [.ref q14, .ref q15, .int waiting_number, .int waiting_stocking])), (q14, .inl (cc 0, 5, .inl waiting_lefts)), (q15, .inl (cc 0, 5, .inl waiting_rights))] H locs := hP
          refine lv_if_eq (tgt := 69) hx hb dX9_whose_60 (by decide) (fun c9 => ?_) (fun c9 => ?_)
          · have h := if_t c9 h
            refine lv_iinc (v := (j4 + 1)) (lv' := [(3, .int (j4 + 1)), (0, .ref q0), (1, .int x1), (2, .int j3)]) hx hb dX9_whose_69 hl (k := 3) rfl rfl (by decide) rfl (fun ls hl => ?_)
            refine lv_goto (tgt := 17) hx hb dX9_whose_72 (by decide) ?_
            exact ih _ _ _ _ (lp_n h hz) H locs ls hP (lv_sub hl [1, 2, 3, 0] rfl) KK
          · have h := if_f c9 h
            refine lv_iload_n hx hb dX9_whose_63 rfl (lv_at hl 2 rfl) ?_
            refine lv_iconst (v := 1) hx hb dX9_whose_64 (by decide) ?_
            refine lv_iload_n hx hb dX9_whose_65 rfl (lv_at hl 3 rfl) ?_
            refine lv_ishl hx hb dX9_whose_66 ?_
            refine lv_ior hx hb dX9_whose_67 ?_
            refine lv_istore_n (lv' := [(2, .int (j3 ||| (1 <<< (j4 &&& 31)))), (0, .ref q0), (1, .int x1), (3, .int j4)]) hx hb dX9_whose_68 rfl hl (by decide) rfl (fun ls hl => ?_)
            refine lv_iinc (v := (j4 + 1)) (lv' := [(3, .int (j4 + 1)), (2, .int (j3 ||| (1 <<< (j4 &&& 31)))), (0, .ref q0), (1, .int x1)]) hx hb dX9_whose_69 hl (k := 3) rfl rfl (by decide) rfl (fun ls hl => ?_)
            refine lv_goto (tgt := 17) hx hb dX9_whose_72 (by decide) ?_
            exact ih _ _ _ _ (lp_n h hz) H locs ls hP (lv_sub hl [2, 3, 1, 0] rfl) KK
    refine L1 FU _ _ j3x j4x hlp H locs ls hP (lv_sub hl [2, 3, 1, 0] rfl) (fun H locs ls hP hl => ?_)
    refine lv_iload_n hx hb dX9_whose_75 rfl (lv_at hl 2 rfl) ?_
    rw [eZ]
    exact ret_i hC hr hlk hP dX9_whose_76 () (⟨Option.some.inj h, rfl⟩) rfl
  · have h := if_t c2 h
    refine lv_iconst (v := -1) hx hb dX9_whose_11 (by decide) ?_
    rw [eZ]
    exact ret_i hC hr hlk hP dX9_whose_12 () (⟨Option.some.inj h, rfl⟩) rfl
set_option maxHeartbeats 8000000 in
set_option maxRecDepth 100000 in
theorem c_X9_alikeBy (l : Launch) (dC : Nat → ClassId) (dI : Nat → Nat → Nat) (cc : Nat → ClassId) (q0 q1 q3 q11 q13 q16 q17 q21 q23 q25 q30 q12 : Nat) (shelf_clogs : Int32) (shelf_day : Int32) (shelf_cells : (Nat → Int32)) (x1 : Int32) (x2 : Int32) (sz : Nat) (ret : Int32) (hu : f_X9_alikeBy x1 x2 shelf_clogs shelf_day shelf_cells = some ret) : Met l yX9_alikeBy (mw yX9_alikeBy cX9_alikeBy 4 (some .int)) ({ frames := 4, cells := 0, slots := 0, locals := 92 } : Room) (va_Pc [.ref q0, .int x1, .int x2] (mP (dC, dI) (ts cc) sz [(q0, .inr (9, [.ref q1, .ref q3, .ref q11, .ref q13, .ref q16, .ref q17, .ref q21, .ref q23, .ref q25, .ref q30])), (q11, .inr (4, [.ref q12, .int shelf_clogs, .int shelf_day])), (q12, .inl (cc 0, 50, .inl shelf_cells))])) ((fun A => va_Qi (fun (r : Int32) (w : Unit) => r = ret ∧ w = ()) (fun (w : Unit) t => va_P (dC, dI) classes [(q0, .inr (9, [.ref q1, .ref q3, .ref q11, .ref q13, .ref q16, .ref q17, .ref q21, .ref q23, .ref q25, .ref q30])), (q11, .inr (4, [.ref q12, .int shelf_clogs, .int shelf_day])), (q12, .inl (cc 0, 50, .inl shelf_cells))] t.heap) A) (va_A [(q0, .inr (9, [.ref q1, .ref q3, .ref q11, .ref q13, .ref q16, .ref q17, .ref q21, .ref q23, .ref q25, .ref q30])), (q11, .inr (4, [.ref q12, .int shelf_clogs, .int shelf_day])), (q12, .inl (cc 0, 50, .inl shelf_cells))] sz)) 0 0 (va_A [(q0, .inr (9, [.ref q1, .ref q3, .ref q11, .ref q13, .ref q16, .ref q17, .ref q21, .ref q23, .ref q25, .ref q30])), (q11, .inr (4, [.ref q12, .int shelf_clogs, .int shelf_day])), (q12, .inl (cc 0, 50, .inl shelf_cells))] sz) := by
  refine met_go (Qc := fun A => va_Qi (fun (r : Int32) (w : Unit) => r = ret ∧ w = ()) (fun (w : Unit) t => va_P (dC, dI) classes [(q0, .inr (9, [.ref q1, .ref q3, .ref q11, .ref q13, .ref q16, .ref q17, .ref q21, .ref q23, .ref q25, .ref q30])), (q11, .inr (4, [.ref q12, .int shelf_clogs, .int shelf_day])), (q12, .inl (cc 0, 50, .inl shelf_cells))] t.heap) A) (by decide) (Nat.le_of_ble_eq_true rfl) ?_
  intro p e s m below meth c A ls H locs hC hr hlk hin hA hP hl _
  have hC : CX p m c cX9_alikeBy 4 s ([.ref q0, .int x1, .int x2] : List Value).toArray RX9 (dC, dI) (ts cc) := hC
  have hx := hC.1.1
  have hb := hC.1.2
  have h := hu
  have hu0 := hu
  unfold f_X9_alikeBy at h
  have hl : lv_has ls 4 [(0, .ref q0), (1, .int x1), (2, .int x2)] := hl
  refine W_abs (fun Z eZ => ?_)
  refine lv_aload_n hx hb dX9_alikeBy_0 rfl (lv_at hl 0 rfl) ?_
  refine g_get hC hP fg_X9_26 0 rfl rfl dX9_alikeBy_1 ?_
  refine lv_iload_n hx hb dX9_alikeBy_4 rfl (lv_at hl 1 rfl) ?_
  refine lv_iconst (v := 0) hx hb dX9_alikeBy_5 (by decide) ?_
  obtain ⟨r1, hu, h⟩ := bnd_h h
  refine kc_z (kV hC (c_X4_isOfSide l dC dI cc q11 q12 shelf_clogs shelf_day shelf_cells x1 0 H.size r1 hu) cv_X9_200 kw518 rfl rfl ⟨(Nat.le_of_ble_eq_true rfl), (Nat.le_of_ble_eq_true rfl)⟩ hP [1, 2] rfl rfl rfl (q0 := 1) rfl (As := [.int x1, .int 0]) (rest := []) rfl rfl hl.1 (Nat.le_of_ble_eq_true rfl) dX9_alikeBy_6 ⟨Nat.zero_le _, Nat.zero_le _⟩) hP hA [1, 2] rfl rfl (fun hz_r1 H locs hP => ?_)
  have hP : PD (dC, dI) A s.heap [(q0, .inr (9, [.ref q1, .ref q3, .ref q11, .ref q13, .ref q16, .ref q17, .ref q21, .ref q23, .ref q25, .ref q30])), (q11, .inr (4, [.ref q12, .int shelf_clogs, .int shelf_day])), (q12, .inl (cc 0, 50, .inl shelf_cells))] H locs := hP
  refine lv_if_eq (tgt := 24) hx hb dX9_alikeBy_9 (by decide) (fun c2 => ?_) (fun c2 => ?_)
  · have h := if_t c2 h
    refine lv_iconst (v := -1) hx hb dX9_alikeBy_24 (by decide) ?_
    rw [eZ]
    exact ret_i hC hr hlk hP dX9_alikeBy_25 () (⟨Option.some.inj h, rfl⟩) rfl
  · have h := if_f c2 h
    refine lv_aload_n hx hb dX9_alikeBy_12 rfl (lv_at hl 0 rfl) ?_
    refine g_get hC hP fg_X9_26 0 rfl rfl dX9_alikeBy_13 ?_
    refine lv_iload_n hx hb dX9_alikeBy_16 rfl (lv_at hl 2 rfl) ?_
    refine lv_iconst (v := 1) hx hb dX9_alikeBy_17 (by decide) ?_
    obtain ⟨r3, hu, h⟩ := bnd_h h
    refine kc_z (kV hC (c_X4_isOfSide l dC dI cc q11 q12 shelf_clogs shelf_day shelf_cells x2 1 H.size r3 hu) cv_X9_200 kw518 rfl rfl ⟨(Nat.le_of_ble_eq_true rfl), (Nat.le_of_ble_eq_true rfl)⟩ hP [1, 2] rfl rfl rfl (q0 := 1) rfl (As := [.int x2, .int 1]) (rest := []) rfl rfl hl.1 (Nat.le_of_ble_eq_true rfl) dX9_alikeBy_18 ⟨Nat.zero_le _, Nat.zero_le _⟩) hP hA [1, 2] rfl rfl (fun hz_r3 H locs hP => ?_)
    have hP : PD (dC, dI) A s.heap [(q0, .inr (9, [.ref q1, .ref q3, .ref q11, .ref q13, .ref q16, .ref q17, .ref q21, .ref q23, .ref q25, .ref q30])), (q11, .inr (4, [.ref q12, .int shelf_clogs, .int shelf_day])), (q12, .inl (cc 0, 50, .inl shelf_cells))] H locs := hP
    refine lv_if_ne (tgt := 26) hx hb dX9_alikeBy_21 (by decide) (fun c4 => ?_) (fun c4 => ?_)
    · have h := if_f c4 h
      refine lv_iconst (v := 0) hx hb dX9_alikeBy_26 (by decide) ?_
      refine lv_istore_n (lv' := [(3, .int 0), (0, .ref q0), (1, .int x1), (2, .int x2)]) hx hb dX9_alikeBy_27 rfl hl (by decide) rfl (fun ls hl => ?_)
      obtain ⟨z, hlp, hk, hj⟩ := bndE_h h
      have L1 : ∀ (n : Nat) (j5 : Int32) (z : ((Int32) ⊕ (Int32))), lp ((b_X9_alikeBy_1 shelf_cells shelf_clogs shelf_day x1 x2)) n j5 = some z → ∀ (H : Heap) (locs : List Loc) (ls : Array Slot), PD (dC, dI) A s.heap [(q0, .inr (9, [.ref q1, .ref q3, .ref q11, .ref q13, .ref q16, .ref q17, .ref q21, .ref q23, .ref q25, .ref q30])), (q11, .inr (4, [.ref q12, .int shelf_clogs, .int shelf_day])), (q12, .inl (cc 0, 50, .inl shelf_cells))] H locs → lv_has ls 4 [(0, .ref q0), (1, .int x1), (2, .int x2), (3, .int j5)] → (∀ (j5x : Int32), z = .inl j5x → ∀ (H : Heap) (locs : List Loc) (ls : Array Slot), PD (dC, dI) A s.heap [(q0, .inr (9, [.ref q1, .ref q3, .ref q11, .ref q13, .ref q16, .ref q17, .ref q21, .ref q23, .ref q25, .ref q30])), (q11, .inr (4, [.ref q12, .int shelf_clogs, .int shelf_day])), (q12, .inl (cc 0, 50, .inl shelf_cells))] H locs → lv_has ls 4 [(0, .ref q0), (1, .int x1), (2, .int x2), (3, .int j5x)] → W p l e ({ frames := 4, cells := 0, slots := 0, locals := 92 } : Room) s m ([.ref q0, .int x1, .int x2] : List Value).toArray below meth c H locs 0 0 Z (F0 m 63 ls [])) → (∀ q, z = .inr q → q = ret) → W p l e ({ frames := 4, cells := 0, slots := 0, locals := 92 } : Room) s m ([.ref q0, .int x1, .int x2] : List Value).toArray below meth c H locs 0 0 Z (F0 m 28 ls []) := by
        intro n
        induction n with
        | zero => intro j5 z h; exact (lp_0 h).elim
        | succ n ih =>
          intro j5 z h H locs ls hP hl KK KR
          obtain ⟨y, h, hz⟩ := lp_h h
          refine lv_iload_n hx hb dX9_alikeBy_28 rfl (lv_at hl 3 rfl) ?_
          refine lv_bipush (v := 60) hx hb dX9_alikeBy_29 (by decide) ?_
          refine lv_icmp_gt (tgt := 63) hx hb dX9_alikeBy_31 (by decide) (fun c6 => ?_) (fun c6 => ?_)
          · have h := if_t c6 h
            exact KK j5 (lp_e h hz).symm H locs ls hP (lv_sub hl [0, 1, 2, 3] rfl)
          · have h := if_f c6 h
            refine lv_aload_n hx hb dX9_alikeBy_34 rfl (lv_at hl 0 rfl) ?_
            refine g_get hC hP fg_X9_26 0 rfl rfl dX9_alikeBy_35 ?_
            refine lv_iload_n hx hb dX9_alikeBy_38 rfl (lv_at hl 1 rfl) ?_
            refine lv_iload_n hx hb dX9_alikeBy_39 rfl (lv_at hl 2 rfl) ?_
            refine lv_aload_n hx hb dX9_alikeBy_40 rfl (lv_at hl 0 rfl) ?_
            refine g_get hC hP fg_X9_26 0 rfl rfl dX9_alikeBy_41 ?_
            refine g_get hC hP fg_X9_117 1 rfl rfl dX9_alikeBy_44 ?_
            refine lv_iload_n hx hb dX9_alikeBy_47 rfl (lv_at hl 3 rfl) ?_
            refine lv_iadd hx hb dX9_alikeBy_48 ?_
            obtain ⟨r7, hu, h⟩ := bnd_h h
            refine kc_z (kV hC (c_X4_areAlikeOn l dC dI cc q11 q12 shelf_clogs shelf_day shelf_cells x1 x2 (shelf_day + j5) H.size r7 hu) cv_X9_151 kw514 rfl rfl ⟨(Nat.le_of_ble_eq_true rfl), (Nat.le_of_ble_eq_true rfl)⟩ hP [1, 2] rfl rfl rfl (q0 := 1) rfl (As := [.int x1, .int x2, .int (shelf_day + j5)]) (rest := []) rfl rfl hl.1 (Nat.le_of_ble_eq_true rfl) dX9_alikeBy_49 ⟨Nat.zero_le _, Nat.zero_le _⟩) hP hA [1, 2] rfl rfl (fun hz_r7 H locs hP => ?_)
            have hP : PD (dC, dI) A s.heap [(q0, .inr (9, [.ref q1, .ref q3, .ref q11, .ref q13, .ref q16, .ref q17, .ref q21, .ref q23, .ref q25, .ref q30])), (q11, .inr (4, [.ref q12, .int shelf_clogs, .int shelf_day])), (q12, .inl (cc 0, 50, .inl shelf_cells))] H locs := hP
            refine lv_if_eq (tgt := 57) hx hb dX9_alikeBy_52 (by decide) (fun c8 => ?_) (fun c8 => ?_)
            · have h := if_t c8 h
              refine lv_iinc (v := (j5 + 1)) (lv' := [(3, .int (j5 + 1)), (0, .ref q0), (1, .int x1), (2, .int x2)]) hx hb dX9_alikeBy_57 hl (k := 3) rfl rfl (by decide) rfl (fun ls hl => ?_)
              refine lv_goto (tgt := 28) hx hb dX9_alikeBy_60 (by decide) ?_
              exact ih _ _ (lp_n h hz) H locs ls hP (lv_sub hl [1, 2, 3, 0] rfl) KK KR
            · have h := if_f c8 h
              refine lv_iload_n hx hb dX9_alikeBy_55 rfl (lv_at hl 3 rfl) ?_
              rw [eZ]
              exact ret_i hC hr hlk hP dX9_alikeBy_56 () (⟨KR _ (lp_e h hz).symm, rfl⟩) rfl
      refine L1 FU _ z hlp H locs ls hP (lv_sub hl [1, 2, 3, 0] rfl) (fun j5x e H locs ls hP hl => ?_) (fun q e => Option.some.inj (hj q e))
      have h := hk _ e
      refine lv_bipush (v := -4) hx hb dX9_alikeBy_63 (by decide) ?_
      rw [eZ]
      exact ret_i hC hr hlk hP dX9_alikeBy_65 () (⟨Option.some.inj h, rfl⟩) rfl
    · have h := if_t c4 h
      refine lv_iconst (v := -1) hx hb dX9_alikeBy_24 (by decide) ?_
      rw [eZ]
      exact ret_i hC hr hlk hP dX9_alikeBy_25 () (⟨Option.some.inj h, rfl⟩) rfl
set_option maxHeartbeats 8000000 in
set_option maxRecDepth 100000 in
theorem c_X9_dry (l : Launch) (dC : Nat → ClassId) (dI : Nat → Nat → Nat) (cc : Nat → ClassId) (q0 q1 q3 q11 q13 q16 q17 q21 q23 q25 q30 q12 : Nat) (shelf_clogs : Int32) (shelf_day : Int32) (shelf_cells : (Nat → Int32)) (x1 : Int32) (x2 : Int32) (sz : Nat) (ret : Int32) (hu : f_X9_dry x1 x2 shelf_clogs shelf_day shelf_cells = some ret) : Met l yX9_dry (mw yX9_dry cX9_dry 5 (some .int)) ({ frames := 3, cells := 0, slots := 0, locals := 68 } : Room) (va_Pc [.ref q0, .int x1, .int x2] (mP (dC, dI) (ts cc) sz [(q0, .inr (9, [.ref q1, .ref q3, .ref q11, .ref q13, .ref q16, .ref q17, .ref q21, .ref q23, .ref q25, .ref q30])), (q11, .inr (4, [.ref q12, .int shelf_clogs, .int shelf_day])), (q12, .inl (cc 0, 50, .inl shelf_cells))])) ((fun A => va_Qi (fun (r : Int32) (w : Unit) => r = ret ∧ w = ()) (fun (w : Unit) t => va_P (dC, dI) classes [(q0, .inr (9, [.ref q1, .ref q3, .ref q11, .ref q13, .ref q16, .ref q17, .ref q21, .ref q23, .ref q25, .ref q30])), (q11, .inr (4, [.ref q12, .int shelf_clogs, .int shelf_day])), (q12, .inl (cc 0, 50, .inl shelf_cells))] t.heap) A) (va_A [(q0, .inr (9, [.ref q1, .ref q3, .ref q11, .ref q13, .ref q16, .ref q17, .ref q21, .ref q23, .ref q25, .ref q30])), (q11, .inr (4, [.ref q12, .int shelf_clogs, .int shelf_day])), (q12, .inl (cc 0, 50, .inl shelf_cells))] sz)) 0 0 (va_A [(q0, .inr (9, [.ref q1, .ref q3, .ref q11, .ref q13, .ref q16, .ref q17, .ref q21, .ref q23, .ref q25, .ref q30])), (q11, .inr (4, [.ref q12, .int shelf_clogs, .int shelf_day])), (q12, .inl (cc 0, 50, .inl shelf_cells))] sz) := by
  refine met_go (Qc := fun A => va_Qi (fun (r : Int32) (w : Unit) => r = ret ∧ w = ()) (fun (w : Unit) t => va_P (dC, dI) classes [(q0, .inr (9, [.ref q1, .ref q3, .ref q11, .ref q13, .ref q16, .ref q17, .ref q21, .ref q23, .ref q25, .ref q30])), (q11, .inr (4, [.ref q12, .int shelf_clogs, .int shelf_day])), (q12, .inl (cc 0, 50, .inl shelf_cells))] t.heap) A) (by decide) (Nat.le_of_ble_eq_true rfl) ?_
  intro p e s m below meth c A ls H locs hC hr hlk hin hA hP hl _
  have hC : CX p m c cX9_dry 5 s ([.ref q0, .int x1, .int x2] : List Value).toArray RX9 (dC, dI) (ts cc) := hC
  have hx := hC.1.1
  have hb := hC.1.2
  have h := hu
  have hu0 := hu
  unfold f_X9_dry at h
  have hl : lv_has ls 5 [(0, .ref q0), (1, .int x1), (2, .int x2)] := hl
  refine W_abs (fun Z eZ => ?_)
  refine lv_aload_n hx hb dX9_dry_0 rfl (lv_at hl 0 rfl) ?_
  refine g_get hC hP fg_X9_26 0 rfl rfl dX9_dry_1 ?_
  refine lv_iload_n hx hb dX9_dry_4 rfl (lv_at hl 1 rfl) ?_
  obtain ⟨r1, hu, h⟩ := bnd_h h
  refine kc_z (kV hC (c_X4_holds l dC dI cc q11 q12 shelf_clogs shelf_day x1 H.size r1 hu) cv_X9_113 kw454 rfl rfl ⟨(Nat.le_of_ble_eq_true rfl), (Nat.le_of_ble_eq_true rfl)⟩ hP [1] rfl rfl rfl (q0 := 1) rfl (As := [.int x1]) (rest := []) rfl rfl hl.1 (Nat.le_of_ble_eq_true rfl) dX9_dry_5 ⟨Nat.zero_le _, Nat.zero_le _⟩) hP hA [1] rfl rfl (fun hz_r1 H locs hP => ?_)
  have hP : PD (dC, dI) A s.heap [(q0, .inr (9, [.ref q1, .ref q3, .ref q11, .ref q13, .ref q16, .ref q17, .ref q21, .ref q23, .ref q25, .ref q30])), (q11, .inr (4, [.ref q12, .int shelf_clogs, .int shelf_day])), (q12, .inl (cc 0, 50, .inl shelf_cells))] H locs := hP
  refine lv_if_eq (tgt := 20) hx hb dX9_dry_8 (by decide) (fun c2 => ?_) (fun c2 => ?_)
  · have h := if_t c2 h
    refine lv_iconst (v := -1) hx hb dX9_dry_20 (by decide) ?_
    rw [eZ]
    exact ret_i hC hr hlk hP dX9_dry_21 () (⟨Option.some.inj h, rfl⟩) rfl
  · have h := if_f c2 h
    refine lv_iload_n hx hb dX9_dry_11 rfl (lv_at hl 2 rfl) ?_
    refine lv_iconst (v := 0) hx hb dX9_dry_12 (by decide) ?_
    refine lv_iconst (v := 1) hx hb dX9_dry_13 (by decide) ?_
    obtain ⟨r3, hu, h⟩ := bnd_h h
    refine kc_z (kS hC (c_X9_within l dC dI cc x2 0 1 H.size r3 hu) cs_X9_99 kw338 rfl rfl ⟨(Nat.le_of_ble_eq_true rfl), (Nat.le_of_ble_eq_true rfl)⟩ hP [] rfl rfl (As := [.int x2, .int 0, .int 1]) (rest := []) rfl rfl hl.1 (Nat.le_of_ble_eq_true rfl) dX9_dry_14 ⟨Nat.zero_le _, Nat.zero_le _⟩) hP hA [] rfl rfl (fun hz_r3 H locs hP => ?_)
    have hP : PD (dC, dI) A s.heap [(q0, .inr (9, [.ref q1, .ref q3, .ref q11, .ref q13, .ref q16, .ref q17, .ref q21, .ref q23, .ref q25, .ref q30])), (q11, .inr (4, [.ref q12, .int shelf_clogs, .int shelf_day])), (q12, .inl (cc 0, 50, .inl shelf_cells))] H locs := hP
    refine lv_if_ne (tgt := 22) hx hb dX9_dry_17 (by decide) (fun c4 => ?_) (fun c4 => ?_)
    · have h := if_f c4 h
      refine lv_aload_n hx hb dX9_dry_22 rfl (lv_at hl 0 rfl) ?_
      refine g_get hC hP fg_X9_26 0 rfl rfl dX9_dry_23 ?_
      refine lv_iload_n hx hb dX9_dry_26 rfl (lv_at hl 1 rfl) ?_
      refine lv_aload_n hx hb dX9_dry_27 rfl (lv_at hl 0 rfl) ?_
      refine g_get hC hP fg_X9_26 0 rfl rfl dX9_dry_28 ?_
      refine g_get hC hP fg_X9_117 1 rfl rfl dX9_dry_31 ?_
      refine lv_bipush (v := 30) hx hb dX9_dry_34 (by decide) ?_
      refine lv_iadd hx hb dX9_dry_36 ?_
      obtain ⟨r5, hu, h⟩ := bnd_h h
      refine kc_i (kV hC (c_X4_sizeOn l dC dI cc q11 q12 shelf_clogs shelf_day shelf_cells x1 (shelf_day + 30) H.size r5 hu) cv_X9_120 kw459 rfl rfl ⟨(Nat.le_of_ble_eq_true rfl), (Nat.le_of_ble_eq_true rfl)⟩ hP [1, 2] rfl rfl rfl (q0 := 1) rfl (As := [.int x1, .int (shelf_day + 30)]) (rest := []) rfl rfl hl.1 (Nat.le_of_ble_eq_true rfl) dX9_dry_37 ⟨Nat.zero_le _, Nat.zero_le _⟩) hP hA [1, 2] rfl rfl (fun H locs hP => ?_)
      have hP : PD (dC, dI) A s.heap [(q0, .inr (9, [.ref q1, .ref q3, .ref q11, .ref q13, .ref q16, .ref q17, .ref q21, .ref q23, .ref q25, .ref q30])), (q11, .inr (4, [.ref q12, .int shelf_clogs, .int shelf_day])), (q12, .inl (cc 0, 50, .inl shelf_cells))] H locs := hP
      refine lv_istore_n (lv' := [(3, .int r5), (0, .ref q0), (1, .int x1), (2, .int x2)]) hx hb dX9_dry_40 rfl hl (by decide) rfl (fun ls hl => ?_)
      refine lv_iload_n hx hb dX9_dry_41 rfl (lv_at hl 3 rfl) ?_
      refine lv_iconst (v := 1) hx hb dX9_dry_42 (by decide) ?_
      refine lv_icmp_ne (tgt := 48) hx hb dX9_dry_43 (by decide) (fun c6 => ?_) (fun c6 => ?_)
      · have h := if_f c6 h
        refine lv_iconst (v := 0) hx hb dX9_dry_48 (by decide) ?_
        refine lv_istore (lv' := [(4, .int 0), (3, .int r5), (0, .ref q0), (1, .int x1), (2, .int x2)]) hx hb dX9_dry_49 hl (by decide) rfl (fun ls hl => ?_)
        obtain ⟨j7x, hlp, h⟩ := bnd_h h
        have L1 : ∀ (n : Nat) (j7 : Int32) (j7x : Int32), lp ((b_X9_dry_1 r5 shelf_cells shelf_clogs shelf_day x1)) n j7 = some j7x → ∀ (H : Heap) (locs : List Loc) (ls : Array Slot), PD (dC, dI) A s.heap [(q0, .inr (9, [.ref q1, .ref q3, .ref q11, .ref q13, .ref q16, .ref q17, .ref q21, .ref q23, .ref q25, .ref q30])), (q11, .inr (4, [.ref q12, .int shelf_clogs, .int shelf_day])), (q12, .inl (cc 0, 50, .inl shelf_cells))] H locs → lv_has ls 5 [(0, .ref q0), (1, .int x1), (3, .int r5), (4, .int j7)] → (∀ (H : Heap) (locs : List Loc) (ls : Array Slot), PD (dC, dI) A s.heap [(q0, .inr (9, [.ref q1, .ref q3, .ref q11, .ref q13, .ref q16, .ref q17, .ref q21, .ref q23, .ref q25, .ref q30])), (q11, .inr (4, [.ref q12, .int shelf_clogs, .int shelf_day])), (q12, .inl (cc 0, 50, .inl shelf_cells))] H locs → lv_has ls 5 [(0, .ref q0), (1, .int x1), (3, .int r5), (4, .int j7x)] → W p l e ({ frames := 3, cells := 0, slots := 0, locals := 68 } : Room) s m ([.ref q0, .int x1, .int x2] : List Value).toArray below meth c H locs 0 0 Z (F0 m 86 ls [])) → W p l e ({ frames := 3, cells := 0, slots := 0, locals := 68 } : Room) s m ([.ref q0, .int x1, .int x2] : List Value).toArray below meth c H locs 0 0 Z (F0 m 51 ls []) := by
          intro n
          induction n with
          | zero => intro j7 j7x h; exact (lp_0 h).elim
          | succ n ih =>
            intro j7 j7x h H locs ls hP hl KK
            obtain ⟨y, h, hz⟩ := lp_h h
            refine lv_iload hx hb dX9_dry_51 (lv_at hl 3 rfl) ?_
            refine lv_bipush (v := 30) hx hb dX9_dry_53 (by decide) ?_
            refine lv_icmp_ge (tgt := 86) hx hb dX9_dry_55 (by decide) (fun c8 => ?_) (fun c8 => ?_)
            · have h := if_t c8 h
              cases lp_e h hz
              exact KK H locs ls hP (lv_sub hl [0, 1, 2, 3] rfl)
            · have h := if_f c8 h
              refine lv_aload_n hx hb dX9_dry_58 rfl (lv_at hl 0 rfl) ?_
              refine g_get hC hP fg_X9_26 0 rfl rfl dX9_dry_59 ?_
              refine lv_iload_n hx hb dX9_dry_62 rfl (lv_at hl 1 rfl) ?_
              refine lv_aload_n hx hb dX9_dry_63 rfl (lv_at hl 0 rfl) ?_
              refine g_get hC hP fg_X9_26 0 rfl rfl dX9_dry_64 ?_
              refine g_get hC hP fg_X9_117 1 rfl rfl dX9_dry_67 ?_
              refine lv_iload hx hb dX9_dry_70 (lv_at hl 3 rfl) ?_
              refine lv_iadd hx hb dX9_dry_72 ?_
              obtain ⟨r9, hu, h⟩ := bnd_h h
              refine kc_i (kV hC (c_X4_sizeOn l dC dI cc q11 q12 shelf_clogs shelf_day shelf_cells x1 (shelf_day + j7) H.size r9 hu) cv_X9_120 kw459 rfl rfl ⟨(Nat.le_of_ble_eq_true rfl), (Nat.le_of_ble_eq_true rfl)⟩ hP [1, 2] rfl rfl rfl (q0 := 1) rfl (As := [.int x1, .int (shelf_day + j7)]) (rest := []) rfl rfl hl.1 (Nat.le_of_ble_eq_true rfl) dX9_dry_73 ⟨Nat.zero_le _, Nat.zero_le _⟩) hP hA [1, 2] rfl rfl (fun H locs hP => ?_)
              have hP : PD (dC, dI) A s.heap [(q0, .inr (9, [.ref q1, .ref q3, .ref q11, .ref q13, .ref q16, .ref q17, .ref q21, .ref q23, .ref q25, .ref q30])), (q11, .inr (4, [.ref q12, .int shelf_clogs, .int shelf_day])), (q12, .inl (cc 0, 50, .inl shelf_cells))] H locs := hP
              refine lv_iload_n hx hb dX9_dry_76 rfl (lv_at hl 2 rfl) ?_
              refine lv_icmp_eq (tgt := 86) hx hb dX9_dry_77 (by decide) (fun c10 => ?_) (fun c10 => ?_)
              · have h := if_t c10 h
                cases lp_e h hz
                exact KK H locs ls hP (lv_sub hl [0, 1, 2, 3] rfl)
              · have h := if_f c10 h
                refine lv_iinc (v := (j7 + 1)) (lv' := [(4, .int (j7 + 1)), (0, .ref q0), (1, .int x1), (3, .int r5)]) hx hb dX9_dry_80 hl (k := 3) rfl rfl (by decide) rfl (fun ls hl => ?_)
                refine lv_goto (tgt := 51) hx hb dX9_dry_83 (by decide) ?_
                exact ih _ _ (lp_n h hz) H locs ls hP (lv_sub hl [1, 2, 3, 0] rfl) KK
        refine L1 FU _ j7x hlp H locs ls hP (lv_sub hl [2, 3, 1, 0] rfl) (fun H locs ls hP hl => ?_)
        refine lv_iload hx hb dX9_dry_86 (lv_at hl 3 rfl) ?_
        rw [eZ]
        exact ret_i hC hr hlk hP dX9_dry_88 () (⟨Option.some.inj h, rfl⟩) rfl
      · have h := if_t c6 h
        refine lv_iload_n hx hb dX9_dry_46 rfl (lv_at hl 0 rfl) ?_
        rw [eZ]
        exact ret_i hC hr hlk hP dX9_dry_47 () (⟨Option.some.inj h, rfl⟩) rfl
    · have h := if_t c4 h
      refine lv_iconst (v := -1) hx hb dX9_dry_20 (by decide) ?_
      rw [eZ]
      exact ret_i hC hr hlk hP dX9_dry_21 () (⟨Option.some.inj h, rfl⟩) rfl
set_option maxHeartbeats 8000000 in
set_option maxRecDepth 100000 in
theorem c_X9_sawn (l : Launch) (dC : Nat → ClassId) (dI : Nat → Nat → Nat) (cc : Nat → ClassId) (q0 q1 q3 q11 q13 q16 q17 q21 q23 q25 q30 : Nat) (log_length : Int32) (log_block : Int32) (log_knots : Int64) (x1 : Int32) (sz : Nat) (ret : Int32) (hu : f_X9_sawn x1 log_length log_block log_knots = some ret) : Met l yX9_sawn (mw yX9_sawn cX9_sawn 2 (some .int)) ({ frames := 2, cells := 0, slots := 0, locals := 47 } : Room) (va_Pc [.ref q0, .int x1] (mP (dC, dI) (ts cc) sz [(q0, .inr (9, [.ref q1, .ref q3, .ref q11, .ref q13, .ref q16, .ref q17, .ref q21, .ref q23, .ref q25, .ref q30])), (q16, .inr (0, [.int log_length, .int log_block, .long log_knots]))])) ((fun A => va_Qi (fun (r : Int32) (w : Unit) => r = ret ∧ w = ()) (fun (w : Unit) t => va_P (dC, dI) classes [(q0, .inr (9, [.ref q1, .ref q3, .ref q11, .ref q13, .ref q16, .ref q17, .ref q21, .ref q23, .ref q25, .ref q30])), (q16, .inr (0, [.int log_length, .int log_block, .long log_knots]))] t.heap) A) (va_A [(q0, .inr (9, [.ref q1, .ref q3, .ref q11, .ref q13, .ref q16, .ref q17, .ref q21, .ref q23, .ref q25, .ref q30])), (q16, .inr (0, [.int log_length, .int log_block, .long log_knots]))] sz)) 0 0 (va_A [(q0, .inr (9, [.ref q1, .ref q3, .ref q11, .ref q13, .ref q16, .ref q17, .ref q21, .ref q23, .ref q25, .ref q30])), (q16, .inr (0, [.int log_length, .int log_block, .long log_knots]))] sz) := by
  refine met_go (Qc := fun A => va_Qi (fun (r : Int32) (w : Unit) => r = ret ∧ w = ()) (fun (w : Unit) t => va_P (dC, dI) classes [(q0, .inr (9, [.ref q1, .ref q3, .ref q11, .ref q13, .ref q16, .ref q17, .ref q21, .ref q23, .ref q25, .ref q30])), (q16, .inr (0, [.int log_length, .int log_block, .long log_knots]))] t.heap) A) (by decide) (Nat.le_of_ble_eq_true rfl) ?_
  intro p e s m below meth c A ls H locs hC hr hlk hin hA hP hl _
  have hC : CX p m c cX9_sawn 2 s ([.ref q0, .int x1] : List Value).toArray RX9 (dC, dI) (ts cc) := hC
  have hx := hC.1.1
  have hb := hC.1.2
  have h := hu
  have hu0 := hu
  unfold f_X9_sawn at h
  have hl : lv_has ls 2 [(0, .ref q0), (1, .int x1)] := hl
  refine lv_iload_n hx hb dX9_sawn_0 rfl (lv_at hl 1 rfl) ?_
  refine lv_iconst (v := -1) hx hb dX9_sawn_1 (by decide) ?_
  refine lv_icmp_ge (tgt := 7) hx hb dX9_sawn_2 (by decide) (fun c1 => ?_) (fun c1 => ?_)
  · have h := if_t c1 h
    refine lv_aload_n hx hb dX9_sawn_7 rfl (lv_at hl 0 rfl) ?_
    refine g_get hC hP fg_X9_40 0 rfl rfl dX9_sawn_8 ?_
    refine lv_iload_n hx hb dX9_sawn_11 rfl (lv_at hl 1 rfl) ?_
    obtain ⟨r2, hu, h⟩ := bnd_h h
    refine kc_i (kV hC (c_X0_saw l dC dI cc q16 log_length log_block log_knots x1 H.size r2 hu) cv_X9_204 kw667 rfl rfl ⟨(Nat.le_of_ble_eq_true rfl), (Nat.le_of_ble_eq_true rfl)⟩ hP [1] rfl rfl rfl (q0 := 1) rfl (As := [.int x1]) (rest := []) rfl rfl hl.1 (Nat.le_of_ble_eq_true rfl) dX9_sawn_12 ⟨Nat.zero_le _, Nat.zero_le _⟩) hP hA [1] rfl rfl (fun H locs hP => ?_)
    have hP : PD (dC, dI) A s.heap [(q0, .inr (9, [.ref q1, .ref q3, .ref q11, .ref q13, .ref q16, .ref q17, .ref q21, .ref q23, .ref q25, .ref q30])), (q16, .inr (0, [.int log_length, .int log_block, .long log_knots]))] H locs := hP
    exact ret_i hC hr hlk hP dX9_sawn_15 () (⟨Option.some.inj h, rfl⟩) rfl
  · have h := if_f c1 h
    refine lv_iconst (v := -1) hx hb dX9_sawn_5 (by decide) ?_
    exact ret_i hC hr hlk hP dX9_sawn_6 () (⟨Option.some.inj h, rfl⟩) rfl
set_option maxHeartbeats 8000000 in
set_option maxRecDepth 100000 in
theorem c_X9_sizes (l : Launch) (dC : Nat → ClassId) (dI : Nat → Nat → Nat) (cc : Nat → ClassId) (q0 q1 q3 q11 q13 q16 q17 q21 q23 q25 q30 q12 : Nat) (shelf_clogs : Int32) (shelf_day : Int32) (shelf_cells : (Nat → Int32)) (x1 : Int32) (x2 : Int32) (sz : Nat) (ret : Int32) (hu : f_X9_sizes x1 x2 shelf_clogs shelf_day shelf_cells = some ret) : Met l yX9_sizes (mw yX9_sizes cX9_sizes 7 (some .int)) ({ frames := 4, cells := 0, slots := 0, locals := 92 } : Room) (va_Pc [.ref q0, .int x1, .int x2] (mP (dC, dI) (ts cc) sz [(q0, .inr (9, [.ref q1, .ref q3, .ref q11, .ref q13, .ref q16, .ref q17, .ref q21, .ref q23, .ref q25, .ref q30])), (q11, .inr (4, [.ref q12, .int shelf_clogs, .int shelf_day])), (q12, .inl (cc 0, 50, .inl shelf_cells))])) ((fun A => va_Qi (fun (r : Int32) (w : Unit) => r = ret ∧ w = ()) (fun (w : Unit) t => va_P (dC, dI) classes [(q0, .inr (9, [.ref q1, .ref q3, .ref q11, .ref q13, .ref q16, .ref q17, .ref q21, .ref q23, .ref q25, .ref q30])), (q11, .inr (4, [.ref q12, .int shelf_clogs, .int shelf_day])), (q12, .inl (cc 0, 50, .inl shelf_cells))] t.heap) A) (va_A [(q0, .inr (9, [.ref q1, .ref q3, .ref q11, .ref q13, .ref q16, .ref q17, .ref q21, .ref q23, .ref q25, .ref q30])), (q11, .inr (4, [.ref q12, .int shelf_clogs, .int shelf_day])), (q12, .inl (cc 0, 50, .inl shelf_cells))] sz)) 0 0 (va_A [(q0, .inr (9, [.ref q1, .ref q3, .ref q11, .ref q13, .ref q16, .ref q17, .ref q21, .ref q23, .ref q25, .ref q30])), (q11, .inr (4, [.ref q12, .int shelf_clogs, .int shelf_day])), (q12, .inl (cc 0, 50, .inl shelf_cells))] sz) := by
  refine met_go (Qc := fun A => va_Qi (fun (r : Int32) (w : Unit) => r = ret ∧ w = ()) (fun (w : Unit) t => va_P (dC, dI) classes [(q0, .inr (9, [.ref q1, .ref q3, .ref q11, .ref q13, .ref q16, .ref q17, .ref q21, .ref q23, .ref q25, .ref q30])), (q11, .inr (4, [.ref q12, .int shelf_clogs, .int shelf_day])), (q12, .inl (cc 0, 50, .inl shelf_cells))] t.heap) A) (by decide) (Nat.le_of_ble_eq_true rfl) ?_
  intro p e s m below meth c A ls H locs hC hr hlk hin hA hP hl _
  have hC : CX p m c cX9_sizes 7 s ([.ref q0, .int x1, .int x2] : List Value).toArray RX9 (dC, dI) (ts cc) := hC
  have hx := hC.1.1
  have hb := hC.1.2
  have h := hu
  have hu0 := hu
  unfold f_X9_sizes at h
  have hl : lv_has ls 7 [(0, .ref q0), (1, .int x1), (2, .int x2)] := hl
  refine W_abs (fun Z eZ => ?_)
  refine lv_iload_n hx hb dX9_sizes_0 rfl (lv_at hl 1 rfl) ?_
  refine lv_iconst (v := 1) hx hb dX9_sizes_1 (by decide) ?_
  refine lv_iconst (v := 5) hx hb dX9_sizes_2 (by decide) ?_
  obtain ⟨r1, hu, h⟩ := bnd_h h
  refine kc_z (kS hC (c_X9_within l dC dI cc x1 1 5 H.size r1 hu) cs_X9_99 kw338 rfl rfl ⟨(Nat.le_of_ble_eq_true rfl), (Nat.le_of_ble_eq_true rfl)⟩ hP [] rfl rfl (As := [.int x1, .int 1, .int 5]) (rest := []) rfl rfl hl.1 (Nat.le_of_ble_eq_true rfl) dX9_sizes_3 ⟨Nat.zero_le _, Nat.zero_le _⟩) hP hA [] rfl rfl (fun hz_r1 H locs hP => ?_)
  have hP : PD (dC, dI) A s.heap [(q0, .inr (9, [.ref q1, .ref q3, .ref q11, .ref q13, .ref q16, .ref q17, .ref q21, .ref q23, .ref q25, .ref q30])), (q11, .inr (4, [.ref q12, .int shelf_clogs, .int shelf_day])), (q12, .inl (cc 0, 50, .inl shelf_cells))] H locs := hP
  refine lv_if_eq (tgt := 18) hx hb dX9_sizes_6 (by decide) (fun c2 => ?_) (fun c2 => ?_)
  · have h := if_t c2 h
    refine lv_iconst (v := -1) hx hb dX9_sizes_18 (by decide) ?_
    rw [eZ]
    exact ret_i hC hr hlk hP dX9_sizes_19 () (⟨Option.some.inj h, rfl⟩) rfl
  · have h := if_f c2 h
    refine lv_iload_n hx hb dX9_sizes_9 rfl (lv_at hl 2 rfl) ?_
    refine lv_iconst (v := 0) hx hb dX9_sizes_10 (by decide) ?_
    refine lv_iconst (v := 1) hx hb dX9_sizes_11 (by decide) ?_
    obtain ⟨r3, hu, h⟩ := bnd_h h
    refine kc_z (kS hC (c_X9_within l dC dI cc x2 0 1 H.size r3 hu) cs_X9_99 kw338 rfl rfl ⟨(Nat.le_of_ble_eq_true rfl), (Nat.le_of_ble_eq_true rfl)⟩ hP [] rfl rfl (As := [.int x2, .int 0, .int 1]) (rest := []) rfl rfl hl.1 (Nat.le_of_ble_eq_true rfl) dX9_sizes_12 ⟨Nat.zero_le _, Nat.zero_le _⟩) hP hA [] rfl rfl (fun hz_r3 H locs hP => ?_)
    have hP : PD (dC, dI) A s.heap [(q0, .inr (9, [.ref q1, .ref q3, .ref q11, .ref q13, .ref q16, .ref q17, .ref q21, .ref q23, .ref q25, .ref q30])), (q11, .inr (4, [.ref q12, .int shelf_clogs, .int shelf_day])), (q12, .inl (cc 0, 50, .inl shelf_cells))] H locs := hP
    refine lv_if_ne (tgt := 20) hx hb dX9_sizes_15 (by decide) (fun c4 => ?_) (fun c4 => ?_)
    · have h := if_f c4 h
      refine lv_iconst (v := -1) hx hb dX9_sizes_20 (by decide) ?_
      refine lv_istore_n (lv' := [(3, .int (-1)), (0, .ref q0), (1, .int x1), (2, .int x2)]) hx hb dX9_sizes_21 rfl hl (by decide) rfl (fun ls hl => ?_)
      refine lv_iconst (v := 0) hx hb dX9_sizes_22 (by decide) ?_
      refine lv_istore (lv' := [(4, .int 0), (3, .int (-1)), (0, .ref q0), (1, .int x1), (2, .int x2)]) hx hb dX9_sizes_23 hl (by decide) rfl (fun ls hl => ?_)
      refine lv_iconst (v := 1) hx hb dX9_sizes_25 (by decide) ?_
      refine lv_istore (lv' := [(5, .int 1), (4, .int 0), (3, .int (-1)), (0, .ref q0), (1, .int x1), (2, .int x2)]) hx hb dX9_sizes_26 hl (by decide) rfl (fun ls hl => ?_)
      obtain ⟨⟨j5x, j6x, j7x⟩, hlp, h⟩ := bnd_h h
      have L1 : ∀ (n : Nat) (j5 : Int32) (j6 : Int32) (j7 : Int32) (j5x : Int32) (j6x : Int32) (j7x : Int32), lp (u3 (b_X9_sizes_1 shelf_cells shelf_clogs shelf_day x1)) n (j5, j6, j7) = some (j5x, j6x, j7x) → ∀ (H : Heap) (locs : List Loc) (ls : Array Slot), PD (dC, dI) A s.heap [(q0, .inr (9, [.ref q1, .ref q3, .ref q11, .ref q13, .ref q16, .ref q17, .ref q21, .ref q23, .ref q25, .ref q30])), (q11, .inr (4, [.ref q12, .int shelf_clogs, .int shelf_day])), (q12, .inl (cc 0, 50, .inl shelf_cells))] H locs → lv_has ls 7 [(0, .ref q0), (1, .int x1), (2, .int x2), (3, .int j5), (4, .int j6), (5, .int j7)] → (∀ (H : Heap) (locs : List Loc) (ls : Array Slot), PD (dC, dI) A s.heap [(q0, .inr (9, [.ref q1, .ref q3, .ref q11, .ref q13, .ref q16, .ref q17, .ref q21, .ref q23, .ref q25, .ref q30])), (q11, .inr (4, [.ref q12, .int shelf_clogs, .int shelf_day])), (q12, .inl (cc 0, 50, .inl shelf_cells))] H locs → lv_has ls 7 [(0, .ref q0), (1, .int x1), (2, .int x2), (3, .int j5x), (4, .int j6x), (5, .int j7x)] → W p l e ({ frames := 4, cells := 0, slots := 0, locals := 92 } : Room) s m ([.ref q0, .int x1, .int x2] : List Value).toArray below meth c H locs 0 0 Z (F0 m 66 ls [])) → W p l e ({ frames := 4, cells := 0, slots := 0, locals := 92 } : Room) s m ([.ref q0, .int x1, .int x2] : List Value).toArray below meth c H locs 0 0 Z (F0 m 28 ls []) := by
        intro n
        induction n with
        | zero => intro j5 j6 j7 j5x j6x j7x h; exact (lp_0 h).elim
        | succ n ih =>
          intro j5 j6 j7 j5x j6x j7x h H locs ls hP hl KK
          obtain ⟨y, h, hz⟩ := lp_h h
          refine lv_iload hx hb dX9_sizes_28 (lv_at hl 5 rfl) ?_
          refine lv_bipush (v := 72) hx hb dX9_sizes_30 (by decide) ?_
          refine lv_icmp_gt (tgt := 66) hx hb dX9_sizes_32 (by decide) (fun c8 => ?_) (fun c8 => ?_)
          · have h := if_t c8 h
            cases lp_e h hz
            exact KK H locs ls hP (lv_sub hl [0, 1, 2, 3, 4, 5] rfl)
          · have h := if_f c8 h
            refine lv_aload_n hx hb dX9_sizes_35 rfl (lv_at hl 0 rfl) ?_
            refine g_get hC hP fg_X9_26 0 rfl rfl dX9_sizes_36 ?_
            refine lv_iload hx hb dX9_sizes_39 (lv_at hl 5 rfl) ?_
            refine lv_iload_n hx hb dX9_sizes_41 rfl (lv_at hl 1 rfl) ?_
            obtain ⟨r9, hu, h⟩ := bnd_h h
            refine kc_i (kV hC (c_X4_unholedFrom l dC dI cc q11 q12 shelf_clogs shelf_day shelf_cells j7 x1 H.size r9 hu) cv_X9_207 kw679 rfl rfl ⟨(Nat.le_of_ble_eq_true rfl), (Nat.le_of_ble_eq_true rfl)⟩ hP [1, 2] rfl rfl rfl (q0 := 1) rfl (As := [.int j7, .int x1]) (rest := []) rfl rfl hl.1 (Nat.le_of_ble_eq_true rfl) dX9_sizes_42 ⟨Nat.zero_le _, Nat.zero_le _⟩) hP hA [1, 2] rfl rfl (fun H locs hP => ?_)
            have hP : PD (dC, dI) A s.heap [(q0, .inr (9, [.ref q1, .ref q3, .ref q11, .ref q13, .ref q16, .ref q17, .ref q21, .ref q23, .ref q25, .ref q30])), (q11, .inr (4, [.ref q12, .int shelf_clogs, .int shelf_day])), (q12, .inl (cc 0, 50, .inl shelf_cells))] H locs := hP
            refine lv_istore (lv' := [(6, .int r9), (0, .ref q0), (1, .int x1), (2, .int x2), (3, .int j5), (4, .int j6), (5, .int j7)]) hx hb dX9_sizes_45 hl (by decide) rfl (fun ls hl => ?_)
            refine lv_iload hx hb dX9_sizes_47 (lv_at hl 0 rfl) ?_
            refine lv_iload_n hx hb dX9_sizes_49 rfl (lv_at hl 4 rfl) ?_
            refine lv_icmp_le (tgt := 60) hx hb dX9_sizes_50 (by decide) (fun c10 => ?_) (fun c10 => ?_)
            · have h := if_t c10 h
              refine lv_iinc (v := (j7 + 1)) (lv' := [(5, .int (j7 + 1)), (6, .int r9), (0, .ref q0), (1, .int x1), (2, .int x2), (3, .int j5), (4, .int j6)]) hx hb dX9_sizes_60 hl (k := 6) rfl rfl (by decide) rfl (fun ls hl => ?_)
              refine lv_goto (tgt := 28) hx hb dX9_sizes_63 (by decide) ?_
              exact ih _ _ _ _ _ _ (lp_n h hz) H locs ls hP (lv_sub hl [2, 3, 4, 5, 6, 0] rfl) KK
            · have h := if_f c10 h
              refine lv_iload hx hb dX9_sizes_53 (lv_at hl 0 rfl) ?_
              refine lv_istore_n (lv' := [(3, .int r9), (6, .int r9), (0, .ref q0), (1, .int x1), (2, .int x2), (4, .int j6), (5, .int j7)]) hx hb dX9_sizes_55 rfl hl (by decide) rfl (fun ls hl => ?_)
              refine lv_iload hx hb dX9_sizes_56 (lv_at hl 6 rfl) ?_
              refine lv_istore (lv' := [(4, .int j7), (3, .int r9), (6, .int r9), (0, .ref q0), (1, .int x1), (2, .int x2), (5, .int j7)]) hx hb dX9_sizes_58 hl (by decide) rfl (fun ls hl => ?_)
              refine lv_iinc (v := (j7 + 1)) (lv' := [(5, .int (j7 + 1)), (4, .int j7), (3, .int r9), (6, .int r9), (0, .ref q0), (1, .int x1), (2, .int x2)]) hx hb dX9_sizes_60 hl (k := 6) rfl rfl (by decide) rfl (fun ls hl => ?_)
              refine lv_goto (tgt := 28) hx hb dX9_sizes_63 (by decide) ?_
              exact ih _ _ _ _ _ _ (lp_n h hz) H locs ls hP (lv_sub hl [4, 5, 6, 2, 1, 0] rfl) KK
      refine L1 FU _ _ _ j5x j6x j7x hlp H locs ls hP (lv_sub hl [3, 4, 5, 2, 1, 0] rfl) (fun H locs ls hP hl => ?_)
      refine lv_iload_n hx hb dX9_sizes_66 rfl (lv_at hl 2 rfl) ?_
      refine lv_if_ne (tgt := 75) hx hb dX9_sizes_67 (by decide) (fun c11 => ?_) (fun c11 => ?_)
      · have h := if_f c11 h
        refine lv_iload_n hx hb dX9_sizes_75 rfl (lv_at hl 3 rfl) ?_
        rw [eZ]
        exact ret_i hC hr hlk hP dX9_sizes_76 () (⟨Option.some.inj h, rfl⟩) rfl
      · have h := if_t c11 h
        refine lv_iload hx hb dX9_sizes_70 (lv_at hl 4 rfl) ?_
        refine lv_goto (tgt := 76) hx hb dX9_sizes_72 (by decide) ?_
        rw [eZ]
        exact ret_i hC hr hlk hP dX9_sizes_76 () (⟨Option.some.inj h, rfl⟩) rfl
    · have h := if_t c4 h
      refine lv_iconst (v := -1) hx hb dX9_sizes_18 (by decide) ?_
      rw [eZ]
      exact ret_i hC hr hlk hP dX9_sizes_19 () (⟨Option.some.inj h, rfl⟩) rfl
set_option maxHeartbeats 8000000 in
set_option maxRecDepth 100000 in
theorem c_X9_heard (l : Launch) (dC : Nat → ClassId) (dI : Nat → Nat → Nat) (cc : Nat → ClassId) (q0 q1 q3 q11 q13 q16 q17 q21 q23 q25 q30 q18 q19 q20 : Nat) (walls_sounds : Int32) (walls_clogs : (Nat → Int32)) (walls_limits : (Nat → Int32)) (walls_clears : (Nat → Int32)) (x1 : Int32) (x2 : Int32) (x3 : Int32) (sz : Nat) (ret : Int32) (o_walls_clogs : (Nat → Int32)) (o_walls_limits : (Nat → Int32)) (o_walls_clears : (Nat → Int32)) (o_walls_sounds : Int32) (hu : f_X9_heard x1 x2 x3 walls_sounds walls_clogs walls_limits walls_clears = some (ret, o_walls_clogs, o_walls_limits, o_walls_clears, o_walls_sounds)) : Met l yX9_heard (mw yX9_heard cX9_heard 4 (some .int)) ({ frames := 2, cells := 0, slots := 0, locals := 45 } : Room) (va_Pc [.ref q0, .int x1, .int x2, .int x3] (mP (dC, dI) (ts cc) sz [(q0, .inr (9, [.ref q1, .ref q3, .ref q11, .ref q13, .ref q16, .ref q17, .ref q21, .ref q23, .ref q25, .ref q30])), (q17, .inr (7, [.ref q18, .ref q19, .ref q20, .int walls_sounds])), (q18, .inl (cc 0, 8, .inl walls_clogs)), (q19, .inl (cc 0, 8, .inl walls_limits)), (q20, .inl (cc 0, 8, .inl walls_clears))])) ((fun A => va_Qi (fun (r : Int32) (w : (Nat → Int32) × (Nat → Int32) × (Nat → Int32) × Int32) => r = ret ∧ w = (o_walls_clogs, o_walls_limits, o_walls_clears, o_walls_sounds)) (fun (w : (Nat → Int32) × (Nat → Int32) × (Nat → Int32) × Int32) t => va_P (dC, dI) classes [(q0, .inr (9, [.ref q1, .ref q3, .ref q11, .ref q13, .ref q16, .ref q17, .ref q21, .ref q23, .ref q25, .ref q30])), (q17, .inr (7, [.ref q18, .ref q19, .ref q20, .int w.2.2.2])), (q18, .inl (cc 0, 8, .inl w.1)), (q19, .inl (cc 0, 8, .inl w.2.1)), (q20, .inl (cc 0, 8, .inl w.2.2.1))] t.heap) A) (va_A [(q0, .inr (9, [.ref q1, .ref q3, .ref q11, .ref q13, .ref q16, .ref q17, .ref q21, .ref q23, .ref q25, .ref q30])), (q17, .inr (7, [.ref q18, .ref q19, .ref q20, .int walls_sounds])), (q18, .inl (cc 0, 8, .inl walls_clogs)), (q19, .inl (cc 0, 8, .inl walls_limits)), (q20, .inl (cc 0, 8, .inl walls_clears))] sz)) 0 0 (va_A [(q0, .inr (9, [.ref q1, .ref q3, .ref q11, .ref q13, .ref q16, .ref q17, .ref q21, .ref q23, .ref q25, .ref q30])), (q17, .inr (7, [.ref q18, .ref q19, .ref q20, .int walls_sounds])), (q18, .inl (cc 0, 8, .inl walls_clogs)), (q19, .inl (cc 0, 8, .inl walls_limits)), (q20, .inl (cc 0, 8, .inl walls_clears))] sz) := by
  refine met_go (Qc := fun A => va_Qi (fun (r : Int32) (w : (Nat → Int32) × (Nat → Int32) × (Nat → Int32) × Int32) => r = ret ∧ w = (o_walls_clogs, o_walls_limits, o_walls_clears, o_walls_sounds)) (fun (w : (Nat → Int32) × (Nat → Int32) × (Nat → Int32) × Int32) t => va_P (dC, dI) classes [(q0, .inr (9, [.ref q1, .ref q3, .ref q11, .ref q13, .ref q16, .ref q17, .ref q21, .ref q23, .ref q25, .ref q30])), (q17, .inr (7, [.ref q18, .ref q19, .ref q20, .int w.2.2.2])), (q18, .inl (cc 0, 8, .inl w.1)), (q19, .inl (cc 0, 8, .inl w.2.1)), (q20, .inl (cc 0, 8, .inl w.2.2.1))] t.heap) A) (by decide) (Nat.le_of_ble_eq_true rfl) ?_
  intro p e s m below meth c A ls H locs hC hr hlk hin hA hP hl _
  have hC : CX p m c cX9_heard 4 s ([.ref q0, .int x1, .int x2, .int x3] : List Value).toArray RX9 (dC, dI) (ts cc) := hC
  have hx := hC.1.1
  have hb := hC.1.2
  have h := hu
  have hu0 := hu
  unfold f_X9_heard at h
  have hl : lv_has ls 4 [(0, .ref q0), (1, .int x1), (2, .int x2), (3, .int x3)] := hl
  refine lv_iload_n hx hb dX9_heard_0 rfl (lv_at hl 1 rfl) ?_
  refine lv_iconst (v := 0) hx hb dX9_heard_1 (by decide) ?_
  refine lv_bipush (v := 9) hx hb dX9_heard_2 (by decide) ?_
  obtain ⟨r1, hu, h⟩ := bnd_h h
  refine kc_z (kS hC (c_X9_within l dC dI cc x1 0 9 H.size r1 hu) cs_X9_99 kw338 rfl rfl ⟨(Nat.le_of_ble_eq_true rfl), (Nat.le_of_ble_eq_true rfl)⟩ hP [] rfl rfl (As := [.int x1, .int 0, .int 9]) (rest := []) rfl rfl hl.1 (Nat.le_of_ble_eq_true rfl) dX9_heard_4 ⟨Nat.zero_le _, Nat.zero_le _⟩) hP hA [] rfl rfl (fun hz_r1 H locs hP => ?_)
  have hP : PD (dC, dI) A s.heap [(q0, .inr (9, [.ref q1, .ref q3, .ref q11, .ref q13, .ref q16, .ref q17, .ref q21, .ref q23, .ref q25, .ref q30])), (q17, .inr (7, [.ref q18, .ref q19, .ref q20, .int walls_sounds])), (q18, .inl (cc 0, 8, .inl walls_clogs)), (q19, .inl (cc 0, 8, .inl walls_limits)), (q20, .inl (cc 0, 8, .inl walls_clears))] H locs := hP
  refine lv_if_eq (tgt := 29) hx hb dX9_heard_7 (by decide) (fun c2 => ?_) (fun c2 => ?_)
  · have h := if_t c2 h
    refine lv_iconst (v := -1) hx hb dX9_heard_29 (by decide) ?_
    exact ret_i hC hr hlk hP dX9_heard_30 (walls_clogs, walls_limits, walls_clears, walls_sounds) (Prod.mk.inj (Option.some.inj h)) rfl
  · have h := if_f c2 h
    refine lv_iload_n hx hb dX9_heard_10 rfl (lv_at hl 2 rfl) ?_
    refine lv_iconst (v := 1) hx hb dX9_heard_11 (by decide) ?_
    refine lv_bipush (v := 9) hx hb dX9_heard_12 (by decide) ?_
    obtain ⟨r3, hu, h⟩ := bnd_h h
    refine kc_z (kS hC (c_X9_within l dC dI cc x2 1 9 H.size r3 hu) cs_X9_99 kw338 rfl rfl ⟨(Nat.le_of_ble_eq_true rfl), (Nat.le_of_ble_eq_true rfl)⟩ hP [] rfl rfl (As := [.int x2, .int 1, .int 9]) (rest := []) rfl rfl hl.1 (Nat.le_of_ble_eq_true rfl) dX9_heard_14 ⟨Nat.zero_le _, Nat.zero_le _⟩) hP hA [] rfl rfl (fun hz_r3 H locs hP => ?_)
    have hP : PD (dC, dI) A s.heap [(q0, .inr (9, [.ref q1, .ref q3, .ref q11, .ref q13, .ref q16, .ref q17, .ref q21, .ref q23, .ref q25, .ref q30])), (q17, .inr (7, [.ref q18, .ref q19, .ref q20, .int walls_sounds])), (q18, .inl (cc 0, 8, .inl walls_clogs)), (q19, .inl (cc 0, 8, .inl walls_limits)), (q20, .inl (cc 0, 8, .inl walls_clears))] H locs := hP
    refine lv_if_eq (tgt := 29) hx hb dX9_heard_17 (by decide) (fun c4 => ?_) (fun c4 => ?_)
    · have h := if_t c4 h
      refine lv_iconst (v := -1) hx hb dX9_heard_29 (by decide) ?_
      exact ret_i hC hr hlk hP dX9_heard_30 (walls_clogs, walls_limits, walls_clears, walls_sounds) (Prod.mk.inj (Option.some.inj h)) rfl
    · have h := if_f c4 h
      refine lv_iload_n hx hb dX9_heard_20 rfl (lv_at hl 3 rfl) ?_
      refine lv_iconst (v := 0) hx hb dX9_heard_21 (by decide) ?_
      refine lv_iconst (v := 1) hx hb dX9_heard_22 (by decide) ?_
      obtain ⟨r5, hu, h⟩ := bnd_h h
      refine kc_z (kS hC (c_X9_within l dC dI cc x3 0 1 H.size r5 hu) cs_X9_99 kw338 rfl rfl ⟨(Nat.le_of_ble_eq_true rfl), (Nat.le_of_ble_eq_true rfl)⟩ hP [] rfl rfl (As := [.int x3, .int 0, .int 1]) (rest := []) rfl rfl hl.1 (Nat.le_of_ble_eq_true rfl) dX9_heard_23 ⟨Nat.zero_le _, Nat.zero_le _⟩) hP hA [] rfl rfl (fun hz_r5 H locs hP => ?_)
      have hP : PD (dC, dI) A s.heap [(q0, .inr (9, [.ref q1, .ref q3, .ref q11, .ref q13, .ref q16, .ref q17, .ref q21, .ref q23, .ref q25, .ref q30])), (q17, .inr (7, [.ref q18, .ref q19, .ref q20, .int walls_sounds])), (q18, .inl (cc 0, 8, .inl walls_clogs)), (q19, .inl (cc 0, 8, .inl walls_limits)), (q20, .inl (cc 0, 8, .inl walls_clears))] H locs := hP
      refine lv_if_ne (tgt := 31) hx hb dX9_heard_26 (by decide) (fun c6 => ?_) (fun c6 => ?_)
      · have h := if_f c6 h
        refine lv_aload_n hx hb dX9_heard_31 rfl (lv_at hl 0 rfl) ?_
        refine g_get hC hP fg_X9_47 0 rfl rfl dX9_heard_32 ?_
        refine g_get hC hP fg_X9_210 1 rfl rfl dX9_heard_35 ?_
        refine lv_bipush (v := 8) hx hb dX9_heard_38 (by decide) ?_
        refine lv_icmp_lt (tgt := 46) hx hb dX9_heard_40 (by decide) (fun c7 => ?_) (fun c7 => ?_)
        · have h := if_t c7 h
          refine lv_aload_n hx hb dX9_heard_46 rfl (lv_at hl 0 rfl) ?_
          refine g_get hC hP fg_X9_47 0 rfl rfl dX9_heard_47 ?_
          refine lv_iload_n hx hb dX9_heard_50 rfl (lv_at hl 1 rfl) ?_
          refine lv_iload_n hx hb dX9_heard_51 rfl (lv_at hl 2 rfl) ?_
          refine lv_iload_n hx hb dX9_heard_52 rfl (lv_at hl 3 rfl) ?_
          obtain ⟨⟨w8, w9, w10, w11⟩, hu, h⟩ := bnd_h h
          refine kc_v (kV hC (c_X7_add l dC dI cc q17 q18 q19 q20 walls_sounds walls_clogs walls_limits walls_clears x1 x2 x3 H.size w8 w9 w10 w11 hu) cv_X9_213 kw687 rfl rfl ⟨(Nat.le_of_ble_eq_true rfl), (Nat.le_of_ble_eq_true rfl)⟩ hP [1, 2, 3, 4] rfl rfl rfl (q0 := 1) rfl (As := [.int x1, .int x2, .int x3]) (rest := []) rfl rfl hl.1 (Nat.le_of_ble_eq_true rfl) dX9_heard_53 ⟨Nat.zero_le _, Nat.zero_le _⟩) hP hA [1, 2, 3, 4] rfl rfl (fun H locs hP => ?_)
          have hP : PD (dC, dI) A s.heap [(q0, .inr (9, [.ref q1, .ref q3, .ref q11, .ref q13, .ref q16, .ref q17, .ref q21, .ref q23, .ref q25, .ref q30])), (q17, .inr (7, [.ref q18, .ref q19, .ref q20, .int w11])), (q18, .inl (cc 0, 8, .inl w8)), (q19, .inl (cc 0, 8, .inl w9)), (q20, .inl (cc 0, 8, .inl w10))] H locs := hP
          refine lv_aload_n hx hb dX9_heard_56 rfl (lv_at hl 0 rfl) ?_
          refine g_get hC hP fg_X9_47 0 rfl rfl dX9_heard_57 ?_
          refine g_get hC hP fg_X9_210 1 rfl rfl dX9_heard_60 ?_
          exact ret_i hC hr hlk hP dX9_heard_63 (w8, w9, w10, w11) (Prod.mk.inj (Option.some.inj h)) rfl
        · have h := if_f c7 h
          refine lv_bipush (v := -3) hx hb dX9_heard_43 (by decide) ?_
          exact ret_i hC hr hlk hP dX9_heard_45 (walls_clogs, walls_limits, walls_clears, walls_sounds) (Prod.mk.inj (Option.some.inj h)) rfl
      · have h := if_t c6 h
        refine lv_iconst (v := -1) hx hb dX9_heard_29 (by decide) ?_
        exact ret_i hC hr hlk hP dX9_heard_30 (walls_clogs, walls_limits, walls_clears, walls_sounds) (Prod.mk.inj (Option.some.inj h)) rfl
set_option maxHeartbeats 8000000 in
set_option maxRecDepth 100000 in
theorem c_X9_forget (l : Launch) (dC : Nat → ClassId) (dI : Nat → Nat → Nat) (cc : Nat → ClassId) (q0 q1 q3 q11 q13 q16 q17 q21 q23 q25 q30 q18 q19 q20 : Nat) (walls_sounds : Int32) (sz : Nat) (ret : Int32) (o_walls_sounds : Int32) (hu : f_X9_forget walls_sounds = some (ret, o_walls_sounds)) : Met l yX9_forget (mw yX9_forget cX9_forget 2 (some .int)) ({ frames := 0, cells := 0, slots := 0, locals := 0 } : Room) (va_Pc [.ref q0] (mP (dC, dI) (ts cc) sz [(q0, .inr (9, [.ref q1, .ref q3, .ref q11, .ref q13, .ref q16, .ref q17, .ref q21, .ref q23, .ref q25, .ref q30])), (q17, .inr (7, [.ref q18, .ref q19, .ref q20, .int walls_sounds]))])) ((fun A => va_Qi (fun (r : Int32) (w : Int32) => r = ret ∧ w = o_walls_sounds) (fun (w : Int32) t => va_P (dC, dI) classes [(q0, .inr (9, [.ref q1, .ref q3, .ref q11, .ref q13, .ref q16, .ref q17, .ref q21, .ref q23, .ref q25, .ref q30])), (q17, .inr (7, [.ref q18, .ref q19, .ref q20, .int w]))] t.heap) A) (va_A [(q0, .inr (9, [.ref q1, .ref q3, .ref q11, .ref q13, .ref q16, .ref q17, .ref q21, .ref q23, .ref q25, .ref q30])), (q17, .inr (7, [.ref q18, .ref q19, .ref q20, .int walls_sounds]))] sz)) 0 0 (va_A [(q0, .inr (9, [.ref q1, .ref q3, .ref q11, .ref q13, .ref q16, .ref q17, .ref q21, .ref q23, .ref q25, .ref q30])), (q17, .inr (7, [.ref q18, .ref q19, .ref q20, .int walls_sounds]))] sz) := by
  refine met_go (Qc := fun A => va_Qi (fun (r : Int32) (w : Int32) => r = ret ∧ w = o_walls_sounds) (fun (w : Int32) t => va_P (dC, dI) classes [(q0, .inr (9, [.ref q1, .ref q3, .ref q11, .ref q13, .ref q16, .ref q17, .ref q21, .ref q23, .ref q25, .ref q30])), (q17, .inr (7, [.ref q18, .ref q19, .ref q20, .int w]))] t.heap) A) (by decide) (Nat.le_of_ble_eq_true rfl) ?_
  intro p e s m below meth c A ls H locs hC hr hlk hin hA hP hl _
  have hC : CX p m c cX9_forget 2 s ([.ref q0] : List Value).toArray RX9 (dC, dI) (ts cc) := hC
  have hx := hC.1.1
  have hb := hC.1.2
  have h := hu
  have hu0 := hu
  unfold f_X9_forget at h
  have hl : lv_has ls 2 [(0, .ref q0)] := hl
  refine lv_aload_n hx hb dX9_forget_0 rfl (lv_at hl 0 rfl) ?_
  refine g_get hC hP fg_X9_47 0 rfl rfl dX9_forget_1 ?_
  refine g_get hC hP fg_X9_210 1 rfl rfl dX9_forget_4 ?_
  refine lv_istore_n (lv' := [(1, .int walls_sounds), (0, .ref q0)]) hx hb dX9_forget_7 rfl hl (by decide) rfl (fun ls hl => ?_)
  refine lv_aload_n hx hb dX9_forget_8 rfl (lv_at hl 1 rfl) ?_
  refine g_get hC hP fg_X9_47 0 rfl rfl dX9_forget_9 ?_
  refine lv_iconst (v := 0) hx hb dX9_forget_12 (by decide) ?_
  refine g_put hC hP fg_X9_210 1 rfl rfl rfl (Nat.le_of_ble_eq_true rfl) dX9_forget_13 (fun H locs hP => ?_)
  have hP : PD (dC, dI) A s.heap [(q0, .inr (9, [.ref q1, .ref q3, .ref q11, .ref q13, .ref q16, .ref q17, .ref q21, .ref q23, .ref q25, .ref q30])), (q17, .inr (7, [.ref q18, .ref q19, .ref q20, .int 0]))] H locs := hP
  refine lv_iload_n hx hb dX9_forget_16 rfl (lv_at hl 0 rfl) ?_
  exact ret_i hC hr hlk hP dX9_forget_17 0 (Prod.mk.inj (Option.some.inj h)) rfl
set_option maxHeartbeats 8000000 in
set_option maxRecDepth 100000 in
theorem c_X9_thick (l : Launch) (dC : Nat → ClassId) (dI : Nat → Nat → Nat) (cc : Nat → ClassId) (q0 q1 q3 q11 q13 q16 q17 q21 q23 q25 q30 q18 q19 q20 : Nat) (walls_sounds : Int32) (walls_clogs : (Nat → Int32)) (walls_limits : (Nat → Int32)) (walls_clears : (Nat → Int32)) (x1 : Int32) (sz : Nat) (ret : Int32) (hu : f_X9_thick x1 walls_sounds walls_clogs walls_limits walls_clears = some ret) : Met l yX9_thick (mw yX9_thick cX9_thick 2 (some .int)) ({ frames := 3, cells := 0, slots := 0, locals := 68 } : Room) (va_Pc [.ref q0, .int x1] (mP (dC, dI) (ts cc) sz [(q0, .inr (9, [.ref q1, .ref q3, .ref q11, .ref q13, .ref q16, .ref q17, .ref q21, .ref q23, .ref q25, .ref q30])), (q17, .inr (7, [.ref q18, .ref q19, .ref q20, .int walls_sounds])), (q18, .inl (cc 0, 8, .inl walls_clogs)), (q19, .inl (cc 0, 8, .inl walls_limits)), (q20, .inl (cc 0, 8, .inl walls_clears))])) ((fun A => va_Qi (fun (r : Int32) (w : Unit) => r = ret ∧ w = ()) (fun (w : Unit) t => va_P (dC, dI) classes [(q0, .inr (9, [.ref q1, .ref q3, .ref q11, .ref q13, .ref q16, .ref q17, .ref q21, .ref q23, .ref q25, .ref q30])), (q17, .inr (7, [.ref q18, .ref q19, .ref q20, .int walls_sounds])), (q18, .inl (cc 0, 8, .inl walls_clogs)), (q19, .inl (cc 0, 8, .inl walls_limits)), (q20, .inl (cc 0, 8, .inl walls_clears))] t.heap) A) (va_A [(q0, .inr (9, [.ref q1, .ref q3, .ref q11, .ref q13, .ref q16, .ref q17, .ref q21, .ref q23, .ref q25, .ref q30])), (q17, .inr (7, [.ref q18, .ref q19, .ref q20, .int walls_sounds])), (q18, .inl (cc 0, 8, .inl walls_clogs)), (q19, .inl (cc 0, 8, .inl walls_limits)), (q20, .inl (cc 0, 8, .inl walls_clears))] sz)) 0 0 (va_A [(q0, .inr (9, [.ref q1, .ref q3, .ref q11, .ref q13, .ref q16, .ref q17, .ref q21, .ref q23, .ref q25, .ref q30])), (q17, .inr (7, [.ref q18, .ref q19, .ref q20, .int walls_sounds])), (q18, .inl (cc 0, 8, .inl walls_clogs)), (q19, .inl (cc 0, 8, .inl walls_limits)), (q20, .inl (cc 0, 8, .inl walls_clears))] sz) := by
  refine met_go (Qc := fun A => va_Qi (fun (r : Int32) (w : Unit) => r = ret ∧ w = ()) (fun (w : Unit) t => va_P (dC, dI) classes [(q0, .inr (9, [.ref q1, .ref q3, .ref q11, .ref q13, .ref q16, .ref q17, .ref q21, .ref q23, .ref q25, .ref q30])), (q17, .inr (7, [.ref q18, .ref q19, .ref q20, .int walls_sounds])), (q18, .inl (cc 0, 8, .inl walls_clogs)), (q19, .inl (cc 0, 8, .inl walls_limits)), (q20, .inl (cc 0, 8, .inl walls_clears))] t.heap) A) (by decide) (Nat.le_of_ble_eq_true rfl) ?_
  intro p e s m below meth c A ls H locs hC hr hlk hin hA hP hl _
  have hC : CX p m c cX9_thick 2 s ([.ref q0, .int x1] : List Value).toArray RX9 (dC, dI) (ts cc) := hC
  have hx := hC.1.1
  have hb := hC.1.2
  have h := hu
  have hu0 := hu
  unfold f_X9_thick at h
  have hl : lv_has ls 2 [(0, .ref q0), (1, .int x1)] := hl
  refine lv_iload_n hx hb dX9_thick_0 rfl (lv_at hl 1 rfl) ?_
  refine lv_iconst (v := 0) hx hb dX9_thick_1 (by decide) ?_
  refine lv_bipush (v := 9) hx hb dX9_thick_2 (by decide) ?_
  obtain ⟨r1, hu, h⟩ := bnd_h h
  refine kc_z (kS hC (c_X9_within l dC dI cc x1 0 9 H.size r1 hu) cs_X9_99 kw338 rfl rfl ⟨(Nat.le_of_ble_eq_true rfl), (Nat.le_of_ble_eq_true rfl)⟩ hP [] rfl rfl (As := [.int x1, .int 0, .int 9]) (rest := []) rfl rfl hl.1 (Nat.le_of_ble_eq_true rfl) dX9_thick_4 ⟨Nat.zero_le _, Nat.zero_le _⟩) hP hA [] rfl rfl (fun hz_r1 H locs hP => ?_)
  have hP : PD (dC, dI) A s.heap [(q0, .inr (9, [.ref q1, .ref q3, .ref q11, .ref q13, .ref q16, .ref q17, .ref q21, .ref q23, .ref q25, .ref q30])), (q17, .inr (7, [.ref q18, .ref q19, .ref q20, .int walls_sounds])), (q18, .inl (cc 0, 8, .inl walls_clogs)), (q19, .inl (cc 0, 8, .inl walls_limits)), (q20, .inl (cc 0, 8, .inl walls_clears))] H locs := hP
  refine lv_if_ne (tgt := 12) hx hb dX9_thick_7 (by decide) (fun c2 => ?_) (fun c2 => ?_)
  · have h := if_f c2 h
    refine lv_aload_n hx hb dX9_thick_12 rfl (lv_at hl 0 rfl) ?_
    refine g_get hC hP fg_X9_47 0 rfl rfl dX9_thick_13 ?_
    refine lv_iload_n hx hb dX9_thick_16 rfl (lv_at hl 1 rfl) ?_
    obtain ⟨r3, hu, h⟩ := bnd_h h
    refine kc_i (kV hC (c_X7_thicknesses l dC dI cc q17 q18 q19 q20 walls_sounds walls_clogs walls_limits walls_clears x1 H.size r3 hu) cv_X9_216 kw700 rfl rfl ⟨(Nat.le_of_ble_eq_true rfl), (Nat.le_of_ble_eq_true rfl)⟩ hP [1, 2, 3, 4] rfl rfl rfl (q0 := 1) rfl (As := [.int x1]) (rest := []) rfl rfl hl.1 (Nat.le_of_ble_eq_true rfl) dX9_thick_17 ⟨Nat.zero_le _, Nat.zero_le _⟩) hP hA [1, 2, 3, 4] rfl rfl (fun H locs hP => ?_)
    have hP : PD (dC, dI) A s.heap [(q0, .inr (9, [.ref q1, .ref q3, .ref q11, .ref q13, .ref q16, .ref q17, .ref q21, .ref q23, .ref q25, .ref q30])), (q17, .inr (7, [.ref q18, .ref q19, .ref q20, .int walls_sounds])), (q18, .inl (cc 0, 8, .inl walls_clogs)), (q19, .inl (cc 0, 8, .inl walls_limits)), (q20, .inl (cc 0, 8, .inl walls_clears))] H locs := hP
    exact ret_i hC hr hlk hP dX9_thick_20 () (⟨Option.some.inj h, rfl⟩) rfl
  · have h := if_t c2 h
    refine lv_iconst (v := -1) hx hb dX9_thick_10 (by decide) ?_
    exact ret_i hC hr hlk hP dX9_thick_11 () (⟨Option.some.inj h, rfl⟩) rfl
set_option maxHeartbeats 8000000 in
set_option maxRecDepth 100000 in
theorem c_X9_whole (l : Launch) (dC : Nat → ClassId) (dI : Nat → Nat → Nat) (cc : Nat → ClassId) (q0 q1 q3 q11 q13 q16 q17 q21 q23 q25 q30 : Nat) (x1 : Int32) (x2 : Int32) (x3 : Int32) (sz : Nat) (ret : Int32) (hu : f_X9_whole x1 x2 x3 = some ret) : Met l yX9_whole (mw yX9_whole cX9_whole 6 (some .int)) ({ frames := 1, cells := 0, slots := 0, locals := 24 } : Room) (va_Pc [.ref q0, .int x1, .int x2, .int x3] (mP (dC, dI) (ts cc) sz [(q0, .inr (9, [.ref q1, .ref q3, .ref q11, .ref q13, .ref q16, .ref q17, .ref q21, .ref q23, .ref q25, .ref q30]))])) ((fun A => va_Qi (fun (r : Int32) (w : Unit) => r = ret ∧ w = ()) (fun (w : Unit) t => va_P (dC, dI) classes [(q0, .inr (9, [.ref q1, .ref q3, .ref q11, .ref q13, .ref q16, .ref q17, .ref q21, .ref q23, .ref q25, .ref q30]))] t.heap) A) (va_A [(q0, .inr (9, [.ref q1, .ref q3, .ref q11, .ref q13, .ref q16, .ref q17, .ref q21, .ref q23, .ref q25, .ref q30]))] sz)) 0 0 (va_A [(q0, .inr (9, [.ref q1, .ref q3, .ref q11, .ref q13, .ref q16, .ref q17, .ref q21, .ref q23, .ref q25, .ref q30]))] sz) := by
  refine met_go (Qc := fun A => va_Qi (fun (r : Int32) (w : Unit) => r = ret ∧ w = ()) (fun (w : Unit) t => va_P (dC, dI) classes [(q0, .inr (9, [.ref q1, .ref q3, .ref q11, .ref q13, .ref q16, .ref q17, .ref q21, .ref q23, .ref q25, .ref q30]))] t.heap) A) (by decide) (Nat.le_of_ble_eq_true rfl) ?_
  intro p e s m below meth c A ls H locs hC hr hlk hin hA hP hl _
  have hC : CX p m c cX9_whole 6 s ([.ref q0, .int x1, .int x2, .int x3] : List Value).toArray RX9 (dC, dI) (ts cc) := hC
  have hx := hC.1.1
  have hb := hC.1.2
  have h := hu
  have hu0 := hu
  unfold f_X9_whole at h
  have hl : lv_has ls 6 [(0, .ref q0), (1, .int x1), (2, .int x2), (3, .int x3)] := hl
  refine lv_iload_n hx hb dX9_whole_0 rfl (lv_at hl 1 rfl) ?_
  refine lv_iconst (v := 0) hx hb dX9_whole_1 (by decide) ?_
  refine lv_iconst (v := 4) hx hb dX9_whole_2 (by decide) ?_
  obtain ⟨r1, hu, h⟩ := bnd_h h
  refine kc_z (kS hC (c_X9_within l dC dI cc x1 0 4 H.size r1 hu) cs_X9_99 kw338 rfl rfl ⟨(Nat.le_of_ble_eq_true rfl), (Nat.le_of_ble_eq_true rfl)⟩ hP [] rfl rfl (As := [.int x1, .int 0, .int 4]) (rest := []) rfl rfl hl.1 (Nat.le_of_ble_eq_true rfl) dX9_whole_3 ⟨Nat.zero_le _, Nat.zero_le _⟩) hP hA [] rfl rfl (fun hz_r1 H locs hP => ?_)
  have hP : PD (dC, dI) A s.heap [(q0, .inr (9, [.ref q1, .ref q3, .ref q11, .ref q13, .ref q16, .ref q17, .ref q21, .ref q23, .ref q25, .ref q30]))] H locs := hP
  refine lv_if_eq (tgt := 28) hx hb dX9_whole_6 (by decide) (fun c2 => ?_) (fun c2 => ?_)
  · have h := if_t c2 h
    refine lv_iconst (v := -1) hx hb dX9_whole_28 (by decide) ?_
    exact ret_i hC hr hlk hP dX9_whole_29 () (⟨Option.some.inj h, rfl⟩) rfl
  · have h := if_f c2 h
    refine lv_iload_n hx hb dX9_whole_9 rfl (lv_at hl 2 rfl) ?_
    refine lv_iconst (v := 0) hx hb dX9_whole_10 (by decide) ?_
    refine lv_bipush (v := 10) hx hb dX9_whole_11 (by decide) ?_
    obtain ⟨r3, hu, h⟩ := bnd_h h
    refine kc_z (kS hC (c_X9_within l dC dI cc x2 0 10 H.size r3 hu) cs_X9_99 kw338 rfl rfl ⟨(Nat.le_of_ble_eq_true rfl), (Nat.le_of_ble_eq_true rfl)⟩ hP [] rfl rfl (As := [.int x2, .int 0, .int 10]) (rest := []) rfl rfl hl.1 (Nat.le_of_ble_eq_true rfl) dX9_whole_13 ⟨Nat.zero_le _, Nat.zero_le _⟩) hP hA [] rfl rfl (fun hz_r3 H locs hP => ?_)
    have hP : PD (dC, dI) A s.heap [(q0, .inr (9, [.ref q1, .ref q3, .ref q11, .ref q13, .ref q16, .ref q17, .ref q21, .ref q23, .ref q25, .ref q30]))] H locs := hP
    refine lv_if_eq (tgt := 28) hx hb dX9_whole_16 (by decide) (fun c4 => ?_) (fun c4 => ?_)
    · have h := if_t c4 h
      refine lv_iconst (v := -1) hx hb dX9_whole_28 (by decide) ?_
      exact ret_i hC hr hlk hP dX9_whole_29 () (⟨Option.some.inj h, rfl⟩) rfl
    · have h := if_f c4 h
      refine lv_iload_n hx hb dX9_whole_19 rfl (lv_at hl 3 rfl) ?_
      refine lv_iconst (v := 0) hx hb dX9_whole_20 (by decide) ?_
      refine lv_iconst (v := 1) hx hb dX9_whole_21 (by decide) ?_
      obtain ⟨r5, hu, h⟩ := bnd_h h
      refine kc_z (kS hC (c_X9_within l dC dI cc x3 0 1 H.size r5 hu) cs_X9_99 kw338 rfl rfl ⟨(Nat.le_of_ble_eq_true rfl), (Nat.le_of_ble_eq_true rfl)⟩ hP [] rfl rfl (As := [.int x3, .int 0, .int 1]) (rest := []) rfl rfl hl.1 (Nat.le_of_ble_eq_true rfl) dX9_whole_22 ⟨Nat.zero_le _, Nat.zero_le _⟩) hP hA [] rfl rfl (fun hz_r5 H locs hP => ?_)
      have hP : PD (dC, dI) A s.heap [(q0, .inr (9, [.ref q1, .ref q3, .ref q11, .ref q13, .ref q16, .ref q17, .ref q21, .ref q23, .ref q25, .ref q30]))] H locs := hP
      refine lv_if_ne (tgt := 30) hx hb dX9_whole_25 (by decide) (fun c6 => ?_) (fun c6 => ?_)
      · have h := if_f c6 h
        refine lv_iconst (v := 1) hx hb dX9_whole_30 (by decide) ?_
        refine lv_bipush (v := 10) hx hb dX9_whole_31 (by decide) ?_
        refine lv_iload_n hx hb dX9_whole_33 rfl (lv_at hl 2 rfl) ?_
        refine lv_isub hx hb dX9_whole_34 ?_
        obtain ⟨r7, hu, h⟩ := bnd_h h
        refine kc_i (kS hC (c_X9_commonDivisorWithTen l dC dI cc (10 - x2) H.size r7 hu) cs_X9_219 kw712 rfl rfl ⟨(Nat.le_of_ble_eq_true rfl), (Nat.le_of_ble_eq_true rfl)⟩ hP [] rfl rfl (As := [.int (10 - x2)]) (rest := [.int 1]) rfl rfl hl.1 (Nat.le_of_ble_eq_true rfl) dX9_whole_35 ⟨Nat.zero_le _, Nat.zero_le _⟩) hP hA [] rfl rfl (fun H locs hP => ?_)
        have hP : PD (dC, dI) A s.heap [(q0, .inr (9, [.ref q1, .ref q3, .ref q11, .ref q13, .ref q16, .ref q17, .ref q21, .ref q23, .ref q25, .ref q30]))] H locs := hP
        refine g_max hC hl.1 mh_X9_222 (Nat.le_of_ble_eq_true rfl) (Nat.le_of_ble_eq_true rfl) (Nat.zero_le _) (Nat.zero_le _) dX9_whole_38 ?_
        refine lv_topi (fun v8 ev => ?_)
        have h := nm_h ev h
        refine lv_istore (lv' := [(4, .int v8), (0, .ref q0), (1, .int x1), (2, .int x2), (3, .int x3)]) hx hb dX9_whole_41 hl (by decide) rfl (fun ls hl => ?_)
        refine lv_iload_n hx hb dX9_whole_43 rfl (lv_at hl 4 rfl) ?_
        refine lv_if_ne (tgt := 57) hx hb dX9_whole_44 (by decide) (fun c9 => ?_) (fun c9 => ?_)
        · have h := if_f c9 h
          refine lv_bipush (v := 10) hx hb dX9_whole_57 (by decide) ?_
          refine lv_iload hx hb dX9_whole_59 (lv_at hl 0 rfl) ?_
          obtain ⟨hne, h⟩ := dvI_h h
          refine lv_idiv hx hb dX9_whole_61 hne ?_
          refine lv_topi (fun v10 ev => ?_)
          have h := h v10 ev
          refine lv_istore (lv' := [(5, .int v10), (4, .int v8), (0, .ref q0), (1, .int x1), (2, .int x2), (3, .int x3)]) hx hb dX9_whole_62 hl (by decide) rfl (fun ls hl => ?_)
          refine lv_iload hx hb dX9_whole_64 (lv_at hl 0 rfl) ?_
          refine lv_iconst (v := 2) hx hb dX9_whole_66 (by decide) ?_
          refine lv_iload_n hx hb dX9_whole_67 rfl (lv_at hl 3 rfl) ?_
          refine lv_imul hx hb dX9_whole_68 ?_
          obtain ⟨r11, hu, h⟩ := bnd_h h
          refine kc_l (kS hC (c_X9_power l dC dI cc v10 (2 * x1) H.size r11 hu) cs_X9_227 kw716 rfl rfl ⟨(Nat.le_of_ble_eq_true rfl), (Nat.le_of_ble_eq_true rfl)⟩ hP [] rfl rfl (As := [.int v10, .int (2 * x1)]) (rest := []) rfl rfl hl.1 (Nat.le_of_ble_eq_true rfl) dX9_whole_69 ⟨Nat.zero_le _, Nat.zero_le _⟩) hP hA [] rfl rfl (fun H locs hP => ?_)
          have hP : PD (dC, dI) A s.heap [(q0, .inr (9, [.ref q1, .ref q3, .ref q11, .ref q13, .ref q16, .ref q17, .ref q21, .ref q23, .ref q25, .ref q30]))] H locs := hP
          refine lv_l2i hx hb dX9_whole_72 rfl ?_
          exact ret_i hC hr hlk hP dX9_whole_73 () (⟨Option.some.inj h, rfl⟩) rfl
        · have h := if_t c9 h
          refine lv_bipush (v := 10) hx hb dX9_whole_47 (by decide) ?_
          refine lv_iload_n hx hb dX9_whole_49 rfl (lv_at hl 3 rfl) ?_
          refine lv_isub hx hb dX9_whole_50 ?_
          refine lv_iload hx hb dX9_whole_51 (lv_at hl 0 rfl) ?_
          obtain ⟨hne, h⟩ := dvI_h h
          refine lv_idiv hx hb dX9_whole_53 hne ?_
          refine lv_topi (fun v12 ev => ?_)
          have h := h v12 ev
          refine lv_goto (tgt := 62) hx hb dX9_whole_54 (by decide) ?_
          refine lv_istore (lv' := [(5, .int v12), (4, .int v8), (0, .ref q0), (1, .int x1), (2, .int x2), (3, .int x3)]) hx hb dX9_whole_62 hl (by decide) rfl (fun ls hl => ?_)
          refine lv_iload hx hb dX9_whole_64 (lv_at hl 0 rfl) ?_
          refine lv_iconst (v := 2) hx hb dX9_whole_66 (by decide) ?_
          refine lv_iload_n hx hb dX9_whole_67 rfl (lv_at hl 3 rfl) ?_
          refine lv_imul hx hb dX9_whole_68 ?_
          obtain ⟨r13, hu, h⟩ := bnd_h h
          refine kc_l (kS hC (c_X9_power l dC dI cc v12 (2 * x1) H.size r13 hu) cs_X9_227 kw716 rfl rfl ⟨(Nat.le_of_ble_eq_true rfl), (Nat.le_of_ble_eq_true rfl)⟩ hP [] rfl rfl (As := [.int v12, .int (2 * x1)]) (rest := []) rfl rfl hl.1 (Nat.le_of_ble_eq_true rfl) dX9_whole_69 ⟨Nat.zero_le _, Nat.zero_le _⟩) hP hA [] rfl rfl (fun H locs hP => ?_)
          have hP : PD (dC, dI) A s.heap [(q0, .inr (9, [.ref q1, .ref q3, .ref q11, .ref q13, .ref q16, .ref q17, .ref q21, .ref q23, .ref q25, .ref q30]))] H locs := hP
          refine lv_l2i hx hb dX9_whole_72 rfl ?_
          exact ret_i hC hr hlk hP dX9_whole_73 () (⟨Option.some.inj h, rfl⟩) rfl
      · have h := if_t c6 h
        refine lv_iconst (v := -1) hx hb dX9_whole_28 (by decide) ?_
        exact ret_i hC hr hlk hP dX9_whole_29 () (⟨Option.some.inj h, rfl⟩) rfl
set_option maxHeartbeats 8000000 in
set_option maxRecDepth 100000 in
theorem c_X9_together (l : Launch) (dC : Nat → ClassId) (dI : Nat → Nat → Nat) (cc : Nat → ClassId) (q0 q1 q3 q11 q13 q16 q17 q21 q23 q25 q30 : Nat) (x1 : Int32) (x2 : Int32) (sz : Nat) (ret : Int32) (hu : f_X9_together x1 x2 = some ret) : Met l yX9_together (mw yX9_together cX9_together 7 (some .int)) ({ frames := 1, cells := 0, slots := 0, locals := 28 } : Room) (va_Pc [.ref q0, .int x1, .int x2] (mP (dC, dI) (ts cc) sz [(q0, .inr (9, [.ref q1, .ref q3, .ref q11, .ref q13, .ref q16, .ref q17, .ref q21, .ref q23, .ref q25, .ref q30]))])) ((fun A => va_Qi (fun (r : Int32) (w : Unit) => r = ret ∧ w = ()) (fun (w : Unit) t => va_P (dC, dI) classes [(q0, .inr (9, [.ref q1, .ref q3, .ref q11, .ref q13, .ref q16, .ref q17, .ref q21, .ref q23, .ref q25, .ref q30]))] t.heap) A) (va_A [(q0, .inr (9, [.ref q1, .ref q3, .ref q11, .ref q13, .ref q16, .ref q17, .ref q21, .ref q23, .ref q25, .ref q30]))] sz)) 0 0 (va_A [(q0, .inr (9, [.ref q1, .ref q3, .ref q11, .ref q13, .ref q16, .ref q17, .ref q21, .ref q23, .ref q25, .ref q30]))] sz) := by
  refine met_go (Qc := fun A => va_Qi (fun (r : Int32) (w : Unit) => r = ret ∧ w = ()) (fun (w : Unit) t => va_P (dC, dI) classes [(q0, .inr (9, [.ref q1, .ref q3, .ref q11, .ref q13, .ref q16, .ref q17, .ref q21, .ref q23, .ref q25, .ref q30]))] t.heap) A) (by decide) (Nat.le_of_ble_eq_true rfl) ?_
  intro p e s m below meth c A ls H locs hC hr hlk hin hA hP hl _
  have hC : CX p m c cX9_together 7 s ([.ref q0, .int x1, .int x2] : List Value).toArray RX9 (dC, dI) (ts cc) := hC
  have hx := hC.1.1
  have hb := hC.1.2
  have h := hu
  have hu0 := hu
  unfold f_X9_together at h
  have hl : lv_has ls 7 [(0, .ref q0), (1, .int x1), (2, .int x2)] := hl
  refine lv_iload_n hx hb dX9_together_0 rfl (lv_at hl 1 rfl) ?_
  refine lv_iconst (v := 0) hx hb dX9_together_1 (by decide) ?_
  refine lv_iconst (v := 3) hx hb dX9_together_2 (by decide) ?_
  obtain ⟨r1, hu, h⟩ := bnd_h h
  refine kc_z (kS hC (c_X9_within l dC dI cc x1 0 3 H.size r1 hu) cs_X9_99 kw338 rfl rfl ⟨(Nat.le_of_ble_eq_true rfl), (Nat.le_of_ble_eq_true rfl)⟩ hP [] rfl rfl (As := [.int x1, .int 0, .int 3]) (rest := []) rfl rfl hl.1 (Nat.le_of_ble_eq_true rfl) dX9_together_3 ⟨Nat.zero_le _, Nat.zero_le _⟩) hP hA [] rfl rfl (fun hz_r1 H locs hP => ?_)
  have hP : PD (dC, dI) A s.heap [(q0, .inr (9, [.ref q1, .ref q3, .ref q11, .ref q13, .ref q16, .ref q17, .ref q21, .ref q23, .ref q25, .ref q30]))] H locs := hP
  refine lv_if_eq (tgt := 19) hx hb dX9_together_6 (by decide) (fun c2 => ?_) (fun c2 => ?_)
  · have h := if_t c2 h
    refine lv_iconst (v := -1) hx hb dX9_together_19 (by decide) ?_
    exact ret_i hC hr hlk hP dX9_together_20 () (⟨Option.some.inj h, rfl⟩) rfl
  · have h := if_f c2 h
    refine lv_iload_n hx hb dX9_together_9 rfl (lv_at hl 2 rfl) ?_
    refine lv_iconst (v := 0) hx hb dX9_together_10 (by decide) ?_
    refine lv_bipush (v := 33) hx hb dX9_together_11 (by decide) ?_
    obtain ⟨r3, hu, h⟩ := bnd_h h
    refine kc_z (kS hC (c_X9_within l dC dI cc x2 0 33 H.size r3 hu) cs_X9_99 kw338 rfl rfl ⟨(Nat.le_of_ble_eq_true rfl), (Nat.le_of_ble_eq_true rfl)⟩ hP [] rfl rfl (As := [.int x2, .int 0, .int 33]) (rest := []) rfl rfl hl.1 (Nat.le_of_ble_eq_true rfl) dX9_together_13 ⟨Nat.zero_le _, Nat.zero_le _⟩) hP hA [] rfl rfl (fun hz_r3 H locs hP => ?_)
    have hP : PD (dC, dI) A s.heap [(q0, .inr (9, [.ref q1, .ref q3, .ref q11, .ref q13, .ref q16, .ref q17, .ref q21, .ref q23, .ref q25, .ref q30]))] H locs := hP
    refine lv_if_ne (tgt := 21) hx hb dX9_together_16 (by decide) (fun c4 => ?_) (fun c4 => ?_)
    · have h := if_f c4 h
      refine lv_iload_n hx hb dX9_together_21 rfl (lv_at hl 1 rfl) ?_
      refine lv_if_ne (tgt := 28) hx hb dX9_together_22 (by decide) (fun c5 => ?_) (fun c5 => ?_)
      · have h := if_f c5 h
        refine lv_iload_n hx hb dX9_together_28 rfl (lv_at hl 1 rfl) ?_
        refine lv_iload_n hx hb dX9_together_29 rfl (lv_at hl 2 rfl) ?_
        refine lv_iconst (v := 1) hx hb dX9_together_30 (by decide) ?_
        obtain ⟨r6, hu, h⟩ := bnd_h h
        refine kc_l (kS hC (c_X9_cutsInTheMean l dC dI cc x1 x2 1 H.size r6 hu) cs_X9_232 kw724 rfl rfl ⟨(Nat.le_of_ble_eq_true rfl), (Nat.le_of_ble_eq_true rfl)⟩ hP [] rfl rfl (As := [.int x1, .int x2, .int 1]) (rest := []) rfl rfl hl.1 (Nat.le_of_ble_eq_true rfl) dX9_together_31 ⟨Nat.zero_le _, Nat.zero_le _⟩) hP hA [] rfl rfl (fun H locs hP => ?_)
        have hP : PD (dC, dI) A s.heap [(q0, .inr (9, [.ref q1, .ref q3, .ref q11, .ref q13, .ref q16, .ref q17, .ref q21, .ref q23, .ref q25, .ref q30]))] H locs := hP
        refine lv_iload_n hx hb dX9_together_34 rfl (lv_at hl 1 rfl) ?_
        refine lv_iload_n hx hb dX9_together_35 rfl (lv_at hl 2 rfl) ?_
        refine lv_iconst (v := 0) hx hb dX9_together_36 (by decide) ?_
        obtain ⟨r7, hu, h⟩ := bnd_h h
        refine kc_l (kS hC (c_X9_cutsInTheMean l dC dI cc x1 x2 0 H.size r7 hu) cs_X9_232 kw724 rfl rfl ⟨(Nat.le_of_ble_eq_true rfl), (Nat.le_of_ble_eq_true rfl)⟩ hP [] rfl rfl (As := [.int x1, .int x2, .int 0]) (rest := [.long r6]) rfl rfl hl.1 (Nat.le_of_ble_eq_true rfl) dX9_together_37 ⟨Nat.zero_le _, Nat.zero_le _⟩) hP hA [] rfl rfl (fun H locs hP => ?_)
        have hP : PD (dC, dI) A s.heap [(q0, .inr (9, [.ref q1, .ref q3, .ref q11, .ref q13, .ref q16, .ref q17, .ref q21, .ref q23, .ref q25, .ref q30]))] H locs := hP
        refine lv_lsub hx hb dX9_together_40 ?_
        refine lv_lstore_n (lv' := [(3, .long (r6 - r7)), (0, .ref q0), (1, .int x1), (2, .int x2)]) hx hb dX9_together_41 rfl hl (by decide) rfl (fun ls hl => ?_)
        refine lv_lconst (v := 1) hx hb dX9_together_42 (by decide) ?_
        refine lv_bipush (v := 100) hx hb dX9_together_43 (by decide) ?_
        refine lv_iconst (v := 2) hx hb dX9_together_45 (by decide) ?_
        refine lv_iload_n hx hb dX9_together_46 rfl (lv_at hl 2 rfl) ?_
        refine lv_imul hx hb dX9_together_47 ?_
        refine lv_iconst (v := 1) hx hb dX9_together_48 (by decide) ?_
        refine lv_isub hx hb dX9_together_49 ?_
        obtain ⟨r8, hu, h⟩ := bnd_h h
        refine kc_l (kS hC (c_X9_power l dC dI cc 100 ((2 * x1) - 1) H.size r8 hu) cs_X9_227 kw716 rfl rfl ⟨(Nat.le_of_ble_eq_true rfl), (Nat.le_of_ble_eq_true rfl)⟩ hP [] rfl rfl (As := [.int 100, .int ((2 * x1) - 1)]) (rest := [.long 1]) rfl rfl hl.1 (Nat.le_of_ble_eq_true rfl) dX9_together_50 ⟨Nat.zero_le _, Nat.zero_le _⟩) hP hA [] rfl rfl (fun H locs hP => ?_)
        have hP : PD (dC, dI) A s.heap [(q0, .inr (9, [.ref q1, .ref q3, .ref q11, .ref q13, .ref q16, .ref q17, .ref q21, .ref q23, .ref q25, .ref q30]))] H locs := hP
        refine g_maxL hC hl.1 ml_X9_236 (Nat.le_of_ble_eq_true rfl) (Nat.le_of_ble_eq_true rfl) (Nat.zero_le _) (Nat.zero_le _) dX9_together_53 ?_
        refine lv_topl (fun v9 ev => ?_)
        have h := nm_h ev h
        refine lv_lstore (lv' := [(5, .long v9), (3, .long (r6 - r7)), (0, .ref q0), (1, .int x1), (2, .int x2)]) hx hb dX9_together_56 hl (by decide) rfl (fun ls hl => ?_)
        refine lv_ldc2 (v := 10000) hx hb hC.2.2.1 (hC.2.2.2.1 _ kw729) dX9_together_58 ?_
        refine lv_lload_n hx hb dX9_together_61 rfl (lv_at hl 1 rfl) ?_
        refine lv_lmul hx hb dX9_together_62 ?_
        refine lv_lload hx hb dX9_together_63 (lv_at hl 0 rfl) ?_
        obtain ⟨hne, h⟩ := dvL_h h
        refine lv_ldiv hx hb dX9_together_65 hne ?_
        refine lv_topl (fun v10 ev => ?_)
        have h := h v10 ev
        refine lv_l2i hx hb dX9_together_66 rfl ?_
        refine lv_ldc (v := 100000) hx hb hC.2.2.1 (hC.2.2.2.1 _ kw721) dX9_together_67 ?_
        refine lv_iadd hx hb dX9_together_69 ?_
        exact ret_i hC hr hlk hP dX9_together_70 () (⟨Option.some.inj h, rfl⟩) rfl
      · have h := if_t c5 h
        refine lv_ldc (v := 100000) hx hb hC.2.2.1 (hC.2.2.2.1 _ kw721) dX9_together_25 ?_
        exact ret_i hC hr hlk hP dX9_together_27 () (⟨Option.some.inj h, rfl⟩) rfl
    · have h := if_t c4 h
      refine lv_iconst (v := -1) hx hb dX9_together_19 (by decide) ?_
      exact ret_i hC hr hlk hP dX9_together_20 () (⟨Option.some.inj h, rfl⟩) rfl
set_option maxHeartbeats 8000000 in
set_option maxRecDepth 100000 in
theorem c_X9_year (l : Launch) (dC : Nat → ClassId) (dI : Nat → Nat → Nat) (cc : Nat → ClassId) (q0 q1 q3 q11 q13 q16 q17 q21 q23 q25 q30 q12 q31 q32 : Nat) (shelf_clogs : Int32) (shelf_day : Int32) (shelf_cells : (Nat → Int32)) (draws_wentAsPairs : Int32) (draws_shelf_clogs : Int32) (draws_shelf_day : Int32) (draws_shelf_cells : (Nat → Int32)) (x1 : Int32) (x2 : Int32) (x3 : Int32) (sz : Nat) (ret : Int32) (o_draws_shelf_cells : (Nat → Int32)) (o_draws_shelf_clogs : Int32) (o_draws_shelf_day : Int32) (o_draws_wentAsPairs : Int32) (hu : f_X9_year x1 x2 x3 shelf_clogs shelf_day shelf_cells draws_wentAsPairs draws_shelf_clogs draws_shelf_day draws_shelf_cells = some (ret, o_draws_shelf_cells, o_draws_shelf_clogs, o_draws_shelf_day, o_draws_wentAsPairs)) : Met l yX9_year (mw yX9_year cX9_year 4 (some .int)) ({ frames := 6, cells := 0, slots := 0, locals := 139 } : Room) (va_Pc [.ref q0, .int x1, .int x2, .int x3] (mP (dC, dI) (ts cc) sz [(q0, .inr (9, [.ref q1, .ref q3, .ref q11, .ref q13, .ref q16, .ref q17, .ref q21, .ref q23, .ref q25, .ref q30])), (q11, .inr (4, [.ref q12, .int shelf_clogs, .int shelf_day])), (q12, .inl (cc 0, 50, .inl shelf_cells)), (q30, .inr (8, [.ref q31, .int draws_wentAsPairs])), (q31, .inr (4, [.ref q32, .int draws_shelf_clogs, .int draws_shelf_day])), (q32, .inl (cc 0, 50, .inl draws_shelf_cells))])) ((fun A => va_Qi (fun (r : Int32) (w : (Nat → Int32) × Int32 × Int32 × Int32) => r = ret ∧ w = (o_draws_shelf_cells, o_draws_shelf_clogs, o_draws_shelf_day, o_draws_wentAsPairs)) (fun (w : (Nat → Int32) × Int32 × Int32 × Int32) t => va_P (dC, dI) classes [(q0, .inr (9, [.ref q1, .ref q3, .ref q11, .ref q13, .ref q16, .ref q17, .ref q21, .ref q23, .ref q25, .ref q30])), (q11, .inr (4, [.ref q12, .int shelf_clogs, .int shelf_day])), (q12, .inl (cc 0, 50, .inl shelf_cells)), (q30, .inr (8, [.ref q31, .int w.2.2.2])), (q31, .inr (4, [.ref q32, .int w.2.1, .int w.2.2.1])), (q32, .inl (cc 0, 50, .inl w.1))] t.heap) A) (va_A [(q0, .inr (9, [.ref q1, .ref q3, .ref q11, .ref q13, .ref q16, .ref q17, .ref q21, .ref q23, .ref q25, .ref q30])), (q11, .inr (4, [.ref q12, .int shelf_clogs, .int shelf_day])), (q12, .inl (cc 0, 50, .inl shelf_cells)), (q30, .inr (8, [.ref q31, .int draws_wentAsPairs])), (q31, .inr (4, [.ref q32, .int draws_shelf_clogs, .int draws_shelf_day])), (q32, .inl (cc 0, 50, .inl draws_shelf_cells))] sz)) 0 0 (va_A [(q0, .inr (9, [.ref q1, .ref q3, .ref q11, .ref q13, .ref q16, .ref q17, .ref q21, .ref q23, .ref q25, .ref q30])), (q11, .inr (4, [.ref q12, .int shelf_clogs, .int shelf_day])), (q12, .inl (cc 0, 50, .inl shelf_cells)), (q30, .inr (8, [.ref q31, .int draws_wentAsPairs])), (q31, .inr (4, [.ref q32, .int draws_shelf_clogs, .int draws_shelf_day])), (q32, .inl (cc 0, 50, .inl draws_shelf_cells))] sz) := by
  refine met_go (Qc := fun A => va_Qi (fun (r : Int32) (w : (Nat → Int32) × Int32 × Int32 × Int32) => r = ret ∧ w = (o_draws_shelf_cells, o_draws_shelf_clogs, o_draws_shelf_day, o_draws_wentAsPairs)) (fun (w : (Nat → Int32) × Int32 × Int32 × Int32) t => va_P (dC, dI) classes [(q0, .inr (9, [.ref q1, .ref q3, .ref q11, .ref q13, .ref q16, .ref q17, .ref q21, .ref q23, .ref q25, .ref q30])), (q11, .inr (4, [.ref q12, .int shelf_clogs, .int shelf_day])), (q12, .inl (cc 0, 50, .inl shelf_cells)), (q30, .inr (8, [.ref q31, .int w.2.2.2])), (q31, .inr (4, [.ref q32, .int w.2.1, .int w.2.2.1])), (q32, .inl (cc 0, 50, .inl w.1))] t.heap) A) (by decide) (Nat.le_of_ble_eq_true rfl) ?_
  intro p e s m below meth c A ls H locs hC hr hlk hin hA hP hl _
  have hC : CX p m c cX9_year 4 s ([.ref q0, .int x1, .int x2, .int x3] : List Value).toArray RX9 (dC, dI) (ts cc) := hC
  have hx := hC.1.1
  have hb := hC.1.2
  have h := hu
  have hu0 := hu
  unfold f_X9_year at h
  have hl : lv_has ls 4 [(0, .ref q0), (1, .int x1), (2, .int x2), (3, .int x3)] := hl
  refine lv_iload_n hx hb dX9_year_0 rfl (lv_at hl 1 rfl) ?_
  refine lv_iconst (v := 0) hx hb dX9_year_1 (by decide) ?_
  refine lv_sipush (v := 9999) hx hb dX9_year_2 (by decide) ?_
  obtain ⟨r1, hu, h⟩ := bnd_h h
  refine kc_z (kS hC (c_X9_within l dC dI cc x1 0 9999 H.size r1 hu) cs_X9_99 kw338 rfl rfl ⟨(Nat.le_of_ble_eq_true rfl), (Nat.le_of_ble_eq_true rfl)⟩ hP [] rfl rfl (As := [.int x1, .int 0, .int 9999]) (rest := []) rfl rfl hl.1 (Nat.le_of_ble_eq_true rfl) dX9_year_5 ⟨Nat.zero_le _, Nat.zero_le _⟩) hP hA [] rfl rfl (fun hz_r1 H locs hP => ?_)
  have hP : PD (dC, dI) A s.heap [(q0, .inr (9, [.ref q1, .ref q3, .ref q11, .ref q13, .ref q16, .ref q17, .ref q21, .ref q23, .ref q25, .ref q30])), (q11, .inr (4, [.ref q12, .int shelf_clogs, .int shelf_day])), (q12, .inl (cc 0, 50, .inl shelf_cells)), (q30, .inr (8, [.ref q31, .int draws_wentAsPairs])), (q31, .inr (4, [.ref q32, .int draws_shelf_clogs, .int draws_shelf_day])), (q32, .inl (cc 0, 50, .inl draws_shelf_cells))] H locs := hP
  refine lv_if_eq (tgt := 30) hx hb dX9_year_8 (by decide) (fun c2 => ?_) (fun c2 => ?_)
  · have h := if_t c2 h
    refine lv_iconst (v := -1) hx hb dX9_year_30 (by decide) ?_
    exact ret_i hC hr hlk hP dX9_year_31 (draws_shelf_cells, draws_shelf_clogs, draws_shelf_day, draws_wentAsPairs) (Prod.mk.inj (Option.some.inj h)) rfl
  · have h := if_f c2 h
    refine lv_iload_n hx hb dX9_year_11 rfl (lv_at hl 2 rfl) ?_
    refine lv_iconst (v := 1) hx hb dX9_year_12 (by decide) ?_
    refine lv_bipush (v := 60) hx hb dX9_year_13 (by decide) ?_
    obtain ⟨r3, hu, h⟩ := bnd_h h
    refine kc_z (kS hC (c_X9_within l dC dI cc x2 1 60 H.size r3 hu) cs_X9_99 kw338 rfl rfl ⟨(Nat.le_of_ble_eq_true rfl), (Nat.le_of_ble_eq_true rfl)⟩ hP [] rfl rfl (As := [.int x2, .int 1, .int 60]) (rest := []) rfl rfl hl.1 (Nat.le_of_ble_eq_true rfl) dX9_year_15 ⟨Nat.zero_le _, Nat.zero_le _⟩) hP hA [] rfl rfl (fun hz_r3 H locs hP => ?_)
    have hP : PD (dC, dI) A s.heap [(q0, .inr (9, [.ref q1, .ref q3, .ref q11, .ref q13, .ref q16, .ref q17, .ref q21, .ref q23, .ref q25, .ref q30])), (q11, .inr (4, [.ref q12, .int shelf_clogs, .int shelf_day])), (q12, .inl (cc 0, 50, .inl shelf_cells)), (q30, .inr (8, [.ref q31, .int draws_wentAsPairs])), (q31, .inr (4, [.ref q32, .int draws_shelf_clogs, .int draws_shelf_day])), (q32, .inl (cc 0, 50, .inl draws_shelf_cells))] H locs := hP
    refine lv_if_eq (tgt := 30) hx hb dX9_year_18 (by decide) (fun c4 => ?_) (fun c4 => ?_)
    · have h := if_t c4 h
      refine lv_iconst (v := -1) hx hb dX9_year_30 (by decide) ?_
      exact ret_i hC hr hlk hP dX9_year_31 (draws_shelf_cells, draws_shelf_clogs, draws_shelf_day, draws_wentAsPairs) (Prod.mk.inj (Option.some.inj h)) rfl
    · have h := if_f c4 h
      refine lv_iload_n hx hb dX9_year_21 rfl (lv_at hl 3 rfl) ?_
      refine lv_iconst (v := 0) hx hb dX9_year_22 (by decide) ?_
      refine lv_iconst (v := 1) hx hb dX9_year_23 (by decide) ?_
      obtain ⟨r5, hu, h⟩ := bnd_h h
      refine kc_z (kS hC (c_X9_within l dC dI cc x3 0 1 H.size r5 hu) cs_X9_99 kw338 rfl rfl ⟨(Nat.le_of_ble_eq_true rfl), (Nat.le_of_ble_eq_true rfl)⟩ hP [] rfl rfl (As := [.int x3, .int 0, .int 1]) (rest := []) rfl rfl hl.1 (Nat.le_of_ble_eq_true rfl) dX9_year_24 ⟨Nat.zero_le _, Nat.zero_le _⟩) hP hA [] rfl rfl (fun hz_r5 H locs hP => ?_)
      have hP : PD (dC, dI) A s.heap [(q0, .inr (9, [.ref q1, .ref q3, .ref q11, .ref q13, .ref q16, .ref q17, .ref q21, .ref q23, .ref q25, .ref q30])), (q11, .inr (4, [.ref q12, .int shelf_clogs, .int shelf_day])), (q12, .inl (cc 0, 50, .inl shelf_cells)), (q30, .inr (8, [.ref q31, .int draws_wentAsPairs])), (q31, .inr (4, [.ref q32, .int draws_shelf_clogs, .int draws_shelf_day])), (q32, .inl (cc 0, 50, .inl draws_shelf_cells))] H locs := hP
      refine lv_if_ne (tgt := 32) hx hb dX9_year_27 (by decide) (fun c6 => ?_) (fun c6 => ?_)
      · have h := if_f c6 h
        refine lv_aload_n hx hb dX9_year_32 rfl (lv_at hl 0 rfl) ?_
        refine g_get hC hP fg_X9_73 0 rfl rfl dX9_year_33 ?_
        refine lv_aload_n hx hb dX9_year_36 rfl (lv_at hl 0 rfl) ?_
        refine g_get hC hP fg_X9_26 0 rfl rfl dX9_year_37 ?_
        refine lv_iload_n hx hb dX9_year_40 rfl (lv_at hl 1 rfl) ?_
        refine lv_iload_n hx hb dX9_year_41 rfl (lv_at hl 2 rfl) ?_
        obtain ⟨⟨w7, w8, w9, w10⟩, hu, h⟩ := bnd_h h
        refine kc_v (kV hC (c_X8_live l dC dI cc q30 q31 q32 q11 q12 draws_wentAsPairs draws_shelf_clogs draws_shelf_day draws_shelf_cells shelf_clogs shelf_day shelf_cells x1 x2 H.size w7 w8 w9 w10 hu) cv_X9_241 kw737 rfl rfl ⟨(Nat.le_of_ble_eq_true rfl), (Nat.le_of_ble_eq_true rfl)⟩ hP [3, 4, 5, 1, 2] rfl rfl rfl (q0 := 3) rfl (As := [.ref q11, .int x1, .int x2]) (rest := []) rfl rfl hl.1 (Nat.le_of_ble_eq_true rfl) dX9_year_42 ⟨Nat.zero_le _, Nat.zero_le _⟩) hP hA [3, 4, 5, 1, 2] rfl rfl (fun H locs hP => ?_)
        have hP : PD (dC, dI) A s.heap [(q0, .inr (9, [.ref q1, .ref q3, .ref q11, .ref q13, .ref q16, .ref q17, .ref q21, .ref q23, .ref q25, .ref q30])), (q11, .inr (4, [.ref q12, .int shelf_clogs, .int shelf_day])), (q12, .inl (cc 0, 50, .inl shelf_cells)), (q30, .inr (8, [.ref q31, .int w10])), (q31, .inr (4, [.ref q32, .int w8, .int w9])), (q32, .inl (cc 0, 50, .inl w7))] H locs := hP
        refine lv_iload_n hx hb dX9_year_45 rfl (lv_at hl 3 rfl) ?_
        refine lv_if_ne (tgt := 59) hx hb dX9_year_46 (by decide) (fun c11 => ?_) (fun c11 => ?_)
        · have h := if_f c11 h
          refine lv_aload_n hx hb dX9_year_59 rfl (lv_at hl 0 rfl) ?_
          refine g_get hC hP fg_X9_73 0 rfl rfl dX9_year_60 ?_
          refine g_get hC hP fg_X9_248 3 rfl rfl dX9_year_63 ?_
          refine g_get hC hP fg_X9_110 4 rfl rfl dX9_year_66 ?_
          exact ret_i hC hr hlk hP dX9_year_69 (w7, w8, w9, w10) (Prod.mk.inj (Option.some.inj h)) rfl
        · have h := if_t c11 h
          refine lv_aload_n hx hb dX9_year_49 rfl (lv_at hl 0 rfl) ?_
          refine g_get hC hP fg_X9_73 0 rfl rfl dX9_year_50 ?_
          refine g_get hC hP fg_X9_245 3 rfl rfl dX9_year_53 ?_
          refine lv_goto (tgt := 69) hx hb dX9_year_56 (by decide) ?_
          exact ret_i hC hr hlk hP dX9_year_69 (w7, w8, w9, w10) (Prod.mk.inj (Option.some.inj h)) rfl
      · have h := if_t c6 h
        refine lv_iconst (v := -1) hx hb dX9_year_30 (by decide) ?_
        exact ret_i hC hr hlk hP dX9_year_31 (draws_shelf_cells, draws_shelf_clogs, draws_shelf_day, draws_wentAsPairs) (Prod.mk.inj (Option.some.inj h)) rfl
set_option maxHeartbeats 8000000 in
set_option maxRecDepth 100000 in
theorem c_X9_count (l : Launch) (dC : Nat → ClassId) (dI : Nat → Nat → Nat) (cc : Nat → ClassId) (q0 q1 q3 q11 q13 q16 q17 q21 q23 q25 q30 q2 q12 q14 q15 q18 q19 q20 q22 q24 : Nat) (text_length : Int32) (shelf_clogs : Int32) (shelf_day : Int32) (shelf_cells : (Nat → Int32)) (waiting_number : Int32) (waiting_stocking : Int32) (log_length : Int32) (log_block : Int32) (log_knots : Int64) (walls_sounds : Int32) (acts_height : Int32) (kept_height : Int32) (x1 : Int32) (sz : Nat) (ret : Int32) (hu : f_X9_count x1 text_length shelf_clogs shelf_day shelf_cells waiting_number waiting_stocking log_length log_knots walls_sounds acts_height kept_height = some ret) : Met l yX9_count (mw yX9_count cX9_count 2 (some .int)) ({ frames := 2, cells := 0, slots := 0, locals := 45 } : Room) (va_Pc [.ref q0, .int x1] (mP (dC, dI) (ts cc) sz [(q0, .inr (9, [.ref q1, .ref q3, .ref q11, .ref q13, .ref q16, .ref q17, .ref q21, .ref q23, .ref q25, .ref q30])), (q1, .inr (5, [.ref q2, .int text_length])), (q11, .inr (4, [.ref q12, .int shelf_clogs, .int shelf_day])), (q12, .inl (cc 0, 50, .inl shelf_cells)), (q13, .inr (6, [.ref q14, .ref q15, .int waiting_number, .int waiting_stocking])), (q16, .inr (0, [.int log_length, .int log_block, .long log_knots])), (q17, .inr (7, [.ref q18, .ref q19, .ref q20, .int walls_sounds])), (q21, .inr (2, [.ref q22, .int acts_height])), (q23, .inr (2, [.ref q24, .int kept_height]))])) ((fun A => va_Qi (fun (r : Int32) (w : Unit) => r = ret ∧ w = ()) (fun (w : Unit) t => va_P (dC, dI) classes [(q0, .inr (9, [.ref q1, .ref q3, .ref q11, .ref q13, .ref q16, .ref q17, .ref q21, .ref q23, .ref q25, .ref q30])), (q1, .inr (5, [.ref q2, .int text_length])), (q11, .inr (4, [.ref q12, .int shelf_clogs, .int shelf_day])), (q12, .inl (cc 0, 50, .inl shelf_cells)), (q13, .inr (6, [.ref q14, .ref q15, .int waiting_number, .int waiting_stocking])), (q16, .inr (0, [.int log_length, .int log_block, .long log_knots])), (q17, .inr (7, [.ref q18, .ref q19, .ref q20, .int walls_sounds])), (q21, .inr (2, [.ref q22, .int acts_height])), (q23, .inr (2, [.ref q24, .int kept_height]))] t.heap) A) (va_A [(q0, .inr (9, [.ref q1, .ref q3, .ref q11, .ref q13, .ref q16, .ref q17, .ref q21, .ref q23, .ref q25, .ref q30])), (q1, .inr (5, [.ref q2, .int text_length])), (q11, .inr (4, [.ref q12, .int shelf_clogs, .int shelf_day])), (q12, .inl (cc 0, 50, .inl shelf_cells)), (q13, .inr (6, [.ref q14, .ref q15, .int waiting_number, .int waiting_stocking])), (q16, .inr (0, [.int log_length, .int log_block, .long log_knots])), (q17, .inr (7, [.ref q18, .ref q19, .ref q20, .int walls_sounds])), (q21, .inr (2, [.ref q22, .int acts_height])), (q23, .inr (2, [.ref q24, .int kept_height]))] sz)) 0 0 (va_A [(q0, .inr (9, [.ref q1, .ref q3, .ref q11, .ref q13, .ref q16, .ref q17, .ref q21, .ref q23, .ref q25, .ref q30])), (q1, .inr (5, [.ref q2, .int text_length])), (q11, .inr (4, [.ref q12, .int shelf_clogs, .int shelf_day])), (q12, .inl (cc 0, 50, .inl shelf_cells)), (q13, .inr (6, [.ref q14, .ref q15, .int waiting_number, .int waiting_stocking])), (q16, .inr (0, [.int log_length, .int log_block, .long log_knots])), (q17, .inr (7, [.ref q18, .ref q19, .ref q20, .int walls_sounds])), (q21, .inr (2, [.ref q22, .int acts_height])), (q23, .inr (2, [.ref q24, .int kept_height]))] sz) := by
  refine met_go (Qc := fun A => va_Qi (fun (r : Int32) (w : Unit) => r = ret ∧ w = ()) (fun (w : Unit) t => va_P (dC, dI) classes [(q0, .inr (9, [.ref q1, .ref q3, .ref q11, .ref q13, .ref q16, .ref q17, .ref q21, .ref q23, .ref q25, .ref q30])), (q1, .inr (5, [.ref q2, .int text_length])), (q11, .inr (4, [.ref q12, .int shelf_clogs, .int shelf_day])), (q12, .inl (cc 0, 50, .inl shelf_cells)), (q13, .inr (6, [.ref q14, .ref q15, .int waiting_number, .int waiting_stocking])), (q16, .inr (0, [.int log_length, .int log_block, .long log_knots])), (q17, .inr (7, [.ref q18, .ref q19, .ref q20, .int walls_sounds])), (q21, .inr (2, [.ref q22, .int acts_height])), (q23, .inr (2, [.ref q24, .int kept_height]))] t.heap) A) (by decide) (Nat.le_of_ble_eq_true rfl) ?_
  intro p e s m below meth c A ls H locs hC hr hlk hin hA hP hl _
  have hC : CX p m c cX9_count 2 s ([.ref q0, .int x1] : List Value).toArray RX9 (dC, dI) (ts cc) := hC
  have hx := hC.1.1
  have hb := hC.1.2
  have h := hu
  have hu0 := hu
  unfold f_X9_count at h
  have hl : lv_has ls 2 [(0, .ref q0), (1, .int x1)] := hl
  refine lv_iload_n hx hb dX9_count_0 rfl (lv_at hl 1 rfl) ?_
  by_cases c1 : x1 = 0
  · have h := if_t c1 h
    refine lv_tableIn (tgt := 56) hx hb dX9_count_1 (by rw [c1]; decide) (by rw [c1]; decide) (by first | (rw [c1]; done) | (rw [c1]; rfl)) (by decide) ?_
    refine lv_aload_n hx hb dX9_count_56 rfl (lv_at hl 0 rfl) ?_
    refine g_get hC hP fg_X9_26 0 rfl rfl dX9_count_57 ?_
    refine g_get hC hP fg_X9_110 2 rfl rfl dX9_count_60 ?_
    exact ret_i hC hr hlk hP dX9_count_63 () (⟨Option.some.inj h, rfl⟩) rfl
  · have h := if_f c1 h
    by_cases c2 : x1 = 1
    · have h := if_t c2 h
      refine lv_tableIn (tgt := 64) hx hb dX9_count_1 (by rw [c2]; decide) (by rw [c2]; decide) (by first | (rw [c2]; done) | (rw [c2]; rfl)) (by decide) ?_
      refine lv_aload_n hx hb dX9_count_64 rfl (lv_at hl 0 rfl) ?_
      refine g_get hC hP fg_X9_33 0 rfl rfl dX9_count_65 ?_
      refine g_get hC hP fg_X9_130 4 rfl rfl dX9_count_68 ?_
      exact ret_i hC hr hlk hP dX9_count_71 () (⟨Option.some.inj h, rfl⟩) rfl
    · have h := if_f c2 h
      by_cases c3 : x1 = 2
      · have h := if_t c3 h
        refine lv_tableIn (tgt := 72) hx hb dX9_count_1 (by rw [c3]; decide) (by rw [c3]; decide) (by first | (rw [c3]; done) | (rw [c3]; rfl)) (by decide) ?_
        refine lv_aload_n hx hb dX9_count_72 rfl (lv_at hl 0 rfl) ?_
        refine g_get hC hP fg_X9_26 0 rfl rfl dX9_count_73 ?_
        refine g_get hC hP fg_X9_117 2 rfl rfl dX9_count_76 ?_
        exact ret_i hC hr hlk hP dX9_count_79 () (⟨Option.some.inj h, rfl⟩) rfl
      · have h := if_f c3 h
        by_cases c4 : x1 = 3
        · have h := if_t c4 h
          refine lv_tableIn (tgt := 80) hx hb dX9_count_1 (by rw [c4]; decide) (by rw [c4]; decide) (by first | (rw [c4]; done) | (rw [c4]; rfl)) (by decide) ?_
          refine lv_aload_n hx hb dX9_count_80 rfl (lv_at hl 0 rfl) ?_
          refine g_get hC hP fg_X9_40 0 rfl rfl dX9_count_81 ?_
          obtain ⟨r5, hu, h⟩ := bnd_h h
          refine kc_i (kV hC (c_X0_knotsInside l dC dI cc q16 log_length log_block log_knots H.size r5 hu) cv_X9_253 kw769 rfl rfl ⟨(Nat.le_of_ble_eq_true rfl), (Nat.le_of_ble_eq_true rfl)⟩ hP [5] rfl rfl rfl (q0 := 5) rfl (As := []) (rest := []) rfl rfl hl.1 (Nat.le_of_ble_eq_true rfl) dX9_count_84 ⟨Nat.zero_le _, Nat.zero_le _⟩) hP hA [5] rfl rfl (fun H locs hP => ?_)
          have hP : PD (dC, dI) A s.heap [(q0, .inr (9, [.ref q1, .ref q3, .ref q11, .ref q13, .ref q16, .ref q17, .ref q21, .ref q23, .ref q25, .ref q30])), (q1, .inr (5, [.ref q2, .int text_length])), (q11, .inr (4, [.ref q12, .int shelf_clogs, .int shelf_day])), (q12, .inl (cc 0, 50, .inl shelf_cells)), (q13, .inr (6, [.ref q14, .ref q15, .int waiting_number, .int waiting_stocking])), (q16, .inr (0, [.int log_length, .int log_block, .long log_knots])), (q17, .inr (7, [.ref q18, .ref q19, .ref q20, .int walls_sounds])), (q21, .inr (2, [.ref q22, .int acts_height])), (q23, .inr (2, [.ref q24, .int kept_height]))] H locs := hP
          exact ret_i hC hr hlk hP dX9_count_87 () (⟨Option.some.inj h, rfl⟩) rfl
        · have h := if_f c4 h
          by_cases c6 : x1 = 4
          · have h := if_t c6 h
            refine lv_tableIn (tgt := 88) hx hb dX9_count_1 (by rw [c6]; decide) (by rw [c6]; decide) (by first | (rw [c6]; done) | (rw [c6]; rfl)) (by decide) ?_
            refine lv_aload_n hx hb dX9_count_88 rfl (lv_at hl 0 rfl) ?_
            refine g_get hC hP fg_X9_26 0 rfl rfl dX9_count_89 ?_
            obtain ⟨r7, hu, h⟩ := bnd_h h
            refine kc_i (kV hC (c_X4_holedOnes l dC dI cc q11 q12 shelf_clogs shelf_day shelf_cells H.size r7 hu) cv_X9_256 kw779 rfl rfl ⟨(Nat.le_of_ble_eq_true rfl), (Nat.le_of_ble_eq_true rfl)⟩ hP [2, 3] rfl rfl rfl (q0 := 2) rfl (As := []) (rest := []) rfl rfl hl.1 (Nat.le_of_ble_eq_true rfl) dX9_count_92 ⟨Nat.zero_le _, Nat.zero_le _⟩) hP hA [2, 3] rfl rfl (fun H locs hP => ?_)
            have hP : PD (dC, dI) A s.heap [(q0, .inr (9, [.ref q1, .ref q3, .ref q11, .ref q13, .ref q16, .ref q17, .ref q21, .ref q23, .ref q25, .ref q30])), (q1, .inr (5, [.ref q2, .int text_length])), (q11, .inr (4, [.ref q12, .int shelf_clogs, .int shelf_day])), (q12, .inl (cc 0, 50, .inl shelf_cells)), (q13, .inr (6, [.ref q14, .ref q15, .int waiting_number, .int waiting_stocking])), (q16, .inr (0, [.int log_length, .int log_block, .long log_knots])), (q17, .inr (7, [.ref q18, .ref q19, .ref q20, .int walls_sounds])), (q21, .inr (2, [.ref q22, .int acts_height])), (q23, .inr (2, [.ref q24, .int kept_height]))] H locs := hP
            exact ret_i hC hr hlk hP dX9_count_95 () (⟨Option.some.inj h, rfl⟩) rfl
          · have h := if_f c6 h
            by_cases c8 : x1 = 5
            · have h := if_t c8 h
              refine lv_tableIn (tgt := 96) hx hb dX9_count_1 (by rw [c8]; decide) (by rw [c8]; decide) (by first | (rw [c8]; done) | (rw [c8]; rfl)) (by decide) ?_
              refine lv_aload_n hx hb dX9_count_96 rfl (lv_at hl 0 rfl) ?_
              refine g_get hC hP fg_X9_47 0 rfl rfl dX9_count_97 ?_
              refine g_get hC hP fg_X9_210 6 rfl rfl dX9_count_100 ?_
              exact ret_i hC hr hlk hP dX9_count_103 () (⟨Option.some.inj h, rfl⟩) rfl
            · have h := if_f c8 h
              by_cases c9 : x1 = 6
              · have h := if_t c9 h
                refine lv_tableIn (tgt := 104) hx hb dX9_count_1 (by rw [c9]; decide) (by rw [c9]; decide) (by first | (rw [c9]; done) | (rw [c9]; rfl)) (by decide) ?_
                refine lv_aload_n hx hb dX9_count_104 rfl (lv_at hl 0 rfl) ?_
                refine g_get hC hP fg_X9_56 0 rfl rfl dX9_count_105 ?_
                refine g_get hC hP fg_X9_165 7 rfl rfl dX9_count_108 ?_
                exact ret_i hC hr hlk hP dX9_count_111 () (⟨Option.some.inj h, rfl⟩) rfl
              · have h := if_f c9 h
                by_cases c10 : x1 = 7
                · have h := if_t c10 h
                  refine lv_tableIn (tgt := 112) hx hb dX9_count_1 (by rw [c10]; decide) (by rw [c10]; decide) (by first | (rw [c10]; done) | (rw [c10]; rfl)) (by decide) ?_
                  refine lv_aload_n hx hb dX9_count_112 rfl (lv_at hl 0 rfl) ?_
                  refine g_get hC hP fg_X9_60 0 rfl rfl dX9_count_113 ?_
                  refine g_get hC hP fg_X9_165 8 rfl rfl dX9_count_116 ?_
                  exact ret_i hC hr hlk hP dX9_count_119 () (⟨Option.some.inj h, rfl⟩) rfl
                · have h := if_f c10 h
                  by_cases c11 : x1 = 8
                  · have h := if_t c11 h
                    refine lv_tableIn (tgt := 120) hx hb dX9_count_1 (by rw [c11]; decide) (by rw [c11]; decide) (by first | (rw [c11]; done) | (rw [c11]; rfl)) (by decide) ?_
                    refine lv_aload_n hx hb dX9_count_120 rfl (lv_at hl 0 rfl) ?_
                    refine g_get hC hP fg_X9_10 0 rfl rfl dX9_count_121 ?_
                    refine g_get hC hP fg_X9_103 1 rfl rfl dX9_count_124 ?_
                    exact ret_i hC hr hlk hP dX9_count_127 () (⟨Option.some.inj h, rfl⟩) rfl
                  · have h := if_f c11 h
                    by_cases c12 : x1 = 9
                    · have h := if_t c12 h
                      refine lv_tableIn (tgt := 128) hx hb dX9_count_1 (by rw [c12]; decide) (by rw [c12]; decide) (by first | (rw [c12]; done) | (rw [c12]; rfl)) (by decide) ?_
                      refine lv_aload_n hx hb dX9_count_128 rfl (lv_at hl 0 rfl) ?_
                      refine g_get hC hP fg_X9_33 0 rfl rfl dX9_count_129 ?_
                      refine g_get hC hP fg_X9_259 4 rfl rfl dX9_count_132 ?_
                      exact ret_i hC hr hlk hP dX9_count_135 () (⟨Option.some.inj h, rfl⟩) rfl
                    · have h := if_f c12 h
                      refine lv_tableOut (tgt := 136) hx hb dX9_count_1 (sw_out_X9_count_1 c1 c2 c3 c4 c6 c8 c9 c10 c11 c12) (by decide) ?_
                      refine lv_iconst (v := -1) hx hb dX9_count_136 (by decide) ?_
                      exact ret_i hC hr hlk hP dX9_count_137 () (⟨Option.some.inj h, rfl⟩) rfl
