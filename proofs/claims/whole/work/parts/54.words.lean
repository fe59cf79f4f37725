theorem kw29 : Cond.classLink RX9 7 RX5 ∈ Tg := mem_Tg (List.mem_append_right _ (List.mem_of_getElem? (i := 29) (by decide +kernel))) (by decide +kernel)
theorem kw30 : Cond.instantiable RX5 2 ∈ Tg := mem_Tg (List.mem_append_right _ (List.mem_of_getElem? (i := 30) (by decide +kernel))) (by decide +kernel)
theorem kn0 : (RX9, 9, yX5_init, "LeftAndRight") ∈ NSt := List.mem_of_getElem? (i := 0) rfl
theorem kw32 : Cond.instanceMethod yX5_init ∈ Tg := mem_Tg (List.mem_append_right _ (List.mem_of_getElem? (i := 32) (by decide +kernel))) (by decide +kernel)
theorem kw45 : Cond.classLink RX9 16 RX3 ∈ Tg := mem_Tg (List.mem_append_right _ (List.mem_of_getElem? (i := 45) (by decide +kernel))) (by decide +kernel)
theorem kw46 : Cond.instantiable RX3 5 ∈ Tg := mem_Tg (List.mem_append_right _ (List.mem_of_getElem? (i := 46) (by decide +kernel))) (by decide +kernel)
theorem kn1 : (RX9, 18, yX3_init, "LeftAndRight") ∈ NSt := List.mem_of_getElem? (i := 1) rfl
theorem kw48 : Cond.instanceMethod yX3_init ∈ Tg := mem_Tg (List.mem_append_right _ (List.mem_of_getElem? (i := 48) (by decide +kernel))) (by decide +kernel)
theorem kw137 : Cond.classLink RX9 23 RX4 ∈ Tg := mem_Tg (List.mem_append_right _ (List.mem_of_getElem? (i := 137) (by decide +kernel))) (by decide +kernel)
theorem kn5 : (RX9, 25, yX4_init, "LeftAndRight") ∈ NSt := List.mem_of_getElem? (i := 5) rfl
theorem kw139 : Cond.classLink RX9 30 RX6 ∈ Tg := mem_Tg (List.mem_append_right _ (List.mem_of_getElem? (i := 139) (by decide +kernel))) (by decide +kernel)
theorem kn6 : (RX9, 32, yX6_init, "LeftAndRight") ∈ NSt := List.mem_of_getElem? (i := 6) rfl
theorem kw141 : Cond.classLink RX9 37 RX0 ∈ Tg := mem_Tg (List.mem_append_right _ (List.mem_of_getElem? (i := 141) (by decide +kernel))) (by decide +kernel)
theorem kn7 : (RX9, 39, yX0_init, "LeftAndRight") ∈ NSt := List.mem_of_getElem? (i := 7) rfl
theorem kw143 : Cond.classLink RX9 44 RX7 ∈ Tg := mem_Tg (List.mem_append_right _ (List.mem_of_getElem? (i := 143) (by decide +kernel))) (by decide +kernel)
theorem kw144 : Cond.instantiable RX7 4 ∈ Tg := mem_Tg (List.mem_append_right _ (List.mem_of_getElem? (i := 144) (by decide +kernel))) (by decide +kernel)
theorem kn8 : (RX9, 46, yX7_init, "LeftAndRight") ∈ NSt := List.mem_of_getElem? (i := 8) rfl
theorem kw146 : Cond.instanceMethod yX7_init ∈ Tg := mem_Tg (List.mem_append_right _ (List.mem_of_getElem? (i := 146) (by decide +kernel))) (by decide +kernel)
theorem kw163 : Cond.classLink RX9 51 RX2 ∈ Tg := mem_Tg (List.mem_append_right _ (List.mem_of_getElem? (i := 163) (by decide +kernel))) (by decide +kernel)
theorem kw164 : Cond.instantiable RX2 2 ∈ Tg := mem_Tg (List.mem_append_right _ (List.mem_of_getElem? (i := 164) (by decide +kernel))) (by decide +kernel)
theorem kw165 : Cond.methodLink RX9 53 yX2_init ∈ Tg := mem_Tg (List.mem_append_right _ (List.mem_of_getElem? (i := 165) (by decide +kernel))) (by decide +kernel)
theorem kw166 : Cond.instanceMethod yX2_init ∈ Tg := mem_Tg (List.mem_append_right _ (List.mem_of_getElem? (i := 166) (by decide +kernel))) (by decide +kernel)
theorem kw183 : Cond.classLink RX9 63 RX1 ∈ Tg := mem_Tg (List.mem_append_right _ (List.mem_of_getElem? (i := 183) (by decide +kernel))) (by decide +kernel)
theorem kw184 : Cond.instantiable RX1 8 ∈ Tg := mem_Tg (List.mem_append_right _ (List.mem_of_getElem? (i := 184) (by decide +kernel))) (by decide +kernel)
theorem kn10 : (RX9, 65, yX1_init, "LeftAndRight") ∈ NSt := List.mem_of_getElem? (i := 10) rfl
theorem kw186 : Cond.instanceMethod yX1_init ∈ Tg := mem_Tg (List.mem_append_right _ (List.mem_of_getElem? (i := 186) (by decide +kernel))) (by decide +kernel)
theorem kw216 : Cond.classLink RX9 70 RX8 ∈ Tg := mem_Tg (List.mem_append_right _ (List.mem_of_getElem? (i := 216) (by decide +kernel))) (by decide +kernel)
theorem kw217 : Cond.instantiable RX8 2 ∈ Tg := mem_Tg (List.mem_append_right _ (List.mem_of_getElem? (i := 217) (by decide +kernel))) (by decide +kernel)
theorem kn11 : (RX9, 72, yX8_init, "LeftAndRight") ∈ NSt := List.mem_of_getElem? (i := 11) rfl
theorem kw219 : Cond.instanceMethod yX8_init ∈ Tg := mem_Tg (List.mem_append_right _ (List.mem_of_getElem? (i := 219) (by decide +kernel))) (by decide +kernel)
theorem kw234 : Cond.methodLink RX9 79 yJ0_length_8abf5 ∈ Tg := mem_Tg (List.mem_append_right _ (List.mem_of_getElem? (i := 234) (by decide +kernel))) (by decide +kernel)
theorem kw235 : Cond.instanceMethod yJ0_length_8abf5 ∈ Tg := mem_Tg (List.mem_append_right _ (List.mem_of_getElem? (i := 235) (by decide +kernel))) (by decide +kernel)
theorem kw236 : Cond.selects RJ0 yJ0_length_8abf5 yJ0_length_8abf5 ∈ Tg := mem_Tg (List.mem_append_right _ (List.mem_of_getElem? (i := 236) (by decide +kernel))) (by decide +kernel)
theorem kw244 : Cond.methodLink RX9 85 yJ0_charAt_5068e ∈ Tg := mem_Tg (List.mem_append_right _ (List.mem_of_getElem? (i := 244) (by decide +kernel))) (by decide +kernel)
theorem kw245 : Cond.instanceMethod yJ0_charAt_5068e ∈ Tg := mem_Tg (List.mem_append_right _ (List.mem_of_getElem? (i := 245) (by decide +kernel))) (by decide +kernel)
theorem kw246 : Cond.selects RJ0 yJ0_charAt_5068e yJ0_charAt_5068e ∈ Tg := mem_Tg (List.mem_append_right _ (List.mem_of_getElem? (i := 246) (by decide +kernel))) (by decide +kernel)
theorem dX9_init_0 : decode cX9_init 0 = .ok (.aload_n 0, 1) := by decide +kernel
theorem kw26 : Cond.methodLink RX9 1 objectInit ∈ Tg := mem_Tg (List.mem_append_right _ (List.mem_of_getElem? (i := 26) (by decide +kernel))) (by decide +kernel)
theorem dX9_init_1 : decode cX9_init 1 = .ok (.invokespecial 1, 3) := by decide +kernel
theorem dX9_init_4 : decode cX9_init 4 = .ok (.aload_n 0, 1) := by decide +kernel
theorem dX9_init_5 : decode cX9_init 5 = .ok (.new 7, 3) := by decide +kernel
theorem dX9_init_8 : decode cX9_init 8 = .ok (.dup, 1) := by decide +kernel
theorem kw33 : Cond.code yX5_init cX5_init 1 none ∈ Tg := mem_Tg (List.mem_append_right _ (List.mem_of_getElem? (i := 33) (by decide +kernel))) (by decide +kernel)
theorem dX9_init_9 : decode cX9_init 9 = .ok (.invokespecial 9, 3) := by decide +kernel
theorem dX9_init_12 : decode cX9_init 12 = .ok (.putfield 10, 3) := by decide +kernel
theorem dX9_init_15 : decode cX9_init 15 = .ok (.aload_n 0, 1) := by decide +kernel
theorem dX9_init_16 : decode cX9_init 16 = .ok (.new 16, 3) := by decide +kernel
theorem dX9_init_19 : decode cX9_init 19 = .ok (.dup, 1) := by decide +kernel
theorem kw49 : Cond.code yX3_init cX3_init 1 none ∈ Tg := mem_Tg (List.mem_append_right _ (List.mem_of_getElem? (i := 49) (by decide +kernel))) (by decide +kernel)
theorem dX9_init_20 : decode cX9_init 20 = .ok (.invokespecial 18, 3) := by decide +kernel
theorem dX9_init_23 : decode cX9_init 23 = .ok (.putfield 19, 3) := by decide +kernel
theorem dX9_init_26 : decode cX9_init 26 = .ok (.aload_n 0, 1) := by decide +kernel
theorem dX9_init_27 : decode cX9_init 27 = .ok (.new 23, 3) := by decide +kernel
theorem dX9_init_30 : decode cX9_init 30 = .ok (.dup, 1) := by decide +kernel
theorem dX9_init_31 : decode cX9_init 31 = .ok (.invokespecial 25, 3) := by decide +kernel
theorem dX9_init_34 : decode cX9_init 34 = .ok (.putfield 26, 3) := by decide +kernel
theorem dX9_init_37 : decode cX9_init 37 = .ok (.aload_n 0, 1) := by decide +kernel
theorem dX9_init_38 : decode cX9_init 38 = .ok (.new 30, 3) := by decide +kernel
theorem dX9_init_41 : decode cX9_init 41 = .ok (.dup, 1) := by decide +kernel
theorem dX9_init_42 : decode cX9_init 42 = .ok (.invokespecial 32, 3) := by decide +kernel
theorem dX9_init_45 : decode cX9_init 45 = .ok (.putfield 33, 3) := by decide +kernel
theorem dX9_init_48 : decode cX9_init 48 = .ok (.aload_n 0, 1) := by decide +kernel
theorem dX9_init_49 : decode cX9_init 49 = .ok (.new 37, 3) := by decide +kernel
theorem dX9_init_52 : decode cX9_init 52 = .ok (.dup, 1) := by decide +kernel
theorem dX9_init_53 : decode cX9_init 53 = .ok (.invokespecial 39, 3) := by decide +kernel
theorem dX9_init_56 : decode cX9_init 56 = .ok (.putfield 40, 3) := by decide +kernel
theorem dX9_init_59 : decode cX9_init 59 = .ok (.aload_n 0, 1) := by decide +kernel
theorem dX9_init_60 : decode cX9_init 60 = .ok (.new 44, 3) := by decide +kernel
theorem dX9_init_63 : decode cX9_init 63 = .ok (.dup, 1) := by decide +kernel
theorem kw147 : Cond.code yX7_init cX7_init 1 none ∈ Tg := mem_Tg (List.mem_append_right _ (List.mem_of_getElem? (i := 147) (by decide +kernel))) (by decide +kernel)
theorem dX9_init_64 : decode cX9_init 64 = .ok (.invokespecial 46, 3) := by decide +kernel
theorem dX9_init_67 : decode cX9_init 67 = .ok (.putfield 47, 3) := by decide +kernel
theorem dX9_init_70 : decode cX9_init 70 = .ok (.aload_n 0, 1) := by decide +kernel
theorem dX9_init_71 : decode cX9_init 71 = .ok (.new 51, 3) := by decide +kernel
theorem dX9_init_74 : decode cX9_init 74 = .ok (.dup, 1) := by decide +kernel
theorem dX9_init_75 : decode cX9_init 75 = .ok (.bipush 8, 2) := by decide +kernel
theorem kw167 : Cond.code yX2_init cX2_init 3 none ∈ Tg := mem_Tg (List.mem_append_right _ (List.mem_of_getElem? (i := 167) (by decide +kernel))) (by decide +kernel)
theorem dX9_init_77 : decode cX9_init 77 = .ok (.invokespecial 53, 3) := by decide +kernel
theorem dX9_init_80 : decode cX9_init 80 = .ok (.putfield 56, 3) := by decide +kernel
theorem dX9_init_83 : decode cX9_init 83 = .ok (.aload_n 0, 1) := by decide +kernel
theorem dX9_init_84 : decode cX9_init 84 = .ok (.new 51, 3) := by decide +kernel
theorem dX9_init_87 : decode cX9_init 87 = .ok (.dup, 1) := by decide +kernel
theorem dX9_init_88 : decode cX9_init 88 = .ok (.iconst 2, 1) := by decide +kernel
theorem dX9_init_89 : decode cX9_init 89 = .ok (.invokespecial 53, 3) := by decide +kernel
theorem dX9_init_92 : decode cX9_init 92 = .ok (.putfield 60, 3) := by decide +kernel
theorem dX9_init_95 : decode cX9_init 95 = .ok (.aload_n 0, 1) := by decide +kernel
theorem dX9_init_96 : decode cX9_init 96 = .ok (.new 63, 3) := by decide +kernel
theorem dX9_init_99 : decode cX9_init 99 = .ok (.dup, 1) := by decide +kernel
theorem kw187 : Cond.code yX1_init cX1_init 1 none ∈ Tg := mem_Tg (List.mem_append_right _ (List.mem_of_getElem? (i := 187) (by decide +kernel))) (by decide +kernel)
theorem dX9_init_100 : decode cX9_init 100 = .ok (.invokespecial 65, 3) := by decide +kernel
theorem dX9_init_103 : decode cX9_init 103 = .ok (.putfield 66, 3) := by decide +kernel
theorem dX9_init_106 : decode cX9_init 106 = .ok (.aload_n 0, 1) := by decide +kernel
theorem dX9_init_107 : decode cX9_init 107 = .ok (.new 70, 3) := by decide +kernel
theorem dX9_init_110 : decode cX9_init 110 = .ok (.dup, 1) := by decide +kernel
theorem kw220 : Cond.code yX8_init cX8_init 1 none ∈ Tg := mem_Tg (List.mem_append_right _ (List.mem_of_getElem? (i := 220) (by decide +kernel))) (by decide +kernel)
theorem dX9_init_111 : decode cX9_init 111 = .ok (.invokespecial 72, 3) := by decide +kernel
theorem dX9_init_114 : decode cX9_init 114 = .ok (.putfield 73, 3) := by decide +kernel
theorem dX9_init_117 : decode cX9_init 117 = .ok (.iconst 0, 1) := by decide +kernel
theorem dX9_init_118 : decode cX9_init 118 = .ok (.istore_n 1, 1) := by decide +kernel
theorem dX9_init_119 : decode cX9_init 119 = .ok (.iload_n 1, 1) := by decide +kernel
theorem dX9_init_120 : decode cX9_init 120 = .ok (.ldc 77, 2) := by decide +kernel
theorem kw237 : Cond.code yJ0_length_8abf5 cJ0_length_8abf5 1 (some .int) ∈ Tg := mem_Tg (List.mem_append_right _ (List.mem_of_getElem? (i := 237) (by decide +kernel))) (by decide +kernel)
theorem dX9_init_122 : decode cX9_init 122 = .ok (.invokevirtual 79, 3) := by decide +kernel
theorem dX9_init_125 : decode cX9_init 125 = .ok (.if_icmp .ge 22, 3) := by decide +kernel
theorem dX9_init_128 : decode cX9_init 128 = .ok (.aload_n 0, 1) := by decide +kernel
theorem dX9_init_129 : decode cX9_init 129 = .ok (.getfield 10, 3) := by decide +kernel
theorem dX9_init_132 : decode cX9_init 132 = .ok (.ldc 77, 2) := by decide +kernel
theorem dX9_init_134 : decode cX9_init 134 = .ok (.iload_n 1, 1) := by decide +kernel
theorem kw247 : Cond.code yJ0_charAt_5068e cJ0_charAt_5068e 2 (some .char) ∈ Tg := mem_Tg (List.mem_append_right _ (List.mem_of_getElem? (i := 247) (by decide +kernel))) (by decide +kernel)
theorem dX9_init_135 : decode cX9_init 135 = .ok (.invokevirtual 85, 3) := by decide +kernel
theorem dX9_init_138 : decode cX9_init 138 = .ok (.invokevirtual 89, 3) := by decide +kernel
theorem dX9_init_141 : decode cX9_init 141 = .ok (.iinc 1 1, 3) := by decide +kernel
theorem dX9_init_144 : decode cX9_init 144 = .ok (.goto (-25), 3) := by decide +kernel
theorem dX9_init_147 : decode cX9_init 147 = .ok (.aload_n 0, 1) := by decide +kernel
theorem dX9_init_148 : decode cX9_init 148 = .ok (.invokevirtual 92, 3) := by decide +kernel
theorem dX9_init_151 : decode cX9_init 151 = .ok (.pop, 1) := by decide +kernel
theorem dX9_init_152 : decode cX9_init 152 = .ok (.aload_n 0, 1) := by decide +kernel
theorem dX9_init_153 : decode cX9_init 153 = .ok (.getfield 10, 3) := by decide +kernel
theorem dX9_init_156 : decode cX9_init 156 = .ok (.invokevirtual 96, 3) := by decide +kernel
theorem dX9_init_159 : decode cX9_init 159 = .ok (.return_, 1) := by decide +kernel
theorem nw_X9_7 : NWp RX9 7 5 2 [.null, .int 0] := ⟨RX5, TX5, tyX5, rfl, in5, tyX5_ok, kw29, kw30, kw2, by decide +kernel⟩
theorem ci_X9_9 : CIw RX9 9 yX5_init "LeftAndRight" 0 := ⟨by decide +kernel, kn0, kw32, kw2, rfl⟩
theorem nw_X9_16 : NWp RX9 16 3 5 [.null, .null, .null, .null, .int 0] := ⟨RX3, TX3, tyX3, rfl, in3, tyX3_ok, kw45, kw46, kw3, by decide +kernel⟩
theorem ci_X9_18 : CIw RX9 18 yX3_init "LeftAndRight" 0 := ⟨by decide +kernel, kn1, kw48, kw3, rfl⟩
theorem nw_X9_23 : NWp RX9 23 4 3 [.null, .int 0, .int 0] := ⟨RX4, TX4, tyX4, rfl, in4, tyX4_ok, kw137, kw52, kw4, by decide +kernel⟩
theorem ci_X9_25 : CIw RX9 25 yX4_init "LeftAndRight" 0 := ⟨by decide +kernel, kn5, kw54, kw4, rfl⟩
theorem nw_X9_30 : NWp RX9 30 6 4 [.null, .null, .int 0, .int 0] := ⟨RX6, TX6, tyX6, rfl, in6, tyX6_ok, kw139, kw76, kw5, by decide +kernel⟩
theorem ci_X9_32 : CIw RX9 32 yX6_init "LeftAndRight" 0 := ⟨by decide +kernel, kn6, kw78, kw5, rfl⟩
theorem nw_X9_37 : NWp RX9 37 0 3 [.int 0, .int 0, .long 0] := ⟨RX0, TX0, tyX0, rfl, in0, tyX0_ok, kw141, kw100, kw6, by decide +kernel⟩
theorem ci_X9_39 : CIw RX9 39 yX0_init "LeftAndRight" 0 := ⟨by decide +kernel, kn7, kw102, kw6, rfl⟩
theorem nw_X9_44 : NWp RX9 44 7 4 [.null, .null, .null, .int 0] := ⟨RX7, TX7, tyX7, rfl, in7, tyX7_ok, kw143, kw144, kw7, by decide +kernel⟩
theorem ci_X9_46 : CIw RX9 46 yX7_init "LeftAndRight" 0 := ⟨by decide +kernel, kn8, kw146, kw7, rfl⟩
theorem nw_X9_51 : NWp RX9 51 2 2 [.null, .int 0] := ⟨RX2, TX2, tyX2, rfl, in2, tyX2_ok, kw163, kw164, kw8, by decide +kernel⟩
theorem cj_X9_53 : CJw RX9 53 yX2_init 1 := ⟨by decide +kernel, kw165, kw166, kw8, rfl⟩
theorem nw_X9_63 : NWp RX9 63 1 8 [.null, .null, .null, .null, .int 0, .int 0, .int 0, .int 0] := ⟨RX1, TX1, tyX1, rfl, in1, tyX1_ok, kw183, kw184, kw10, by decide +kernel⟩
theorem ci_X9_65 : CIw RX9 65 yX1_init "LeftAndRight" 0 := ⟨by decide +kernel, kn10, kw186, kw10, rfl⟩
theorem nw_X9_70 : NWp RX9 70 8 2 [.null, .int 0] := ⟨RX8, TX8, tyX8, rfl, in8, tyX8_ok, kw216, kw217, kw11, by decide +kernel⟩
theorem ci_X9_72 : CIw RX9 72 yX8_init "LeftAndRight" 0 := ⟨by decide +kernel, kn11, kw219, kw11, rfl⟩
theorem cv_X9_79 : CVw RX9 79 RJ0 yJ0_length_8abf5 0 := ⟨by decide +kernel, kw234, kw235, kw236, kw12⟩
theorem cv_X9_85 : CVw RX9 85 RJ0 yJ0_charAt_5068e 1 := ⟨by decide +kernel, kw244, kw245, kw246, kw12⟩
