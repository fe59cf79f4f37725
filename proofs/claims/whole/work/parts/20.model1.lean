set_option maxHeartbeats 8000000 in
set_option maxRecDepth 100000 in
theorem c_X10_tellsFeet (l : Launch) (dC : Nat → ClassId) (dI : Nat → Nat → Nat) (cc : Nat → ClassId) (q0 q1 q2 q3 q4 q5 q6 q7 q8 q9 q10 q11 q12 q13 q14 q15 q16 q17 : Nat) (feetMany : Int32) (log_ : Int32) (block : Int32) (stocking : Int32) (acts : Int32) (keeps : Int32) (hears : Int32) (texted : Int32) (at_ : Int32) (readFeetMany : Int32) (readLog : Int32) (readBlock : Int32) (readStocking : Int32) (lefts_ : Int32) (rights_ : Int32) (readFeet : (Nat → Int32)) (x1 : Int32) (x2 : Int32) (sz : Nat) (o_readFeetMany : Int32) (o_readFeet : (Nat → Int32)) (hu : f_X10_tellsFeet x1 x2 readFeetMany readFeet = some (o_readFeetMany, o_readFeet)) : Met l yX10_tellsFeet (mw yX10_tellsFeet cX10_tellsFeet 3 none) ({ frames := 0, cells := 0, slots := 0, locals := 0 } : Room) (va_Pc [.ref q0, .int x1, .int x2] (mP (dC, dI) (ts cc) sz [(q0, .inr (10, [.int feetMany, .ref q1, .int log_, .int block, .ref q2, .int stocking, .ref q3, .int acts, .ref q4, .int keeps, .ref q5, .int hears, .ref q6, .ref q7, .int texted, .int at_, .ref q8, .ref q9, .int readFeetMany, .ref q10, .int readLog, .int readBlock, .ref q11, .int readStocking, .ref q12, .int lefts_, .int rights_, .ref q13, .ref q14, .ref q15, .ref q16, .ref q17])), (q10, .inl (cc 0, 10, .inl readFeet))])) ((fun A => va_Qv (fun (w : Int32 × (Nat → Int32)) => w = (o_readFeetMany, o_readFeet)) (fun (w : Int32 × (Nat → Int32)) t => va_P (dC, dI) classes [(q0, .inr (10, [.int feetMany, .ref q1, .int log_, .int block, .ref q2, .int stocking, .ref q3, .int acts, .ref q4, .int keeps, .ref q5, .int hears, .ref q6, .ref q7, .int texted, .int at_, .ref q8, .ref q9, .int w.1, .ref q10, .int readLog, .int readBlock, .ref q11, .int readStocking, .ref q12, .int lefts_, .int rights_, .ref q13, .ref q14, .ref q15, .ref q16, .ref q17])), (q10, .inl (cc 0, 10, .inl w.2))] t.heap) A) (va_A [(q0, .inr (10, [.int feetMany, .ref q1, .int log_, .int block, .ref q2, .int stocking, .ref q3, .int acts, .ref q4, .int keeps, .ref q5, .int hears, .ref q6, .ref q7, .int texted, .int at_, .ref q8, .ref q9, .int readFeetMany, .ref q10, .int readLog, .int readBlock, .ref q11, .int readStocking, .ref q12, .int lefts_, .int rights_, .ref q13, .ref q14, .ref q15, .ref q16, .ref q17])), (q10, .inl (cc 0, 10, .inl readFeet))] sz)) 0 0 (va_A [(q0, .inr (10, [.int feetMany, .ref q1, .int log_, .int block, .ref q2, .int stocking, .ref q3, .int acts, .ref q4, .int keeps, .ref q5, .int hears, .ref q6, .ref q7, .int texted, .int at_, .ref q8, .ref q9, .int readFeetMany, .ref q10, .int readLog, .int readBlock, .ref q11, .int readStocking, .ref q12, .int lefts_, .int rights_, .ref q13, .ref q14, .ref q15, .ref q16, .ref q17])), (q10, .inl (cc 0, 10, .inl readFeet))] sz) := by
  refine met_go (Qc := fun A => va_Qv (fun (w : Int32 × (Nat → Int32)) => w = (o_readFeetMany, o_readFeet)) (fun (w : Int32 × (Nat → Int32)) t => va_P (dC, dI) classes [(q0, .inr (10, [.int feetMany, .ref q1, .int log_, .int block, .ref q2, .int stocking, .ref q3, .int acts, .ref q4, .int keeps, .ref q5, .int hears, .ref q6, .ref q7, .int texted, .int at_, .ref q8, .ref q9, .int w.1, .ref q10, .int readLog, .int readBlock, .ref q11, .int readStocking, .ref q12, .int lefts_, .int rights_, .ref q13, .ref q14, .ref q15, .ref q16, .ref q17])), (q10, .inl (cc 0, 10, .inl w.2))] t.heap) A) (by decide) (Nat.le_of_ble_eq_true rfl) ?_
  intro p e s m below meth c A ls H locs hC hr hlk hin hA hP hl _
  have hC : CX p m c cX10_tellsFeet 3 s ([.ref q0, .int x1, .int x2] : List Value).toArray RX10 (dC, dI) (ts cc) := hC
  have hx := hC.1.1
  have hb := hC.1.2
  have h := hu
  have hu0 := hu
  unfold f_X10_tellsFeet at h
  have hl : lv_has ls 3 [(0, .ref q0), (1, .int x1), (2, .int x2)] := hl
  refine lv_aload_n hx hb dX10_tellsFeet_0 rfl (lv_at hl 0 rfl) ?_
  refine g_get hC hP fg_X10_38 0 rfl rfl dX10_tellsFeet_1 ?_
  refine lv_iconst (v := 2) hx hb dX10_tellsFeet_4 (by decide) ?_
  refine lv_aload_n hx hb dX10_tellsFeet_5 rfl (lv_at hl 0 rfl) ?_
  refine g_get hC hP fg_X10_87 0 rfl rfl dX10_tellsFeet_6 ?_
  refine lv_imul hx hb dX10_tellsFeet_9 ?_
  refine lv_iload_n hx hb dX10_tellsFeet_10 rfl (lv_at hl 1 rfl) ?_
  obtain ⟨hin, h⟩ := wr_h h
  refine g_iast hC hP 1 0 rfl rfl hin dX10_tellsFeet_11 (fun a1 ev H locs hP => ?_)
  have hP : PD (dC, dI) A s.heap [(q0, .inr (10, [.int feetMany, .ref q1, .int log_, .int block, .ref q2, .int stocking, .ref q3, .int acts, .ref q4, .int keeps, .ref q5, .int hears, .ref q6, .ref q7, .int texted, .int at_, .ref q8, .ref q9, .int readFeetMany, .ref q10, .int readLog, .int readBlock, .ref q11, .int readStocking, .ref q12, .int lefts_, .int rights_, .ref q13, .ref q14, .ref q15, .ref q16, .ref q17])), (q10, .inl (cc 0, 10, .inl a1))] H locs := hP
  have h := h a1 ev
  refine lv_aload_n hx hb dX10_tellsFeet_12 rfl (lv_at hl 0 rfl) ?_
  refine g_get hC hP fg_X10_38 0 rfl rfl dX10_tellsFeet_13 ?_
  refine lv_iconst (v := 2) hx hb dX10_tellsFeet_16 (by decide) ?_
  refine lv_aload_n hx hb dX10_tellsFeet_17 rfl (lv_at hl 0 rfl) ?_
  refine g_get hC hP fg_X10_87 0 rfl rfl dX10_tellsFeet_18 ?_
  refine lv_imul hx hb dX10_tellsFeet_21 ?_
  refine lv_iconst (v := 1) hx hb dX10_tellsFeet_22 (by decide) ?_
  refine lv_iadd hx hb dX10_tellsFeet_23 ?_
  refine lv_iload_n hx hb dX10_tellsFeet_24 rfl (lv_at hl 2 rfl) ?_
  obtain ⟨hin, h⟩ := wr_h h
  refine g_iast hC hP 1 0 rfl rfl hin dX10_tellsFeet_25 (fun a2 ev H locs hP => ?_)
  have hP : PD (dC, dI) A s.heap [(q0, .inr (10, [.int feetMany, .ref q1, .int log_, .int block, .ref q2, .int stocking, .ref q3, .int acts, .ref q4, .int keeps, .ref q5, .int hears, .ref q6, .ref q7, .int texted, .int at_, .ref q8, .ref q9, .int readFeetMany, .ref q10, .int readLog, .int readBlock, .ref q11, .int readStocking, .ref q12, .int lefts_, .int rights_, .ref q13, .ref q14, .ref q15, .ref q16, .ref q17])), (q10, .inl (cc 0, 10, .inl a2))] H locs := hP
  have h := h a2 ev
  refine lv_aload_n hx hb dX10_tellsFeet_26 rfl (lv_at hl 0 rfl) ?_
  refine lv_dup hx hb dX10_tellsFeet_27 rfl ?_
  refine g_get hC hP fg_X10_87 0 rfl rfl dX10_tellsFeet_28 ?_
  refine lv_iconst (v := 1) hx hb dX10_tellsFeet_31 (by decide) ?_
  refine lv_iadd hx hb dX10_tellsFeet_32 ?_
  refine g_put hC hP fg_X10_87 0 rfl rfl rfl (Nat.le_of_ble_eq_true rfl) dX10_tellsFeet_33 (fun H locs hP => ?_)
  have hP : PD (dC, dI) A s.heap [(q0, .inr (10, [.int feetMany, .ref q1, .int log_, .int block, .ref q2, .int stocking, .ref q3, .int acts, .ref q4, .int keeps, .ref q5, .int hears, .ref q6, .ref q7, .int texted, .int at_, .ref q8, .ref q9, .int (readFeetMany + 1), .ref q10, .int readLog, .int readBlock, .ref q11, .int readStocking, .ref q12, .int lefts_, .int rights_, .ref q13, .ref q14, .ref q15, .ref q16, .ref q17])), (q10, .inl (cc 0, 10, .inl a2))] H locs := hP
  exact ret_v hC hr hlk hP dX10_tellsFeet_36 ((readFeetMany + 1), a2) (Option.some.inj h) rfl
set_option maxHeartbeats 8000000 in
set_option maxRecDepth 100000 in
theorem c_X10_puts (l : Launch) (dC : Nat → ClassId) (dI : Nat → Nat → Nat) (cc : Nat → ClassId) (q0 : Nat) (n1 : Nat) (f1 : (Nat → Int32)) (x2 : Int32) (x3 : Int32) (x4 : Int32) (x5 : Int32) (sz : Nat) (o_f1 : (Nat → Int32)) (hu : f_X10_puts x2 x3 x4 x5 n1 f1 = some o_f1) : Met l yX10_puts (mw yX10_puts cX10_puts 6 none) ({ frames := 0, cells := 0, slots := 0, locals := 0 } : Room) (va_Pc [.ref q0, .int x2, .int x3, .int x4, .int x5] (mP (dC, dI) (ts cc) sz [(q0, .inl (cc 0, n1, .inl f1))])) ((fun A => va_Qv (fun (w : (Nat → Int32)) => w = o_f1) (fun (w : (Nat → Int32)) t => va_P (dC, dI) classes [(q0, .inl (cc 0, n1, .inl w))] t.heap) A) (va_A [(q0, .inl (cc 0, n1, .inl f1))] sz)) 0 0 (va_A [(q0, .inl (cc 0, n1, .inl f1))] sz) := by
  refine met_go (Qc := fun A => va_Qv (fun (w : (Nat → Int32)) => w = o_f1) (fun (w : (Nat → Int32)) t => va_P (dC, dI) classes [(q0, .inl (cc 0, n1, .inl w))] t.heap) A) (by decide) (Nat.le_of_ble_eq_true rfl) ?_
  intro p e s m below meth c A ls H locs hC hr hlk hin hA hP hl _
  have hC : CX p m c cX10_puts 6 s ([.ref q0, .int x2, .int x3, .int x4, .int x5] : List Value).toArray RX10 (dC, dI) (ts cc) := hC
  have hx := hC.1.1
  have hb := hC.1.2
  have h := hu
  have hu0 := hu
  unfold f_X10_puts at h
  have hl : lv_has ls 6 [(0, .ref q0), (1, .int x2), (2, .int x3), (3, .int x4), (4, .int x5)] := hl
  refine lv_iconst (v := 2) hx hb dX10_puts_0 (by decide) ?_
  refine lv_iconst (v := 5) hx hb dX10_puts_1 (by decide) ?_
  refine lv_aload_n hx hb dX10_puts_2 rfl (lv_at hl 0 rfl) ?_
  refine lv_iconst (v := 1) hx hb dX10_puts_3 (by decide) ?_
  obtain ⟨hin, h⟩ := rd_h h
  refine g_iald hC hP 0 0 rfl rfl hin dX10_puts_4 (fun v1 ev => ?_)
  have h := h v1 ev
  refine lv_imul hx hb dX10_puts_5 ?_
  refine lv_iadd hx hb dX10_puts_6 ?_
  refine lv_istore (lv' := [(5, .int (2 + (5 * v1))), (0, .ref q0), (1, .int x2), (2, .int x3), (3, .int x4), (4, .int x5)]) hx hb dX10_puts_7 hl (by decide) rfl (fun ls hl => ?_)
  refine lv_aload_n hx hb dX10_puts_9 rfl (lv_at hl 1 rfl) ?_
  refine lv_iload hx hb dX10_puts_10 (lv_at hl 0 rfl) ?_
  refine lv_iload_n hx hb dX10_puts_12 rfl (lv_at hl 2 rfl) ?_
  obtain ⟨hin, h⟩ := wr_h h
  refine g_iast hC hP 0 0 rfl rfl hin dX10_puts_13 (fun a2 ev H locs hP => ?_)
  have hP : PD (dC, dI) A s.heap [(q0, .inl (cc 0, n1, .inl a2))] H locs := hP
  have h := h a2 ev
  refine lv_aload_n hx hb dX10_puts_14 rfl (lv_at hl 1 rfl) ?_
  refine lv_iload hx hb dX10_puts_15 (lv_at hl 0 rfl) ?_
  refine lv_iconst (v := 1) hx hb dX10_puts_17 (by decide) ?_
  refine lv_iadd hx hb dX10_puts_18 ?_
  refine lv_iload_n hx hb dX10_puts_19 rfl (lv_at hl 3 rfl) ?_
  obtain ⟨hin, h⟩ := wr_h h
  refine g_iast hC hP 0 0 rfl rfl hin dX10_puts_20 (fun a3 ev H locs hP => ?_)
  have hP : PD (dC, dI) A s.heap [(q0, .inl (cc 0, n1, .inl a3))] H locs := hP
  have h := h a3 ev
  refine lv_aload_n hx hb dX10_puts_21 rfl (lv_at hl 1 rfl) ?_
  refine lv_iload hx hb dX10_puts_22 (lv_at hl 0 rfl) ?_
  refine lv_iconst (v := 2) hx hb dX10_puts_24 (by decide) ?_
  refine lv_iadd hx hb dX10_puts_25 ?_
  refine lv_iload_n hx hb dX10_puts_26 rfl (lv_at hl 4 rfl) ?_
  obtain ⟨hin, h⟩ := wr_h h
  refine g_iast hC hP 0 0 rfl rfl hin dX10_puts_27 (fun a4 ev H locs hP => ?_)
  have hP : PD (dC, dI) A s.heap [(q0, .inl (cc 0, n1, .inl a4))] H locs := hP
  have h := h a4 ev
  refine lv_aload_n hx hb dX10_puts_28 rfl (lv_at hl 1 rfl) ?_
  refine lv_iload hx hb dX10_puts_29 (lv_at hl 0 rfl) ?_
  refine lv_iconst (v := 3) hx hb dX10_puts_31 (by decide) ?_
  refine lv_iadd hx hb dX10_puts_32 ?_
  refine lv_iload hx hb dX10_puts_33 (lv_at hl 5 rfl) ?_
  obtain ⟨hin, h⟩ := wr_h h
  refine g_iast hC hP 0 0 rfl rfl hin dX10_puts_35 (fun a5 ev H locs hP => ?_)
  have hP : PD (dC, dI) A s.heap [(q0, .inl (cc 0, n1, .inl a5))] H locs := hP
  have h := h a5 ev
  refine lv_aload_n hx hb dX10_puts_36 rfl (lv_at hl 1 rfl) ?_
  refine lv_iload hx hb dX10_puts_37 (lv_at hl 0 rfl) ?_
  refine lv_iconst (v := 4) hx hb dX10_puts_39 (by decide) ?_
  refine lv_iadd hx hb dX10_puts_40 ?_
  refine lv_aload_n hx hb dX10_puts_41 rfl (lv_at hl 1 rfl) ?_
  refine lv_iconst (v := 0) hx hb dX10_puts_42 (by decide) ?_
  obtain ⟨hin, h⟩ := rd_h h
  refine g_iald hC hP 0 0 rfl rfl hin dX10_puts_43 (fun v6 ev => ?_)
  have h := h v6 ev
  obtain ⟨hin, h⟩ := wr_h h
  refine g_iast hC hP 0 0 rfl rfl hin dX10_puts_44 (fun a7 ev H locs hP => ?_)
  have hP : PD (dC, dI) A s.heap [(q0, .inl (cc 0, n1, .inl a7))] H locs := hP
  have h := h a7 ev
  refine lv_aload_n hx hb dX10_puts_45 rfl (lv_at hl 1 rfl) ?_
  refine lv_iconst (v := 1) hx hb dX10_puts_46 (by decide) ?_
  refine lv_dup2_11 hx hb dX10_puts_47 rfl rfl ?_
  obtain ⟨hin, h⟩ := rd_h h
  refine g_iald hC hP 0 0 rfl rfl hin dX10_puts_48 (fun v8 ev => ?_)
  have h := h v8 ev
  refine lv_iconst (v := 1) hx hb dX10_puts_49 (by decide) ?_
  refine lv_iadd hx hb dX10_puts_50 ?_
  obtain ⟨hin, h⟩ := wr_h h
  refine g_iast hC hP 0 0 rfl rfl hin dX10_puts_51 (fun a9 ev H locs hP => ?_)
  have hP : PD (dC, dI) A s.heap [(q0, .inl (cc 0, n1, .inl a9))] H locs := hP
  have h := h a9 ev
  exact ret_v hC hr hlk hP dX10_puts_52 a9 (Option.some.inj h) rfl
set_option maxHeartbeats 8000000 in
set_option maxRecDepth 100000 in
theorem c_X10_in (l : Launch) (dC : Nat → ClassId) (dI : Nat → Nat → Nat) (cc : Nat → ClassId) (x1 : Int32) (x2 : Int32) (x3 : Int32) (sz : Nat) (ret : Int32) (hu : f_X10_in x1 x2 x3 = some ret) : Met l yX10_in (mw yX10_in cX10_in 3 (some .boolean)) ({ frames := 0, cells := 0, slots := 0, locals := 0 } : Room) (va_Pc [.int x1, .int x2, .int x3] (mP (dC, dI) (ts cc) sz [])) ((fun A => va_Qi (fun (r : Int32) (w : Unit) => narrow .boolean (.int r) = .int r ∧ (r = ret ∧ w = ())) (fun (w : Unit) t => va_P (dC, dI) classes [] t.heap) A) (va_A [] sz)) 0 0 (va_A [] sz) := by
  refine met_go (Qc := fun A => va_Qi (fun (r : Int32) (w : Unit) => narrow .boolean (.int r) = .int r ∧ (r = ret ∧ w = ())) (fun (w : Unit) t => va_P (dC, dI) classes [] t.heap) A) (by decide) (Nat.le_of_ble_eq_true rfl) ?_
  intro p e s m below meth c A ls H locs hC hr hlk hin hA hP hl _
  have hC : CX p m c cX10_in 3 s ([.int x1, .int x2, .int x3] : List Value).toArray RX10 (dC, dI) (ts cc) := hC
  have hx := hC.1.1
  have hb := hC.1.2
  have h := hu
  have hu0 := hu
  unfold f_X10_in at h
  have hl : lv_has ls 3 [(0, .int x1), (1, .int x2), (2, .int x3)] := hl
  refine lv_iload_n hx hb dX10_in_0 rfl (lv_at hl 0 rfl) ?_
  refine lv_iload_n hx hb dX10_in_1 rfl (lv_at hl 1 rfl) ?_
  refine lv_icmp_lt (tgt := 14) hx hb dX10_in_2 (by decide) (fun c1 => ?_) (fun c1 => ?_)
  · have h := if_t c1 h
    refine lv_iconst (v := 0) hx hb dX10_in_14 (by decide) ?_
    exact ret_z hC hr rfl hlk hP dX10_in_15 () (⟨Option.some.inj h, rfl⟩) rfl
  · have h := if_f c1 h
    refine lv_iload_n hx hb dX10_in_5 rfl (lv_at hl 0 rfl) ?_
    refine lv_iload_n hx hb dX10_in_6 rfl (lv_at hl 2 rfl) ?_
    refine lv_icmp_gt (tgt := 14) hx hb dX10_in_7 (by decide) (fun c2 => ?_) (fun c2 => ?_)
    · have h := if_t c2 h
      refine lv_iconst (v := 0) hx hb dX10_in_14 (by decide) ?_
      exact ret_z hC hr rfl hlk hP dX10_in_15 () (⟨Option.some.inj h, rfl⟩) rfl
    · have h := if_f c2 h
      refine lv_iconst (v := 1) hx hb dX10_in_10 (by decide) ?_
      refine lv_goto (tgt := 15) hx hb dX10_in_11 (by decide) ?_
      exact ret_z hC hr rfl hlk hP dX10_in_15 () (⟨Option.some.inj h, rfl⟩) rfl
set_option maxHeartbeats 8000000 in
set_option maxRecDepth 100000 in
theorem c_X10_has (l : Launch) (dC : Nat → ClassId) (dI : Nat → Nat → Nat) (cc : Nat → ClassId) (x1 : Int32) (x2 : Int32) (sz : Nat) (ret : Int32) (hu : f_X10_has x1 x2 = some ret) : Met l yX10_has (mw yX10_has cX10_has 2 (some .boolean)) ({ frames := 0, cells := 0, slots := 0, locals := 0 } : Room) (va_Pc [.int x1, .int x2] (mP (dC, dI) (ts cc) sz [])) ((fun A => va_Qi (fun (r : Int32) (w : Unit) => narrow .boolean (.int r) = .int r ∧ (r = ret ∧ w = ())) (fun (w : Unit) t => va_P (dC, dI) classes [] t.heap) A) (va_A [] sz)) 0 0 (va_A [] sz) := by
  refine met_go (Qc := fun A => va_Qi (fun (r : Int32) (w : Unit) => narrow .boolean (.int r) = .int r ∧ (r = ret ∧ w = ())) (fun (w : Unit) t => va_P (dC, dI) classes [] t.heap) A) (by decide) (Nat.le_of_ble_eq_true rfl) ?_
  intro p e s m below meth c A ls H locs hC hr hlk hin hA hP hl _
  have hC : CX p m c cX10_has 2 s ([.int x1, .int x2] : List Value).toArray RX10 (dC, dI) (ts cc) := hC
  have hx := hC.1.1
  have hb := hC.1.2
  have h := hu
  have hu0 := hu
  unfold f_X10_has at h
  have hl : lv_has ls 2 [(0, .int x1), (1, .int x2)] := hl
  refine lv_iload_n hx hb dX10_has_0 rfl (lv_at hl 0 rfl) ?_
  refine lv_iload_n hx hb dX10_has_1 rfl (lv_at hl 1 rfl) ?_
  refine lv_ishr hx hb dX10_has_2 ?_
  refine lv_iconst (v := 1) hx hb dX10_has_3 (by decide) ?_
  refine lv_iand hx hb dX10_has_4 ?_
  refine lv_iconst (v := 1) hx hb dX10_has_5 (by decide) ?_
  refine lv_icmp_ne (tgt := 13) hx hb dX10_has_6 (by decide) (fun c1 => ?_) (fun c1 => ?_)
  · have h := if_f c1 h
    refine lv_iconst (v := 0) hx hb dX10_has_13 (by decide) ?_
    exact ret_z hC hr rfl hlk hP dX10_has_14 () (⟨Option.some.inj h, rfl⟩) rfl
  · have h := if_t c1 h
    refine lv_iconst (v := 1) hx hb dX10_has_9 (by decide) ?_
    refine lv_goto (tgt := 14) hx hb dX10_has_10 (by decide) ?_
    exact ret_z hC hr rfl hlk hP dX10_has_14 () (⟨Option.some.inj h, rfl⟩) rfl
set_option maxHeartbeats 8000000 in
set_option maxRecDepth 100000 in
theorem c_X10_apart (l : Launch) (dC : Nat → ClassId) (dI : Nat → Nat → Nat) (cc : Nat → ClassId) (x1 : Int32) (x2 : Int32) (sz : Nat) (ret : Int32) (hu : f_X10_apart x1 x2 = some ret) : Met l yX10_apart (mw yX10_apart cX10_apart 2 (some .int)) ({ frames := 0, cells := 0, slots := 0, locals := 0 } : Room) (va_Pc [.int x1, .int x2] (mP (dC, dI) (ts cc) sz [])) ((fun A => va_Qi (fun (r : Int32) (w : Unit) => r = ret ∧ w = ()) (fun (w : Unit) t => va_P (dC, dI) classes [] t.heap) A) (va_A [] sz)) 0 0 (va_A [] sz) := by
  refine met_go (Qc := fun A => va_Qi (fun (r : Int32) (w : Unit) => r = ret ∧ w = ()) (fun (w : Unit) t => va_P (dC, dI) classes [] t.heap) A) (by decide) (Nat.le_of_ble_eq_true rfl) ?_
  intro p e s m below meth c A ls H locs hC hr hlk hin hA hP hl _
  have hC : CX p m c cX10_apart 2 s ([.int x1, .int x2] : List Value).toArray RX10 (dC, dI) (ts cc) := hC
  have hx := hC.1.1
  have hb := hC.1.2
  have h := hu
  have hu0 := hu
  unfold f_X10_apart at h
  have hl : lv_has ls 2 [(0, .int x1), (1, .int x2)] := hl
  refine lv_iload_n hx hb dX10_apart_0 rfl (lv_at hl 0 rfl) ?_
  refine lv_iload_n hx hb dX10_apart_1 rfl (lv_at hl 1 rfl) ?_
  refine lv_icmp_ge (tgt := 11) hx hb dX10_apart_2 (by decide) (fun c1 => ?_) (fun c1 => ?_)
  · have h := if_t c1 h
    refine lv_iload_n hx hb dX10_apart_11 rfl (lv_at hl 0 rfl) ?_
    refine lv_iload_n hx hb dX10_apart_12 rfl (lv_at hl 1 rfl) ?_
    refine lv_isub hx hb dX10_apart_13 ?_
    exact ret_i hC hr hlk hP dX10_apart_14 () (⟨Option.some.inj h, rfl⟩) rfl
  · have h := if_f c1 h
    refine lv_iload_n hx hb dX10_apart_5 rfl (lv_at hl 1 rfl) ?_
    refine lv_iload_n hx hb dX10_apart_6 rfl (lv_at hl 0 rfl) ?_
    refine lv_isub hx hb dX10_apart_7 ?_
    refine lv_goto (tgt := 14) hx hb dX10_apart_8 (by decide) ?_
    exact ret_i hC hr hlk hP dX10_apart_14 () (⟨Option.some.inj h, rfl⟩) rfl
set_option maxHeartbeats 8000000 in
set_option maxRecDepth 100000 in
theorem c_X10_isClog (l : Launch) (dC : Nat → ClassId) (dI : Nat → Nat → Nat) (cc : Nat → ClassId) (q0 q1 q2 q3 q4 q5 q6 q7 q8 q9 q10 q11 q12 q13 q14 q15 q16 q17 : Nat) (feetMany : Int32) (log_ : Int32) (block : Int32) (stocking : Int32) (acts : Int32) (keeps : Int32) (hears : Int32) (texted : Int32) (at_ : Int32) (readFeetMany : Int32) (readLog : Int32) (readBlock : Int32) (readStocking : Int32) (lefts_ : Int32) (rights_ : Int32) (st : (Nat → Int32)) (x1 : Int32) (sz : Nat) (ret : Int32) (hu : f_X10_isClog x1 st = some ret) : Met l yX10_isClog (mw yX10_isClog cX10_isClog 2 (some .boolean)) ({ frames := 1, cells := 0, slots := 0, locals := 22 } : Room) (va_Pc [.ref q0, .int x1] (mP (dC, dI) (ts cc) sz [(q0, .inr (10, [.int feetMany, .ref q1, .int log_, .int block, .ref q2, .int stocking, .ref q3, .int acts, .ref q4, .int keeps, .ref q5, .int hears, .ref q6, .ref q7, .int texted, .int at_, .ref q8, .ref q9, .int readFeetMany, .ref q10, .int readLog, .int readBlock, .ref q11, .int readStocking, .ref q12, .int lefts_, .int rights_, .ref q13, .ref q14, .ref q15, .ref q16, .ref q17])), (q3, .inl (cc 0, 52, .inl st))])) ((fun A => va_Qi (fun (r : Int32) (w : Unit) => narrow .boolean (.int r) = .int r ∧ (r = ret ∧ w = ())) (fun (w : Unit) t => va_P (dC, dI) classes [(q0, .inr (10, [.int feetMany, .ref q1, .int log_, .int block, .ref q2, .int stocking, .ref q3, .int acts, .ref q4, .int keeps, .ref q5, .int hears, .ref q6, .ref q7, .int texted, .int at_, .ref q8, .ref q9, .int readFeetMany, .ref q10, .int readLog, .int readBlock, .ref q11, .int readStocking, .ref q12, .int lefts_, .int rights_, .ref q13, .ref q14, .ref q15, .ref q16, .ref q17])), (q3, .inl (cc 0, 52, .inl st))] t.heap) A) (va_A [(q0, .inr (10, [.int feetMany, .ref q1, .int log_, .int block, .ref q2, .int stocking, .ref q3, .int acts, .ref q4, .int keeps, .ref q5, .int hears, .ref q6, .ref q7, .int texted, .int at_, .ref q8, .ref q9, .int readFeetMany, .ref q10, .int readLog, .int readBlock, .ref q11, .int readStocking, .ref q12, .int lefts_, .int rights_, .ref q13, .ref q14, .ref q15, .ref q16, .ref q17])), (q3, .inl (cc 0, 52, .inl st))] sz)) 0 0 (va_A [(q0, .inr (10, [.int feetMany, .ref q1, .int log_, .int block, .ref q2, .int stocking, .ref q3, .int acts, .ref q4, .int keeps, .ref q5, .int hears, .ref q6, .ref q7, .int texted, .int at_, .ref q8, .ref q9, .int readFeetMany, .ref q10, .int readLog, .int readBlock, .ref q11, .int readStocking, .ref q12, .int lefts_, .int rights_, .ref q13, .ref q14, .ref q15, .ref q16, .ref q17])), (q3, .inl (cc 0, 52, .inl st))] sz) := by
  refine met_go (Qc := fun A => va_Qi (fun (r : Int32) (w : Unit) => narrow .boolean (.int r) = .int r ∧ (r = ret ∧ w = ())) (fun (w : Unit) t => va_P (dC, dI) classes [(q0, .inr (10, [.int feetMany, .ref q1, .int log_, .int block, .ref q2, .int stocking, .ref q3, .int acts, .ref q4, .int keeps, .ref q5, .int hears, .ref q6, .ref q7, .int texted, .int at_, .ref q8, .ref q9, .int readFeetMany, .ref q10, .int readLog, .int readBlock, .ref q11, .int readStocking, .ref q12, .int lefts_, .int rights_, .ref q13, .ref q14, .ref q15, .ref q16, .ref q17])), (q3, .inl (cc 0, 52, .inl st))] t.heap) A) (by decide) (Nat.le_of_ble_eq_true rfl) ?_
  intro p e s m below meth c A ls H locs hC hr hlk hin hA hP hl _
  have hC : CX p m c cX10_isClog 2 s ([.ref q0, .int x1] : List Value).toArray RX10 (dC, dI) (ts cc) := hC
  have hx := hC.1.1
  have hb := hC.1.2
  have h := hu
  have hu0 := hu
  unfold f_X10_isClog at h
  have hl : lv_has ls 2 [(0, .ref q0), (1, .int x1)] := hl
  refine lv_iload_n hx hb dX10_isClog_0 rfl (lv_at hl 1 rfl) ?_
  refine lv_iconst (v := 0) hx hb dX10_isClog_1 (by decide) ?_
  refine lv_aload_n hx hb dX10_isClog_2 rfl (lv_at hl 0 rfl) ?_
  refine g_get hC hP fg_X10_17 0 rfl rfl dX10_isClog_3 ?_
  refine lv_iconst (v := 1) hx hb dX10_isClog_6 (by decide) ?_
  obtain ⟨hin, h⟩ := rd_h h
  refine g_iald hC hP 1 0 rfl rfl hin dX10_isClog_7 (fun v1 ev => ?_)
  have h := h v1 ev
  refine lv_iconst (v := 1) hx hb dX10_isClog_8 (by decide) ?_
  refine lv_isub hx hb dX10_isClog_9 ?_
  obtain ⟨r2, hu, h⟩ := bnd_h h
  refine kc_z (kS hC (c_X10_in l dC dI cc x1 0 (v1 - 1) H.size r2 hu) cs_X10_90 kw912 rfl rfl ⟨(Nat.le_of_ble_eq_true rfl), (Nat.le_of_ble_eq_true rfl)⟩ hP [] rfl rfl (As := [.int x1, .int 0, .int (v1 - 1)]) (rest := []) rfl rfl hl.1 (Nat.le_of_ble_eq_true rfl) dX10_isClog_10 ⟨Nat.zero_le _, Nat.zero_le _⟩) hP hA [] rfl rfl (fun hz_r2 H locs hP => ?_)
  have hP : PD (dC, dI) A s.heap [(q0, .inr (10, [.int feetMany, .ref q1, .int log_, .int block, .ref q2, .int stocking, .ref q3, .int acts, .ref q4, .int keeps, .ref q5, .int hears, .ref q6, .ref q7, .int texted, .int at_, .ref q8, .ref q9, .int readFeetMany, .ref q10, .int readLog, .int readBlock, .ref q11, .int readStocking, .ref q12, .int lefts_, .int rights_, .ref q13, .ref q14, .ref q15, .ref q16, .ref q17])), (q3, .inl (cc 0, 52, .inl st))] H locs := hP
  exact ret_z hC hr hz_r2 hlk hP dX10_isClog_13 () (⟨Option.some.inj h, rfl⟩) rfl
set_option maxHeartbeats 8000000 in
set_option maxRecDepth 100000 in
theorem c_X10_write (l : Launch) (dC : Nat → ClassId) (dI : Nat → Nat → Nat) (cc : Nat → ClassId) (q0 q1 q2 q3 q4 q5 q6 q7 q8 q9 q10 q11 q12 q13 q14 q15 q16 q17 : Nat) (feetMany : Int32) (log_ : Int32) (block : Int32) (stocking : Int32) (acts : Int32) (keeps : Int32) (hears : Int32) (texted : Int32) (at_ : Int32) (readFeetMany : Int32) (readLog : Int32) (readBlock : Int32) (readStocking : Int32) (lefts_ : Int32) (rights_ : Int32) (text : (Nat → Int32)) (x1 : Int32) (sz : Nat) (ret : Int32) (o_text : (Nat → Int32)) (o_texted : Int32) (hu : f_X10_write x1 texted text = some (ret, o_text, o_texted)) : Met l yX10_write (mw yX10_write cX10_write 2 (some .int)) ({ frames := 1, cells := 0, slots := 0, locals := 22 } : Room) (va_Pc [.ref q0, .int x1] (mP (dC, dI) (ts cc) sz [(q0, .inr (10, [.int feetMany, .ref q1, .int log_, .int block, .ref q2, .int stocking, .ref q3, .int acts, .ref q4, .int keeps, .ref q5, .int hears, .ref q6, .ref q7, .int texted, .int at_, .ref q8, .ref q9, .int readFeetMany, .ref q10, .int readLog, .int readBlock, .ref q11, .int readStocking, .ref q12, .int lefts_, .int rights_, .ref q13, .ref q14, .ref q15, .ref q16, .ref q17])), (q7, .inl (cc 0, 200, .inl text))])) ((fun A => va_Qi (fun (r : Int32) (w : (Nat → Int32) × Int32) => r = ret ∧ w = (o_text, o_texted)) (fun (w : (Nat → Int32) × Int32) t => va_P (dC, dI) classes [(q0, .inr (10, [.int feetMany, .ref q1, .int log_, .int block, .ref q2, .int stocking, .ref q3, .int acts, .ref q4, .int keeps, .ref q5, .int hears, .ref q6, .ref q7, .int w.2, .int at_, .ref q8, .ref q9, .int readFeetMany, .ref q10, .int readLog, .int readBlock, .ref q11, .int readStocking, .ref q12, .int lefts_, .int rights_, .ref q13, .ref q14, .ref q15, .ref q16, .ref q17])), (q7, .inl (cc 0, 200, .inl w.1))] t.heap) A) (va_A [(q0, .inr (10, [.int feetMany, .ref q1, .int log_, .int block, .ref q2, .int stocking, .ref q3, .int acts, .ref q4, .int keeps, .ref q5, .int hears, .ref q6, .ref q7, .int texted, .int at_, .ref q8, .ref q9, .int readFeetMany, .ref q10, .int readLog, .int readBlock, .ref q11, .int readStocking, .ref q12, .int lefts_, .int rights_, .ref q13, .ref q14, .ref q15, .ref q16, .ref q17])), (q7, .inl (cc 0, 200, .inl text))] sz)) 0 0 (va_A [(q0, .inr (10, [.int feetMany, .ref q1, .int log_, .int block, .ref q2, .int stocking, .ref q3, .int acts, .ref q4, .int keeps, .ref q5, .int hears, .ref q6, .ref q7, .int texted, .int at_, .ref q8, .ref q9, .int readFeetMany, .ref q10, .int readLog, .int readBlock, .ref q11, .int readStocking, .ref q12, .int lefts_, .int rights_, .ref q13, .ref q14, .ref q15, .ref q16, .ref q17])), (q7, .inl (cc 0, 200, .inl text))] sz) := by
  refine met_go (Qc := fun A => va_Qi (fun (r : Int32) (w : (Nat → Int32) × Int32) => r = ret ∧ w = (o_text, o_texted)) (fun (w : (Nat → Int32) × Int32) t => va_P (dC, dI) classes [(q0, .inr (10, [.int feetMany, .ref q1, .int log_, .int block, .ref q2, .int stocking, .ref q3, .int acts, .ref q4, .int keeps, .ref q5, .int hears, .ref q6, .ref q7, .int w.2, .int at_, .ref q8, .ref q9, .int readFeetMany, .ref q10, .int readLog, .int readBlock, .ref q11, .int readStocking, .ref q12, .int lefts_, .int rights_, .ref q13, .ref q14, .ref q15, .ref q16, .ref q17])), (q7, .inl (cc 0, 200, .inl w.1))] t.heap) A) (by decide) (Nat.le_of_ble_eq_true rfl) ?_
  intro p e s m below meth c A ls H locs hC hr hlk hin hA hP hl _
  have hC : CX p m c cX10_write 2 s ([.ref q0, .int x1] : List Value).toArray RX10 (dC, dI) (ts cc) := hC
  have hx := hC.1.1
  have hb := hC.1.2
  have h := hu
  have hu0 := hu
  unfold f_X10_write at h
  have hl : lv_has ls 2 [(0, .ref q0), (1, .int x1)] := hl
  refine lv_iload_n hx hb dX10_write_0 rfl (lv_at hl 1 rfl) ?_
  refine lv_bipush (v := 32) hx hb dX10_write_1 (by decide) ?_
  refine lv_bipush (v := 126) hx hb dX10_write_3 (by decide) ?_
  obtain ⟨r1, hu, h⟩ := bnd_h h
  refine kc_z (kS hC (c_X10_in l dC dI cc x1 32 126 H.size r1 hu) cs_X10_90 kw912 rfl rfl ⟨(Nat.le_of_ble_eq_true rfl), (Nat.le_of_ble_eq_true rfl)⟩ hP [] rfl rfl (As := [.int x1, .int 32, .int 126]) (rest := []) rfl rfl hl.1 (Nat.le_of_ble_eq_true rfl) dX10_write_5 ⟨Nat.zero_le _, Nat.zero_le _⟩) hP hA [] rfl rfl (fun hz_r1 H locs hP => ?_)
  have hP : PD (dC, dI) A s.heap [(q0, .inr (10, [.int feetMany, .ref q1, .int log_, .int block, .ref q2, .int stocking, .ref q3, .int acts, .ref q4, .int keeps, .ref q5, .int hears, .ref q6, .ref q7, .int texted, .int at_, .ref q8, .ref q9, .int readFeetMany, .ref q10, .int readLog, .int readBlock, .ref q11, .int readStocking, .ref q12, .int lefts_, .int rights_, .ref q13, .ref q14, .ref q15, .ref q16, .ref q17])), (q7, .inl (cc 0, 200, .inl text))] H locs := hP
  refine lv_if_ne (tgt := 13) hx hb dX10_write_8 (by decide) (fun c2 => ?_) (fun c2 => ?_)
  · have h := if_f c2 h
    refine lv_aload_n hx hb dX10_write_13 rfl (lv_at hl 0 rfl) ?_
    refine g_get hC hP fg_X10_94 0 rfl rfl dX10_write_14 ?_
    refine lv_sipush (v := 200) hx hb dX10_write_17 (by decide) ?_
    refine lv_icmp_ne (tgt := 26) hx hb dX10_write_20 (by decide) (fun c3 => ?_) (fun c3 => ?_)
    · have h := if_f c3 h
      refine lv_aload_n hx hb dX10_write_26 rfl (lv_at hl 0 rfl) ?_
      refine g_get hC hP fg_X10_29 0 rfl rfl dX10_write_27 ?_
      refine lv_aload_n hx hb dX10_write_30 rfl (lv_at hl 0 rfl) ?_
      refine g_get hC hP fg_X10_94 0 rfl rfl dX10_write_31 ?_
      refine lv_iload_n hx hb dX10_write_34 rfl (lv_at hl 1 rfl) ?_
      obtain ⟨hin, h⟩ := wr_h h
      refine g_iast hC hP 1 0 rfl rfl hin dX10_write_35 (fun a4 ev H locs hP => ?_)
      have hP : PD (dC, dI) A s.heap [(q0, .inr (10, [.int feetMany, .ref q1, .int log_, .int block, .ref q2, .int stocking, .ref q3, .int acts, .ref q4, .int keeps, .ref q5, .int hears, .ref q6, .ref q7, .int texted, .int at_, .ref q8, .ref q9, .int readFeetMany, .ref q10, .int readLog, .int readBlock, .ref q11, .int readStocking, .ref q12, .int lefts_, .int rights_, .ref q13, .ref q14, .ref q15, .ref q16, .ref q17])), (q7, .inl (cc 0, 200, .inl a4))] H locs := hP
      have h := h a4 ev
      refine lv_aload_n hx hb dX10_write_36 rfl (lv_at hl 0 rfl) ?_
      refine lv_dup hx hb dX10_write_37 rfl ?_
      refine g_get hC hP fg_X10_94 0 rfl rfl dX10_write_38 ?_
      refine lv_iconst (v := 1) hx hb dX10_write_41 (by decide) ?_
      refine lv_iadd hx hb dX10_write_42 ?_
      refine g_put hC hP fg_X10_94 0 rfl rfl rfl (Nat.le_of_ble_eq_true rfl) dX10_write_43 (fun H locs hP => ?_)
      have hP : PD (dC, dI) A s.heap [(q0, .inr (10, [.int feetMany, .ref q1, .int log_, .int block, .ref q2, .int stocking, .ref q3, .int acts, .ref q4, .int keeps, .ref q5, .int hears, .ref q6, .ref q7, .int (texted + 1), .int at_, .ref q8, .ref q9, .int readFeetMany, .ref q10, .int readLog, .int readBlock, .ref q11, .int readStocking, .ref q12, .int lefts_, .int rights_, .ref q13, .ref q14, .ref q15, .ref q16, .ref q17])), (q7, .inl (cc 0, 200, .inl a4))] H locs := hP
      refine lv_aload_n hx hb dX10_write_46 rfl (lv_at hl 0 rfl) ?_
      refine g_get hC hP fg_X10_94 0 rfl rfl dX10_write_47 ?_
      exact ret_i hC hr hlk hP dX10_write_50 (a4, (texted + 1)) (Prod.mk.inj (Option.some.inj h)) rfl
    · have h := if_t c3 h
      refine lv_bipush (v := -3) hx hb dX10_write_23 (by decide) ?_
      exact ret_i hC hr hlk hP dX10_write_25 (text, texted) (Prod.mk.inj (Option.some.inj h)) rfl
  · have h := if_t c2 h
    refine lv_iconst (v := -1) hx hb dX10_write_11 (by decide) ?_
    exact ret_i hC hr hlk hP dX10_write_12 (text, texted) (Prod.mk.inj (Option.some.inj h)) rfl
set_option maxHeartbeats 8000000 in
set_option maxRecDepth 100000 in
theorem c_X10_wipe (l : Launch) (dC : Nat → ClassId) (dI : Nat → Nat → Nat) (cc : Nat → ClassId) (q0 q1 q2 q3 q4 q5 q6 q7 q8 q9 q10 q11 q12 q13 q14 q15 q16 q17 : Nat) (feetMany : Int32) (log_ : Int32) (block : Int32) (stocking : Int32) (acts : Int32) (keeps : Int32) (hears : Int32) (texted : Int32) (at_ : Int32) (readFeetMany : Int32) (readLog : Int32) (readBlock : Int32) (readStocking : Int32) (lefts_ : Int32) (rights_ : Int32) (sz : Nat) (ret : Int32) (o_texted : Int32) (hu : f_X10_wipe texted = some (ret, o_texted)) : Met l yX10_wipe (mw yX10_wipe cX10_wipe 2 (some .int)) ({ frames := 0, cells := 0, slots := 0, locals := 0 } : Room) (va_Pc [.ref q0] (mP (dC, dI) (ts cc) sz [(q0, .inr (10, [.int feetMany, .ref q1, .int log_, .int block, .ref q2, .int stocking, .ref q3, .int acts, .ref q4, .int keeps, .ref q5, .int hears, .ref q6, .ref q7, .int texted, .int at_, .ref q8, .ref q9, .int readFeetMany, .ref q10, .int readLog, .int readBlock, .ref q11, .int readStocking, .ref q12, .int lefts_, .int rights_, .ref q13, .ref q14, .ref q15, .ref q16, .ref q17]))])) ((fun A => va_Qi (fun (r : Int32) (w : Int32) => r = ret ∧ w = o_texted) (fun (w : Int32) t => va_P (dC, dI) classes [(q0, .inr (10, [.int feetMany, .ref q1, .int log_, .int block, .ref q2, .int stocking, .ref q3, .int acts, .ref q4, .int keeps, .ref q5, .int hears, .ref q6, .ref q7, .int w, .int at_, .ref q8, .ref q9, .int readFeetMany, .ref q10, .int readLog, .int readBlock, .ref q11, .int readStocking, .ref q12, .int lefts_, .int rights_, .ref q13, .ref q14, .ref q15, .ref q16, .ref q17]))] t.heap) A) (va_A [(q0, .inr (10, [.int feetMany, .ref q1, .int log_, .int block, .ref q2, .int stocking, .ref q3, .int acts, .ref q4, .int keeps, .ref q5, .int hears, .ref q6, .ref q7, .int texted, .int at_, .ref q8, .ref q9, .int readFeetMany, .ref q10, .int readLog, .int readBlock, .ref q11, .int readStocking, .ref q12, .int lefts_, .int rights_, .ref q13, .ref q14, .ref q15, .ref q16, .ref q17]))] sz)) 0 0 (va_A [(q0, .inr (10, [.int feetMany, .ref q1, .int log_, .int block, .ref q2, .int stocking, .ref q3, .int acts, .ref q4, .int keeps, .ref q5, .int hears, .ref q6, .ref q7, .int texted, .int at_, .ref q8, .ref q9, .int readFeetMany, .ref q10, .int readLog, .int readBlock, .ref q11, .int readStocking, .ref q12, .int lefts_, .int rights_, .ref q13, .ref q14, .ref q15, .ref q16, .ref q17]))] sz) := by
  refine met_go (Qc := fun A => va_Qi (fun (r : Int32) (w : Int32) => r = ret ∧ w = o_texted) (fun (w : Int32) t => va_P (dC, dI) classes [(q0, .inr (10, [.int feetMany, .ref q1, .int log_, .int block, .ref q2, .int stocking, .ref q3, .int acts, .ref q4, .int keeps, .ref q5, .int hears, .ref q6, .ref q7, .int w, .int at_, .ref q8, .ref q9, .int readFeetMany, .ref q10, .int readLog, .int readBlock, .ref q11, .int readStocking, .ref q12, .int lefts_, .int rights_, .ref q13, .ref q14, .ref q15, .ref q16, .ref q17]))] t.heap) A) (by decide) (Nat.le_of_ble_eq_true rfl) ?_
  intro p e s m below meth c A ls H locs hC hr hlk hin hA hP hl _
  have hC : CX p m c cX10_wipe 2 s ([.ref q0] : List Value).toArray RX10 (dC, dI) (ts cc) := hC
  have hx := hC.1.1
  have hb := hC.1.2
  have h := hu
  have hu0 := hu
  unfold f_X10_wipe at h
  have hl : lv_has ls 2 [(0, .ref q0)] := hl
  refine lv_aload_n hx hb dX10_wipe_0 rfl (lv_at hl 0 rfl) ?_
  refine g_get hC hP fg_X10_94 0 rfl rfl dX10_wipe_1 ?_
  refine lv_istore_n (lv' := [(1, .int texted), (0, .ref q0)]) hx hb dX10_wipe_4 rfl hl (by decide) rfl (fun ls hl => ?_)
  refine lv_aload_n hx hb dX10_wipe_5 rfl (lv_at hl 1 rfl) ?_
  refine lv_iconst (v := 0) hx hb dX10_wipe_6 (by decide) ?_
  refine g_put hC hP fg_X10_94 0 rfl rfl rfl (Nat.le_of_ble_eq_true rfl) dX10_wipe_7 (fun H locs hP => ?_)
  have hP : PD (dC, dI) A s.heap [(q0, .inr (10, [.int feetMany, .ref q1, .int log_, .int block, .ref q2, .int stocking, .ref q3, .int acts, .ref q4, .int keeps, .ref q5, .int hears, .ref q6, .ref q7, .int 0, .int at_, .ref q8, .ref q9, .int readFeetMany, .ref q10, .int readLog, .int readBlock, .ref q11, .int readStocking, .ref q12, .int lefts_, .int rights_, .ref q13, .ref q14, .ref q15, .ref q16, .ref q17]))] H locs := hP
  refine lv_iload_n hx hb dX10_wipe_10 rfl (lv_at hl 0 rfl) ?_
  exact ret_i hC hr hlk hP dX10_wipe_11 0 (Prod.mk.inj (Option.some.inj h)) rfl
set_option maxHeartbeats 8000000 in
set_option maxRecDepth 100000 in
theorem c_X10_letterAt (l : Launch) (dC : Nat → ClassId) (dI : Nat → Nat → Nat) (cc : Nat → ClassId) (q0 q1 q2 q3 q4 q5 q6 q7 q8 q9 q10 q11 q12 q13 q14 q15 q16 q17 : Nat) (feetMany : Int32) (log_ : Int32) (block : Int32) (stocking : Int32) (acts : Int32) (keeps : Int32) (hears : Int32) (texted : Int32) (at_ : Int32) (readFeetMany : Int32) (readLog : Int32) (readBlock : Int32) (readStocking : Int32) (lefts_ : Int32) (rights_ : Int32) (text : (Nat → Int32)) (x1 : Int32) (sz : Nat) (ret : Int32) (hu : f_X10_letterAt x1 texted text = some ret) : Met l yX10_letterAt (mw yX10_letterAt cX10_letterAt 2 (some .int)) ({ frames := 0, cells := 0, slots := 0, locals := 0 } : Room) (va_Pc [.ref q0, .int x1] (mP (dC, dI) (ts cc) sz [(q0, .inr (10, [.int feetMany, .ref q1, .int log_, .int block, .ref q2, .int stocking, .ref q3, .int acts, .ref q4, .int keeps, .ref q5, .int hears, .ref q6, .ref q7, .int texted, .int at_, .ref q8, .ref q9, .int readFeetMany, .ref q10, .int readLog, .int readBlock, .ref q11, .int readStocking, .ref q12, .int lefts_, .int rights_, .ref q13, .ref q14, .ref q15, .ref q16, .ref q17])), (q7, .inl (cc 0, 200, .inl text))])) ((fun A => va_Qi (fun (r : Int32) (w : Unit) => r = ret ∧ w = ()) (fun (w : Unit) t => va_P (dC, dI) classes [(q0, .inr (10, [.int feetMany, .ref q1, .int log_, .int block, .ref q2, .int stocking, .ref q3, .int acts, .ref q4, .int keeps, .ref q5, .int hears, .ref q6, .ref q7, .int texted, .int at_, .ref q8, .ref q9, .int readFeetMany, .ref q10, .int readLog, .int readBlock, .ref q11, .int readStocking, .ref q12, .int lefts_, .int rights_, .ref q13, .ref q14, .ref q15, .ref q16, .ref q17])), (q7, .inl (cc 0, 200, .inl text))] t.heap) A) (va_A [(q0, .inr (10, [.int feetMany, .ref q1, .int log_, .int block, .ref q2, .int stocking, .ref q3, .int acts, .ref q4, .int keeps, .ref q5, .int hears, .ref q6, .ref q7, .int texted, .int at_, .ref q8, .ref q9, .int readFeetMany, .ref q10, .int readLog, .int readBlock, .ref q11, .int readStocking, .ref q12, .int lefts_, .int rights_, .ref q13, .ref q14, .ref q15, .ref q16, .ref q17])), (q7, .inl (cc 0, 200, .inl text))] sz)) 0 0 (va_A [(q0, .inr (10, [.int feetMany, .ref q1, .int log_, .int block, .ref q2, .int stocking, .ref q3, .int acts, .ref q4, .int keeps, .ref q5, .int hears, .ref q6, .ref q7, .int texted, .int at_, .ref q8, .ref q9, .int readFeetMany, .ref q10, .int readLog, .int readBlock, .ref q11, .int readStocking, .ref q12, .int lefts_, .int rights_, .ref q13, .ref q14, .ref q15, .ref q16, .ref q17])), (q7, .inl (cc 0, 200, .inl text))] sz) := by
  refine met_go (Qc := fun A => va_Qi (fun (r : Int32) (w : Unit) => r = ret ∧ w = ()) (fun (w : Unit) t => va_P (dC, dI) classes [(q0, .inr (10, [.int feetMany, .ref q1, .int log_, .int block, .ref q2, .int stocking, .ref q3, .int acts, .ref q4, .int keeps, .ref q5, .int hears, .ref q6, .ref q7, .int texted, .int at_, .ref q8, .ref q9, .int readFeetMany, .ref q10, .int readLog, .int readBlock, .ref q11, .int readStocking, .ref q12, .int lefts_, .int rights_, .ref q13, .ref q14, .ref q15, .ref q16, .ref q17])), (q7, .inl (cc 0, 200, .inl text))] t.heap) A) (by decide) (Nat.le_of_ble_eq_true rfl) ?_
  intro p e s m below meth c A ls H locs hC hr hlk hin hA hP hl _
  have hC : CX p m c cX10_letterAt 2 s ([.ref q0, .int x1] : List Value).toArray RX10 (dC, dI) (ts cc) := hC
  have hx := hC.1.1
  have hb := hC.1.2
  have h := hu
  have hu0 := hu
  unfold f_X10_letterAt at h
  have hl : lv_has ls 2 [(0, .ref q0), (1, .int x1)] := hl
  refine lv_iload_n hx hb dX10_letterAt_0 rfl (lv_at hl 1 rfl) ?_
  refine lv_aload_n hx hb dX10_letterAt_1 rfl (lv_at hl 0 rfl) ?_
  refine g_get hC hP fg_X10_94 0 rfl rfl dX10_letterAt_2 ?_
  refine lv_icmp_ge (tgt := 17) hx hb dX10_letterAt_5 (by decide) (fun c1 => ?_) (fun c1 => ?_)
  · have h := if_t c1 h
    refine lv_iconst (v := -1) hx hb dX10_letterAt_17 (by decide) ?_
    exact ret_i hC hr hlk hP dX10_letterAt_18 () (⟨Option.some.inj h, rfl⟩) rfl
  · have h := if_f c1 h
    refine lv_aload_n hx hb dX10_letterAt_8 rfl (lv_at hl 0 rfl) ?_
    refine g_get hC hP fg_X10_29 0 rfl rfl dX10_letterAt_9 ?_
    refine lv_iload_n hx hb dX10_letterAt_12 rfl (lv_at hl 1 rfl) ?_
    obtain ⟨hin, h⟩ := rd_h h
    refine g_iald hC hP 1 0 rfl rfl hin dX10_letterAt_13 (fun v2 ev => ?_)
    have h := h v2 ev
    refine lv_goto (tgt := 18) hx hb dX10_letterAt_14 (by decide) ?_
    exact ret_i hC hr hlk hP dX10_letterAt_18 () (⟨Option.some.inj h, rfl⟩) rfl
set_option maxHeartbeats 8000000 in
set_option maxRecDepth 100000 in
theorem c_X10_isFigure (l : Launch) (dC : Nat → ClassId) (dI : Nat → Nat → Nat) (cc : Nat → ClassId) (x1 : Int32) (sz : Nat) (ret : Int32) (hu : f_X10_isFigure x1 = some ret) : Met l yX10_isFigure (mw yX10_isFigure cX10_isFigure 1 (some .boolean)) ({ frames := 1, cells := 0, slots := 0, locals := 22 } : Room) (va_Pc [.int x1] (mP (dC, dI) (ts cc) sz [])) ((fun A => va_Qi (fun (r : Int32) (w : Unit) => narrow .boolean (.int r) = .int r ∧ (r = ret ∧ w = ())) (fun (w : Unit) t => va_P (dC, dI) classes [] t.heap) A) (va_A [] sz)) 0 0 (va_A [] sz) := by
  refine met_go (Qc := fun A => va_Qi (fun (r : Int32) (w : Unit) => narrow .boolean (.int r) = .int r ∧ (r = ret ∧ w = ())) (fun (w : Unit) t => va_P (dC, dI) classes [] t.heap) A) (by decide) (Nat.le_of_ble_eq_true rfl) ?_
  intro p e s m below meth c A ls H locs hC hr hlk hin hA hP hl _
  have hC : CX p m c cX10_isFigure 1 s ([.int x1] : List Value).toArray RX10 (dC, dI) (ts cc) := hC
  have hx := hC.1.1
  have hb := hC.1.2
  have h := hu
  have hu0 := hu
  unfold f_X10_isFigure at h
  have hl : lv_has ls 1 [(0, .int x1)] := hl
  refine lv_iload_n hx hb dX10_isFigure_0 rfl (lv_at hl 0 rfl) ?_
  refine lv_bipush (v := 48) hx hb dX10_isFigure_1 (by decide) ?_
  refine lv_bipush (v := 57) hx hb dX10_isFigure_3 (by decide) ?_
  obtain ⟨r1, hu, h⟩ := bnd_h h
  refine kc_z (kS hC (c_X10_in l dC dI cc x1 48 57 H.size r1 hu) cs_X10_90 kw912 rfl rfl ⟨(Nat.le_of_ble_eq_true rfl), (Nat.le_of_ble_eq_true rfl)⟩ hP [] rfl rfl (As := [.int x1, .int 48, .int 57]) (rest := []) rfl rfl hl.1 (Nat.le_of_ble_eq_true rfl) dX10_isFigure_5 ⟨Nat.zero_le _, Nat.zero_le _⟩) hP hA [] rfl rfl (fun hz_r1 H locs hP => ?_)
  have hP : PD (dC, dI) A s.heap [] H locs := hP
  exact ret_z hC hr hz_r1 hlk hP dX10_isFigure_8 () (⟨Option.some.inj h, rfl⟩) rfl
set_option maxHeartbeats 8000000 in
set_option maxRecDepth 100000 in
theorem c_X10_readNumbers (l : Launch) (dC : Nat → ClassId) (dI : Nat → Nat → Nat) (cc : Nat → ClassId) (q0 q1 q2 q3 q4 q5 q6 q7 q8 q9 q10 q11 q12 q13 q14 q15 q16 q17 : Nat) (feetMany : Int32) (log_ : Int32) (block : Int32) (stocking : Int32) (acts : Int32) (keeps : Int32) (hears : Int32) (texted : Int32) (at_ : Int32) (readFeetMany : Int32) (readLog : Int32) (readBlock : Int32) (readStocking : Int32) (lefts_ : Int32) (rights_ : Int32) (text : (Nat → Int32)) (told : (Nat → Int32)) (x1 : Int32) (sz : Nat) (ret : Int32) (o_at_ : Int32) (o_told : (Nat → Int32)) (hu : f_X10_readNumbers x1 texted at_ text told = some (ret, o_at_, o_told)) : Met l yX10_readNumbers (mw yX10_readNumbers cX10_readNumbers 3 (some .boolean)) ({ frames := 2, cells := 0, slots := 0, locals := 42 } : Room) (va_Pc [.ref q0, .int x1] (mP (dC, dI) (ts cc) sz [(q0, .inr (10, [.int feetMany, .ref q1, .int log_, .int block, .ref q2, .int stocking, .ref q3, .int acts, .ref q4, .int keeps, .ref q5, .int hears, .ref q6, .ref q7, .int texted, .int at_, .ref q8, .ref q9, .int readFeetMany, .ref q10, .int readLog, .int readBlock, .ref q11, .int readStocking, .ref q12, .int lefts_, .int rights_, .ref q13, .ref q14, .ref q15, .ref q16, .ref q17])), (q7, .inl (cc 0, 200, .inl text)), (q8, .inl (cc 0, 4, .inl told))])) ((fun A => va_Qi (fun (r : Int32) (w : Int32 × (Nat → Int32)) => narrow .boolean (.int r) = .int r ∧ (r = ret ∧ w = (o_at_, o_told))) (fun (w : Int32 × (Nat → Int32)) t => va_P (dC, dI) classes [(q0, .inr (10, [.int feetMany, .ref q1, .int log_, .int block, .ref q2, .int stocking, .ref q3, .int acts, .ref q4, .int keeps, .ref q5, .int hears, .ref q6, .ref q7, .int texted, .int w.1, .ref q8, .ref q9, .int readFeetMany, .ref q10, .int readLog, .int readBlock, .ref q11, .int readStocking, .ref q12, .int lefts_, .int rights_, .ref q13, .ref q14, .ref q15, .ref q16, .ref q17])), (q7, .inl (cc 0, 200, .inl text)), (q8, .inl (cc 0, 4, .inl w.2))] t.heap) A) (va_A [(q0, .inr (10, [.int feetMany, .ref q1, .int log_, .int block, .ref q2, .int stocking, .ref q3, .int acts, .ref q4, .int keeps, .ref q5, .int hears, .ref q6, .ref q7, .int texted, .int at_, .ref q8, .ref q9, .int readFeetMany, .ref q10, .int readLog, .int readBlock, .ref q11, .int readStocking, .ref q12, .int lefts_, .int rights_, .ref q13, .ref q14, .ref q15, .ref q16, .ref q17])), (q7, .inl (cc 0, 200, .inl text)), (q8, .inl (cc 0, 4, .inl told))] sz)) 0 0 (va_A [(q0, .inr (10, [.int feetMany, .ref q1, .int log_, .int block, .ref q2, .int stocking, .ref q3, .int acts, .ref q4, .int keeps, .ref q5, .int hears, .ref q6, .ref q7, .int texted, .int at_, .ref q8, .ref q9, .int readFeetMany, .ref q10, .int readLog, .int readBlock, .ref q11, .int readStocking, .ref q12, .int lefts_, .int rights_, .ref q13, .ref q14, .ref q15, .ref q16, .ref q17])), (q7, .inl (cc 0, 200, .inl text)), (q8, .inl (cc 0, 4, .inl told))] sz) := by
  refine met_go (Qc := fun A => va_Qi (fun (r : Int32) (w : Int32 × (Nat → Int32)) => narrow .boolean (.int r) = .int r ∧ (r = ret ∧ w = (o_at_, o_told))) (fun (w : Int32 × (Nat → Int32)) t => va_P (dC, dI) classes [(q0, .inr (10, [.int feetMany, .ref q1, .int log_, .int block, .ref q2, .int stocking, .ref q3, .int acts, .ref q4, .int keeps, .ref q5, .int hears, .ref q6, .ref q7, .int texted, .int w.1, .ref q8, .ref q9, .int readFeetMany, .ref q10, .int readLog, .int readBlock, .ref q11, .int readStocking, .ref q12, .int lefts_, .int rights_, .ref q13, .ref q14, .ref q15, .ref q16, .ref q17])), (q7, .inl (cc 0, 200, .inl text)), (q8, .inl (cc 0, 4, .inl w.2))] t.heap) A) (by decide) (Nat.le_of_ble_eq_true rfl) ?_
  intro p e s m below meth c A ls H locs hC hr hlk hin hA hP hl _
  have hC : CX p m c cX10_readNumbers 3 s ([.ref q0, .int x1] : List Value).toArray RX10 (dC, dI) (ts cc) := hC
  have hx := hC.1.1
  have hb := hC.1.2
  have h := hu
  have hu0 := hu
  unfold f_X10_readNumbers at h
  have hl : lv_has ls 3 [(0, .ref q0), (1, .int x1)] := hl
  refine W_abs (fun Z eZ => ?_)
  refine lv_iconst (v := 0) hx hb dX10_readNumbers_0 (by decide) ?_
  refine lv_istore_n (lv' := [(2, .int 0), (0, .ref q0), (1, .int x1)]) hx hb dX10_readNumbers_1 rfl hl (by decide) rfl (fun ls hl => ?_)
  obtain ⟨z, hlp, hk, hj⟩ := bndE_h h
  have L1 : ∀ (n : Nat) (j1 : Int32) (w2 : Int32) (w3 : (Nat → Int32)) (z : ((Int32 × Int32 × (Nat → Int32)) ⊕ (Int32 × Int32 × (Nat → Int32)))), lp (u3 (b_X10_readNumbers_1 text texted x1)) n (j1, w2, w3) = some z → ∀ (H : Heap) (locs : List Loc) (ls : Array Slot), PD (dC, dI) A s.heap [(q0, .inr (10, [.int feetMany, .ref q1, .int log_, .int block, .ref q2, .int stocking, .ref q3, .int acts, .ref q4, .int keeps, .ref q5, .int hears, .ref q6, .ref q7, .int texted, .int w2, .ref q8, .ref q9, .int readFeetMany, .ref q10, .int readLog, .int readBlock, .ref q11, .int readStocking, .ref q12, .int lefts_, .int rights_, .ref q13, .ref q14, .ref q15, .ref q16, .ref q17])), (q7, .inl (cc 0, 200, .inl text)), (q8, .inl (cc 0, 4, .inl w3))] H locs → lv_has ls 3 [(0, .ref q0), (1, .int x1), (2, .int j1)] → (∀ (j1x : Int32) (w2x : Int32) (w3x : (Nat → Int32)), z = .inl (j1x, w2x, w3x) → ∀ (H : Heap) (locs : List Loc) (ls : Array Slot), PD (dC, dI) A s.heap [(q0, .inr (10, [.int feetMany, .ref q1, .int log_, .int block, .ref q2, .int stocking, .ref q3, .int acts, .ref q4, .int keeps, .ref q5, .int hears, .ref q6, .ref q7, .int texted, .int w2x, .ref q8, .ref q9, .int readFeetMany, .ref q10, .int readLog, .int readBlock, .ref q11, .int readStocking, .ref q12, .int lefts_, .int rights_, .ref q13, .ref q14, .ref q15, .ref q16, .ref q17])), (q7, .inl (cc 0, 200, .inl text)), (q8, .inl (cc 0, 4, .inl w3x))] H locs → lv_has ls 3 [(0, .ref q0), (1, .int x1), (2, .int j1x)] → W p l e ({ frames := 2, cells := 0, slots := 0, locals := 42 } : Room) s m ([.ref q0, .int x1] : List Value).toArray below meth c H locs 0 0 Z (F0 m 144 ls [])) → (∀ q, z = .inr q → q = (ret, o_at_, o_told)) → W p l e ({ frames := 2, cells := 0, slots := 0, locals := 42 } : Room) s m ([.ref q0, .int x1] : List Value).toArray below meth c H locs 0 0 Z (F0 m 2 ls []) := by
    intro n
    induction n with
    | zero => intro j1 w2 w3 z h; exact (lp_0 h).elim
    | succ n ih =>
      intro j1 w2 w3 z h H locs ls hP hl KK KR
      obtain ⟨y, h, hz⟩ := lp_h h
      refine lv_iload_n hx hb dX10_readNumbers_2 rfl (lv_at hl 2 rfl) ?_
      refine lv_iload_n hx hb dX10_readNumbers_3 rfl (lv_at hl 1 rfl) ?_
      refine lv_icmp_ge (tgt := 144) hx hb dX10_readNumbers_4 (by decide) (fun c4 => ?_) (fun c4 => ?_)
      · have h := if_t c4 h
        exact KK j1 w2 w3 (lp_e h hz).symm H locs ls hP (lv_sub hl [0, 1, 2] rfl)
      · have h := if_f c4 h
        refine lv_aload_n hx hb dX10_readNumbers_7 rfl (lv_at hl 0 rfl) ?_
        refine lv_aload_n hx hb dX10_readNumbers_8 rfl (lv_at hl 0 rfl) ?_
        refine g_get hC hP fg_X10_97 0 rfl rfl dX10_readNumbers_9 ?_
        obtain ⟨r5, hu, h⟩ := bnd_h h
        refine kc_i (kV hC (c_X10_letterAt l dC dI cc q0 q1 q2 q3 q4 q5 q6 q7 q8 q9 q10 q11 q12 q13 q14 q15 q16 q17 feetMany log_ block stocking acts keeps hears texted w2 readFeetMany readLog readBlock readStocking lefts_ rights_ text w2 H.size r5 hu) cv_X10_100 kw928 rfl rfl ⟨(Nat.le_of_ble_eq_true rfl), (Nat.le_of_ble_eq_true rfl)⟩ hP [0, 1] rfl rfl rfl (q0 := 0) rfl (As := [.int w2]) (rest := []) rfl rfl hl.1 (Nat.le_of_ble_eq_true rfl) dX10_readNumbers_12 ⟨Nat.zero_le _, Nat.zero_le _⟩) hP hA [0, 1] rfl rfl (fun H locs hP => ?_)
        have hP : PD (dC, dI) A s.heap [(q0, .inr (10, [.int feetMany, .ref q1, .int log_, .int block, .ref q2, .int stocking, .ref q3, .int acts, .ref q4, .int keeps, .ref q5, .int hears, .ref q6, .ref q7, .int texted, .int w2, .ref q8, .ref q9, .int readFeetMany, .ref q10, .int readLog, .int readBlock, .ref q11, .int readStocking, .ref q12, .int lefts_, .int rights_, .ref q13, .ref q14, .ref q15, .ref q16, .ref q17])), (q7, .inl (cc 0, 200, .inl text)), (q8, .inl (cc 0, 4, .inl w3))] H locs := hP
        obtain ⟨r6, hu, h⟩ := bnd_h h
        refine kc_z (kS hC (c_X10_isFigure l dC dI cc r5 H.size r6 hu) cs_X10_104 kw939 rfl rfl ⟨(Nat.le_of_ble_eq_true rfl), (Nat.le_of_ble_eq_true rfl)⟩ hP [] rfl rfl (As := [.int r5]) (rest := []) rfl rfl hl.1 (Nat.le_of_ble_eq_true rfl) dX10_readNumbers_15 ⟨Nat.zero_le _, Nat.zero_le _⟩) hP hA [] rfl rfl (fun hz_r6 H locs hP => ?_)
        have hP : PD (dC, dI) A s.heap [(q0, .inr (10, [.int feetMany, .ref q1, .int log_, .int block, .ref q2, .int stocking, .ref q3, .int acts, .ref q4, .int keeps, .ref q5, .int hears, .ref q6, .ref q7, .int texted, .int w2, .ref q8, .ref q9, .int readFeetMany, .ref q10, .int readLog, .int readBlock, .ref q11, .int readStocking, .ref q12, .int lefts_, .int rights_, .ref q13, .ref q14, .ref q15, .ref q16, .ref q17])), (q7, .inl (cc 0, 200, .inl text)), (q8, .inl (cc 0, 4, .inl w3))] H locs := hP
        refine lv_if_ne (tgt := 23) hx hb dX10_readNumbers_18 (by decide) (fun c7 => ?_) (fun c7 => ?_)
        · have h := if_f c7 h
          refine lv_aload_n hx hb dX10_readNumbers_23 rfl (lv_at hl 0 rfl) ?_
          refine g_get hC hP fg_X10_32 0 rfl rfl dX10_readNumbers_24 ?_
          refine lv_iload_n hx hb dX10_readNumbers_27 rfl (lv_at hl 2 rfl) ?_
          refine lv_aload_n hx hb dX10_readNumbers_28 rfl (lv_at hl 0 rfl) ?_
          refine lv_aload_n hx hb dX10_readNumbers_29 rfl (lv_at hl 0 rfl) ?_
          refine g_get hC hP fg_X10_97 0 rfl rfl dX10_readNumbers_30 ?_
          obtain ⟨r8, hu, h⟩ := bnd_h h
          refine kc_i (kV hC (c_X10_letterAt l dC dI cc q0 q1 q2 q3 q4 q5 q6 q7 q8 q9 q10 q11 q12 q13 q14 q15 q16 q17 feetMany log_ block stocking acts keeps hears texted w2 readFeetMany readLog readBlock readStocking lefts_ rights_ text w2 H.size r8 hu) cv_X10_100 kw928 rfl rfl ⟨(Nat.le_of_ble_eq_true rfl), (Nat.le_of_ble_eq_true rfl)⟩ hP [0, 1] rfl rfl rfl (q0 := 0) rfl (As := [.int w2]) (rest := [.int j1, .ref q8]) rfl rfl hl.1 (Nat.le_of_ble_eq_true rfl) dX10_readNumbers_33 ⟨Nat.zero_le _, Nat.zero_le _⟩) hP hA [0, 1] rfl rfl (fun H locs hP => ?_)
          have hP : PD (dC, dI) A s.heap [(q0, .inr (10, [.int feetMany, .ref q1, .int log_, .int block, .ref q2, .int stocking, .ref q3, .int acts, .ref q4, .int keeps, .ref q5, .int hears, .ref q6, .ref q7, .int texted, .int w2, .ref q8, .ref q9, .int readFeetMany, .ref q10, .int readLog, .int readBlock, .ref q11, .int readStocking, .ref q12, .int lefts_, .int rights_, .ref q13, .ref q14, .ref q15, .ref q16, .ref q17])), (q7, .inl (cc 0, 200, .inl text)), (q8, .inl (cc 0, 4, .inl w3))] H locs := hP
          refine lv_bipush (v := 48) hx hb dX10_readNumbers_36 (by decide) ?_
          refine lv_isub hx hb dX10_readNumbers_38 ?_
          obtain ⟨hin, h⟩ := wr_h h
          refine g_iast hC hP 2 0 rfl rfl hin dX10_readNumbers_39 (fun a9 ev H locs hP => ?_)
          have hP : PD (dC, dI) A s.heap [(q0, .inr (10, [.int feetMany, .ref q1, .int log_, .int block, .ref q2, .int stocking, .ref q3, .int acts, .ref q4, .int keeps, .ref q5, .int hears, .ref q6, .ref q7, .int texted, .int w2, .ref q8, .ref q9, .int readFeetMany, .ref q10, .int readLog, .int readBlock, .ref q11, .int readStocking, .ref q12, .int lefts_, .int rights_, .ref q13, .ref q14, .ref q15, .ref q16, .ref q17])), (q7, .inl (cc 0, 200, .inl text)), (q8, .inl (cc 0, 4, .inl a9))] H locs := hP
          have h := h a9 ev
          refine lv_aload_n hx hb dX10_readNumbers_40 rfl (lv_at hl 0 rfl) ?_
          refine lv_dup hx hb dX10_readNumbers_41 rfl ?_
          refine g_get hC hP fg_X10_97 0 rfl rfl dX10_readNumbers_42 ?_
          refine lv_iconst (v := 1) hx hb dX10_readNumbers_45 (by decide) ?_
          refine lv_iadd hx hb dX10_readNumbers_46 ?_
          refine g_put hC hP fg_X10_97 0 rfl rfl rfl (Nat.le_of_ble_eq_true rfl) dX10_readNumbers_47 (fun H locs hP => ?_)
          have hP : PD (dC, dI) A s.heap [(q0, .inr (10, [.int feetMany, .ref q1, .int log_, .int block, .ref q2, .int stocking, .ref q3, .int acts, .ref q4, .int keeps, .ref q5, .int hears, .ref q6, .ref q7, .int texted, .int (w2 + 1), .ref q8, .ref q9, .int readFeetMany, .ref q10, .int readLog, .int readBlock, .ref q11, .int readStocking, .ref q12, .int lefts_, .int rights_, .ref q13, .ref q14, .ref q15, .ref q16, .ref q17])), (q7, .inl (cc 0, 200, .inl text)), (q8, .inl (cc 0, 4, .inl a9))] H locs := hP
          refine lv_aload_n hx hb dX10_readNumbers_50 rfl (lv_at hl 0 rfl) ?_
          refine lv_aload_n hx hb dX10_readNumbers_51 rfl (lv_at hl 0 rfl) ?_
          refine g_get hC hP fg_X10_97 0 rfl rfl dX10_readNumbers_52 ?_
          obtain ⟨r10, hu, h⟩ := bnd_h h
          refine kc_i (kV hC (c_X10_letterAt l dC dI cc q0 q1 q2 q3 q4 q5 q6 q7 q8 q9 q10 q11 q12 q13 q14 q15 q16 q17 feetMany log_ block stocking acts keeps hears texted (w2 + 1) readFeetMany readLog readBlock readStocking lefts_ rights_ text (w2 + 1) H.size r10 hu) cv_X10_100 kw928 rfl rfl ⟨(Nat.le_of_ble_eq_true rfl), (Nat.le_of_ble_eq_true rfl)⟩ hP [0, 1] rfl rfl rfl (q0 := 0) rfl (As := [.int (w2 + 1)]) (rest := []) rfl rfl hl.1 (Nat.le_of_ble_eq_true rfl) dX10_readNumbers_55 ⟨Nat.zero_le _, Nat.zero_le _⟩) hP hA [0, 1] rfl rfl (fun H locs hP => ?_)
          have hP : PD (dC, dI) A s.heap [(q0, .inr (10, [.int feetMany, .ref q1, .int log_, .int block, .ref q2, .int stocking, .ref q3, .int acts, .ref q4, .int keeps, .ref q5, .int hears, .ref q6, .ref q7, .int texted, .int (w2 + 1), .ref q8, .ref q9, .int readFeetMany, .ref q10, .int readLog, .int readBlock, .ref q11, .int readStocking, .ref q12, .int lefts_, .int rights_, .ref q13, .ref q14, .ref q15, .ref q16, .ref q17])), (q7, .inl (cc 0, 200, .inl text)), (q8, .inl (cc 0, 4, .inl a9))] H locs := hP
          obtain ⟨r11, hu, h⟩ := bnd_h h
          refine kc_z (kS hC (c_X10_isFigure l dC dI cc r10 H.size r11 hu) cs_X10_104 kw939 rfl rfl ⟨(Nat.le_of_ble_eq_true rfl), (Nat.le_of_ble_eq_true rfl)⟩ hP [] rfl rfl (As := [.int r10]) (rest := []) rfl rfl hl.1 (Nat.le_of_ble_eq_true rfl) dX10_readNumbers_58 ⟨Nat.zero_le _, Nat.zero_le _⟩) hP hA [] rfl rfl (fun hz_r11 H locs hP => ?_)
          have hP : PD (dC, dI) A s.heap [(q0, .inr (10, [.int feetMany, .ref q1, .int log_, .int block, .ref q2, .int stocking, .ref q3, .int acts, .ref q4, .int keeps, .ref q5, .int hears, .ref q6, .ref q7, .int texted, .int (w2 + 1), .ref q8, .ref q9, .int readFeetMany, .ref q10, .int readLog, .int readBlock, .ref q11, .int readStocking, .ref q12, .int lefts_, .int rights_, .ref q13, .ref q14, .ref q15, .ref q16, .ref q17])), (q7, .inl (cc 0, 200, .inl text)), (q8, .inl (cc 0, 4, .inl a9))] H locs := hP
          refine lv_if_eq (tgt := 101) hx hb dX10_readNumbers_61 (by decide) (fun c12 => ?_) (fun c12 => ?_)
          · have h := if_t c12 h
            refine lv_aload_n hx hb dX10_readNumbers_101 rfl (lv_at hl 0 rfl) ?_
            refine lv_aload_n hx hb dX10_readNumbers_102 rfl (lv_at hl 0 rfl) ?_
            refine g_get hC hP fg_X10_97 0 rfl rfl dX10_readNumbers_103 ?_
            obtain ⟨r13, hu, h⟩ := bnd_h h
            refine kc_i (kV hC (c_X10_letterAt l dC dI cc q0 q1 q2 q3 q4 q5 q6 q7 q8 q9 q10 q11 q12 q13 q14 q15 q16 q17 feetMany log_ block stocking acts keeps hears texted (w2 + 1) readFeetMany readLog readBlock readStocking lefts_ rights_ text (w2 + 1) H.size r13 hu) cv_X10_100 kw928 rfl rfl ⟨(Nat.le_of_ble_eq_true rfl), (Nat.le_of_ble_eq_true rfl)⟩ hP [0, 1] rfl rfl rfl (q0 := 0) rfl (As := [.int (w2 + 1)]) (rest := []) rfl rfl hl.1 (Nat.le_of_ble_eq_true rfl) dX10_readNumbers_106 ⟨Nat.zero_le _, Nat.zero_le _⟩) hP hA [0, 1] rfl rfl (fun H locs hP => ?_)
            have hP : PD (dC, dI) A s.heap [(q0, .inr (10, [.int feetMany, .ref q1, .int log_, .int block, .ref q2, .int stocking, .ref q3, .int acts, .ref q4, .int keeps, .ref q5, .int hears, .ref q6, .ref q7, .int texted, .int (w2 + 1), .ref q8, .ref q9, .int readFeetMany, .ref q10, .int readLog, .int readBlock, .ref q11, .int readStocking, .ref q12, .int lefts_, .int rights_, .ref q13, .ref q14, .ref q15, .ref q16, .ref q17])), (q7, .inl (cc 0, 200, .inl text)), (q8, .inl (cc 0, 4, .inl a9))] H locs := hP
            refine lv_iload_n hx hb dX10_readNumbers_109 rfl (lv_at hl 2 rfl) ?_
            refine lv_iload_n hx hb dX10_readNumbers_110 rfl (lv_at hl 1 rfl) ?_
            refine lv_iconst (v := 1) hx hb dX10_readNumbers_111 (by decide) ?_
            refine lv_isub hx hb dX10_readNumbers_112 ?_
            refine lv_icmp_ge (tgt := 121) hx hb dX10_readNumbers_113 (by decide) (fun c14 => ?_) (fun c14 => ?_)
            · have h := if_t c14 h
              refine lv_bipush (v := 59) hx hb dX10_readNumbers_121 (by decide) ?_
              refine lv_icmp_eq (tgt := 128) hx hb dX10_readNumbers_123 (by decide) (fun c15 => ?_) (fun c15 => ?_)
              · have h := if_t c15 h
                refine lv_aload_n hx hb dX10_readNumbers_128 rfl (lv_at hl 0 rfl) ?_
                refine lv_dup hx hb dX10_readNumbers_129 rfl ?_
                refine g_get hC hP fg_X10_97 0 rfl rfl dX10_readNumbers_130 ?_
                refine lv_iconst (v := 1) hx hb dX10_readNumbers_133 (by decide) ?_
                refine lv_iadd hx hb dX10_readNumbers_134 ?_
                refine g_put hC hP fg_X10_97 0 rfl rfl rfl (Nat.le_of_ble_eq_true rfl) dX10_readNumbers_135 (fun H locs hP => ?_)
                have hP : PD (dC, dI) A s.heap [(q0, .inr (10, [.int feetMany, .ref q1, .int log_, .int block, .ref q2, .int stocking, .ref q3, .int acts, .ref q4, .int keeps, .ref q5, .int hears, .ref q6, .ref q7, .int texted, .int ((w2 + 1) + 1), .ref q8, .ref q9, .int readFeetMany, .ref q10, .int readLog, .int readBlock, .ref q11, .int readStocking, .ref q12, .int lefts_, .int rights_, .ref q13, .ref q14, .ref q15, .ref q16, .ref q17])), (q7, .inl (cc 0, 200, .inl text)), (q8, .inl (cc 0, 4, .inl a9))] H locs := hP
                refine lv_iinc (v := (j1 + 1)) (lv' := [(2, .int (j1 + 1)), (0, .ref q0), (1, .int x1)]) hx hb dX10_readNumbers_138 hl (k := 2) rfl rfl (by decide) rfl (fun ls hl => ?_)
                refine lv_goto (tgt := 2) hx hb dX10_readNumbers_141 (by decide) ?_
                exact ih _ _ _ _ (lp_n h hz) H locs ls hP (lv_sub hl [1, 2, 0] rfl) KK KR
              · have h := if_f c15 h
                refine lv_iconst (v := 0) hx hb dX10_readNumbers_126 (by decide) ?_
                rw [eZ]
                exact ret_z hC hr rfl hlk hP dX10_readNumbers_127 ((w2 + 1), a9) (Prod.mk.inj (KR _ (lp_e h hz).symm)) rfl
            · have h := if_f c14 h
              refine lv_bipush (v := 44) hx hb dX10_readNumbers_116 (by decide) ?_
              refine lv_goto (tgt := 123) hx hb dX10_readNumbers_118 (by decide) ?_
              refine lv_icmp_eq (tgt := 128) hx hb dX10_readNumbers_123 (by decide) (fun c16 => ?_) (fun c16 => ?_)
              · have h := if_t c16 h
                refine lv_aload_n hx hb dX10_readNumbers_128 rfl (lv_at hl 0 rfl) ?_
                refine lv_dup hx hb dX10_readNumbers_129 rfl ?_
                refine g_get hC hP fg_X10_97 0 rfl rfl dX10_readNumbers_130 ?_
                refine lv_iconst (v := 1) hx hb dX10_readNumbers_133 (by decide) ?_
                refine lv_iadd hx hb dX10_readNumbers_134 ?_
                refine g_put hC hP fg_X10_97 0 rfl rfl rfl (Nat.le_of_ble_eq_true rfl) dX10_readNumbers_135 (fun H locs hP => ?_)
                have hP : PD (dC, dI) A s.heap [(q0, .inr (10, [.int feetMany, .ref q1, .int log_, .int block, .ref q2, .int stocking, .ref q3, .int acts, .ref q4, .int keeps, .ref q5, .int hears, .ref q6, .ref q7, .int texted, .int ((w2 + 1) + 1), .ref q8, .ref q9, .int readFeetMany, .ref q10, .int readLog, .int readBlock, .ref q11, .int readStocking, .ref q12, .int lefts_, .int rights_, .ref q13, .ref q14, .ref q15, .ref q16, .ref q17])), (q7, .inl (cc 0, 200, .inl text)), (q8, .inl (cc 0, 4, .inl a9))] H locs := hP
                refine lv_iinc (v := (j1 + 1)) (lv' := [(2, .int (j1 + 1)), (0, .ref q0), (1, .int x1)]) hx hb dX10_readNumbers_138 hl (k := 2) rfl rfl (by decide) rfl (fun ls hl => ?_)
                refine lv_goto (tgt := 2) hx hb dX10_readNumbers_141 (by decide) ?_
                exact ih _ _ _ _ (lp_n h hz) H locs ls hP (lv_sub hl [1, 2, 0] rfl) KK KR
              · have h := if_f c16 h
                refine lv_iconst (v := 0) hx hb dX10_readNumbers_126 (by decide) ?_
                rw [eZ]
                exact ret_z hC hr rfl hlk hP dX10_readNumbers_127 ((w2 + 1), a9) (Prod.mk.inj (KR _ (lp_e h hz).symm)) rfl
          · have h := if_f c12 h
            refine lv_aload_n hx hb dX10_readNumbers_64 rfl (lv_at hl 0 rfl) ?_
            refine g_get hC hP fg_X10_32 0 rfl rfl dX10_readNumbers_65 ?_
            refine lv_iload_n hx hb dX10_readNumbers_68 rfl (lv_at hl 2 rfl) ?_
            refine lv_bipush (v := 10) hx hb dX10_readNumbers_69 (by decide) ?_
            refine lv_aload_n hx hb dX10_readNumbers_71 rfl (lv_at hl 0 rfl) ?_
            refine g_get hC hP fg_X10_32 0 rfl rfl dX10_readNumbers_72 ?_
            refine lv_iload_n hx hb dX10_readNumbers_75 rfl (lv_at hl 2 rfl) ?_
            obtain ⟨hin, h⟩ := rd_h h
            refine g_iald hC hP 2 0 rfl rfl hin dX10_readNumbers_76 (fun v17 ev => ?_)
            have h := h v17 ev
            refine lv_imul hx hb dX10_readNumbers_77 ?_
            refine lv_aload_n hx hb dX10_readNumbers_78 rfl (lv_at hl 0 rfl) ?_
            refine lv_aload_n hx hb dX10_readNumbers_79 rfl (lv_at hl 0 rfl) ?_
            refine g_get hC hP fg_X10_97 0 rfl rfl dX10_readNumbers_80 ?_
            obtain ⟨r18, hu, h⟩ := bnd_h h
            refine kc_i (kV hC (c_X10_letterAt l dC dI cc q0 q1 q2 q3 q4 q5 q6 q7 q8 q9 q10 q11 q12 q13 q14 q15 q16 q17 feetMany log_ block stocking acts keeps hears texted (w2 + 1) readFeetMany readLog readBlock readStocking lefts_ rights_ text (w2 + 1) H.size r18 hu) cv_X10_100 kw928 rfl rfl ⟨(Nat.le_of_ble_eq_true rfl), (Nat.le_of_ble_eq_true rfl)⟩ hP [0, 1] rfl rfl rfl (q0 := 0) rfl (As := [.int (w2 + 1)]) (rest := [.int (10 * v17), .int j1, .ref q8]) rfl rfl hl.1 (Nat.le_of_ble_eq_true rfl) dX10_readNumbers_83 ⟨Nat.zero_le _, Nat.zero_le _⟩) hP hA [0, 1] rfl rfl (fun H locs hP => ?_)
            have hP : PD (dC, dI) A s.heap [(q0, .inr (10, [.int feetMany, .ref q1, .int log_, .int block, .ref q2, .int stocking, .ref q3, .int acts, .ref q4, .int keeps, .ref q5, .int hears, .ref q6, .ref q7, .int texted, .int (w2 + 1), .ref q8, .ref q9, .int readFeetMany, .ref q10, .int readLog, .int readBlock, .ref q11, .int readStocking, .ref q12, .int lefts_, .int rights_, .ref q13, .ref q14, .ref q15, .ref q16, .ref q17])), (q7, .inl (cc 0, 200, .inl text)), (q8, .inl (cc 0, 4, .inl a9))] H locs := hP
            refine lv_iadd hx hb dX10_readNumbers_86 ?_
            refine lv_bipush (v := 48) hx hb dX10_readNumbers_87 (by decide) ?_
            refine lv_isub hx hb dX10_readNumbers_89 ?_
            obtain ⟨hin, h⟩ := wr_h h
            refine g_iast hC hP 2 0 rfl rfl hin dX10_readNumbers_90 (fun a19 ev H locs hP => ?_)
            have hP : PD (dC, dI) A s.heap [(q0, .inr (10, [.int feetMany, .ref q1, .int log_, .int block, .ref q2, .int stocking, .ref q3, .int acts, .ref q4, .int keeps, .ref q5, .int hears, .ref q6, .ref q7, .int texted, .int (w2 + 1), .ref q8, .ref q9, .int readFeetMany, .ref q10, .int readLog, .int readBlock, .ref q11, .int readStocking, .ref q12, .int lefts_, .int rights_, .ref q13, .ref q14, .ref q15, .ref q16, .ref q17])), (q7, .inl (cc 0, 200, .inl text)), (q8, .inl (cc 0, 4, .inl a19))] H locs := hP
            have h := h a19 ev
            refine lv_aload_n hx hb dX10_readNumbers_91 rfl (lv_at hl 0 rfl) ?_
            refine lv_dup hx hb dX10_readNumbers_92 rfl ?_
            refine g_get hC hP fg_X10_97 0 rfl rfl dX10_readNumbers_93 ?_
            refine lv_iconst (v := 1) hx hb dX10_readNumbers_96 (by decide) ?_
            refine lv_iadd hx hb dX10_readNumbers_97 ?_
            refine g_put hC hP fg_X10_97 0 rfl rfl rfl (Nat.le_of_ble_eq_true rfl) dX10_readNumbers_98 (fun H locs hP => ?_)
            have hP : PD (dC, dI) A s.heap [(q0, .inr (10, [.int feetMany, .ref q1, .int log_, .int block, .ref q2, .int stocking, .ref q3, .int acts, .ref q4, .int keeps, .ref q5, .int hears, .ref q6, .ref q7, .int texted, .int ((w2 + 1) + 1), .ref q8, .ref q9, .int readFeetMany, .ref q10, .int readLog, .int readBlock, .ref q11, .int readStocking, .ref q12, .int lefts_, .int rights_, .ref q13, .ref q14, .ref q15, .ref q16, .ref q17])), (q7, .inl (cc 0, 200, .inl text)), (q8, .inl (cc 0, 4, .inl a19))] H locs := hP
            refine lv_aload_n hx hb dX10_readNumbers_101 rfl (lv_at hl 0 rfl) ?_
            refine lv_aload_n hx hb dX10_readNumbers_102 rfl (lv_at hl 0 rfl) ?_
            refine g_get hC hP fg_X10_97 0 rfl rfl dX10_readNumbers_103 ?_
            obtain ⟨r20, hu, h⟩ := bnd_h h
            refine kc_i (kV hC (c_X10_letterAt l dC dI cc q0 q1 q2 q3 q4 q5 q6 q7 q8 q9 q10 q11 q12 q13 q14 q15 q16 q17 feetMany log_ block stocking acts keeps hears texted ((w2 + 1) + 1) readFeetMany readLog readBlock readStocking lefts_ rights_ text ((w2 + 1) + 1) H.size r20 hu) cv_X10_100 kw928 rfl rfl ⟨(Nat.le_of_ble_eq_true rfl), (Nat.le_of_ble_eq_true rfl)⟩ hP [0, 1] rfl rfl rfl (q0 := 0) rfl (As := [.int ((w2 + 1) + 1)]) (rest := []) rfl rfl hl.1 (Nat.le_of_ble_eq_true rfl) dX10_readNumbers_106 ⟨Nat.zero_le _, Nat.zero_le _⟩) hP hA [0, 1] rfl rfl (fun H locs hP => ?_)
            have hP : PD (dC, dI) A s.heap [(q0, .inr (10, [.int feetMany, .ref q1, .int log_, .int block, .ref q2, .int stocking, .ref q3, .int acts, .ref q4, .int keeps, .ref q5, .int hears, .ref q6, .ref q7, .int texted, .int ((w2 + 1) + 1), .ref q8, .ref q9, .int readFeetMany, .ref q10, .int readLog, .int readBlock, .ref q11, .int readStocking, .ref q12, .int lefts_, .int rights_, .ref q13, .ref q14, .ref q15, .ref q16, .ref q17])), (q7, .inl (cc 0, 200, .inl text)), (q8, .inl (cc 0, 4, .inl a19))] H locs := hP
            refine lv_iload_n hx hb dX10_readNumbers_109 rfl (lv_at hl 2 rfl) ?_
            refine lv_iload_n hx hb dX10_readNumbers_110 rfl (lv_at hl 1 rfl) ?_
            refine lv_iconst (v := 1) hx hb dX10_readNumbers_111 (by decide) ?_
            refine lv_isub hx hb dX10_readNumbers_112 ?_
            refine lv_icmp_ge (tgt := 121) hx hb dX10_readNumbers_113 (by decide) (fun c21 => ?_) (fun c21 => ?_)
            · have h := if_t c21 h
              refine lv_bipush (v := 59) hx hb dX10_readNumbers_121 (by decide) ?_
              refine lv_icmp_eq (tgt := 128) hx hb dX10_readNumbers_123 (by decide) (fun c22 => ?_) (fun c22 => ?_)
              · have h := if_t c22 h
                refine lv_aload_n hx hb dX10_readNumbers_128 rfl (lv_at hl 0 rfl) ?_
                refine lv_dup hx hb dX10_readNumbers_129 rfl ?_
                refine g_get hC hP fg_X10_97 0 rfl rfl dX10_readNumbers_130 ?_
                refine lv_iconst (v := 1) hx hb dX10_readNumbers_133 (by decide) ?_
                refine lv_iadd hx hb dX10_readNumbers_134 ?_
                refine g_put hC hP fg_X10_97 0 rfl rfl rfl (Nat.le_of_ble_eq_true rfl) dX10_readNumbers_135 (fun H locs hP => ?_)
                have hP : PD (dC, dI) A s.heap [(q0, .inr (10, [.int feetMany, .ref q1, .int log_, .int block, .ref q2, .int stocking, .ref q3, .int acts, .ref q4, .int keeps, .ref q5, .int hears, .ref q6, .ref q7, .int texted, .int (((w2 + 1) + 1) + 1), .ref q8, .ref q9, .int readFeetMany, .ref q10, .int readLog, .int readBlock, .ref q11, .int readStocking, .ref q12, .int lefts_, .int rights_, .ref q13, .ref q14, .ref q15, .ref q16, .ref q17])), (q7, .inl (cc 0, 200, .inl text)), (q8, .inl (cc 0, 4, .inl a19))] H locs := hP
                refine lv_iinc (v := (j1 + 1)) (lv' := [(2, .int (j1 + 1)), (0, .ref q0), (1, .int x1)]) hx hb dX10_readNumbers_138 hl (k := 2) rfl rfl (by decide) rfl (fun ls hl => ?_)
                refine lv_goto (tgt := 2) hx hb dX10_readNumbers_141 (by decide) ?_
                exact ih _ _ _ _ (lp_n h hz) H locs ls hP (lv_sub hl [1, 2, 0] rfl) KK KR
              · have h := if_f c22 h
                refine lv_iconst (v := 0) hx hb dX10_readNumbers_126 (by decide) ?_
                rw [eZ]
                exact ret_z hC hr rfl hlk hP dX10_readNumbers_127 (((w2 + 1) + 1), a19) (Prod.mk.inj (KR _ (lp_e h hz).symm)) rfl
            · have h := if_f c21 h
              refine lv_bipush (v := 44) hx hb dX10_readNumbers_116 (by decide) ?_
              refine lv_goto (tgt := 123) hx hb dX10_readNumbers_118 (by decide) ?_
              refine lv_icmp_eq (tgt := 128) hx hb dX10_readNumbers_123 (by decide) (fun c23 => ?_) (fun c23 => ?_)
              · have h := if_t c23 h
                refine lv_aload_n hx hb dX10_readNumbers_128 rfl (lv_at hl 0 rfl) ?_
                refine lv_dup hx hb dX10_readNumbers_129 rfl ?_
                refine g_get hC hP fg_X10_97 0 rfl rfl dX10_readNumbers_130 ?_
                refine lv_iconst (v := 1) hx hb dX10_readNumbers_133 (by decide) ?_
                refine lv_iadd hx hb dX10_readNumbers_134 ?_
                refine g_put hC hP fg_X10_97 0 rfl rfl rfl (Nat.le_of_ble_eq_true rfl) dX10_readNumbers_135 (fun H locs hP => ?_)
                have hP : PD (dC, dI) A s.heap [(q0, .inr (10, [.int feetMany, .ref q1, .int log_, .int block, .ref q2, .int stocking, .ref q3, .int acts, .ref q4, .int keeps, .ref q5, .int hears, .ref q6, .ref q7, .int texted, .int (((w2 + 1) + 1) + 1), .ref q8, .ref q9, .int readFeetMany, .ref q10, .int readLog, .int readBlock, .ref q11, .int readStocking, .ref q12, .int lefts_, .int rights_, .ref q13, .ref q14, .ref q15, .ref q16, .ref q17])), (q7, .inl (cc 0, 200, .inl text)), (q8, .inl (cc 0, 4, .inl a19))] H locs := hP
                refine lv_iinc (v := (j1 + 1)) (lv' := [(2, .int (j1 + 1)), (0, .ref q0), (1, .int x1)]) hx hb dX10_readNumbers_138 hl (k := 2) rfl rfl (by decide) rfl (fun ls hl => ?_)
                refine lv_goto (tgt := 2) hx hb dX10_readNumbers_141 (by decide) ?_
                exact ih _ _ _ _ (lp_n h hz) H locs ls hP (lv_sub hl [1, 2, 0] rfl) KK KR
              · have h := if_f c23 h
                refine lv_iconst (v := 0) hx hb dX10_readNumbers_126 (by decide) ?_
                rw [eZ]
                exact ret_z hC hr rfl hlk hP dX10_readNumbers_127 (((w2 + 1) + 1), a19) (Prod.mk.inj (KR _ (lp_e h hz).symm)) rfl
        · have h := if_t c7 h
          refine lv_iconst (v := 0) hx hb dX10_readNumbers_21 (by decide) ?_
          rw [eZ]
          exact ret_z hC hr rfl hlk hP dX10_readNumbers_22 (w2, w3) (Prod.mk.inj (KR _ (lp_e h hz).symm)) rfl
  refine L1 FU _ _ _ z hlp H locs ls hP (lv_sub hl [1, 2, 0] rfl) (fun j1x w2x w3x e H locs ls hP hl => ?_) (fun q e => Option.some.inj (hj q e))
  have h := hk _ e
  refine lv_iconst (v := 1) hx hb dX10_readNumbers_144 (by decide) ?_
  rw [eZ]
  exact ret_z hC hr rfl hlk hP dX10_readNumbers_145 (w2x, w3x) (Prod.mk.inj (Option.some.inj h)) rfl
set_option maxHeartbeats 8000000 in
set_option maxRecDepth 100000 in
theorem c_X10_isTold (l : Launch) (dC : Nat → ClassId) (dI : Nat → Nat → Nat) (cc : Nat → ClassId) (q0 q1 q2 q3 q4 q5 q6 q7 q8 q9 q10 q11 q12 q13 q14 q15 q16 q17 : Nat) (feetMany : Int32) (log_ : Int32) (block : Int32) (stocking : Int32) (acts : Int32) (keeps : Int32) (hears : Int32) (texted : Int32) (at_ : Int32) (readFeetMany : Int32) (readLog : Int32) (readBlock : Int32) (readStocking : Int32) (lefts_ : Int32) (rights_ : Int32) (told : (Nat → Int32)) (x1 : Int32) (x2 : Int32) (x3 : Int32) (sz : Nat) (ret : Int32) (hu : f_X10_isTold x1 x2 x3 told = some ret) : Met l yX10_isTold (mw yX10_isTold cX10_isTold 4 (some .boolean)) ({ frames := 1, cells := 0, slots := 0, locals := 22 } : Room) (va_Pc [.ref q0, .int x1, .int x2, .int x3] (mP (dC, dI) (ts cc) sz [(q0, .inr (10, [.int feetMany, .ref q1, .int log_, .int block, .ref q2, .int stocking, .ref q3, .int acts, .ref q4, .int keeps, .ref q5, .int hears, .ref q6, .ref q7, .int texted, .int at_, .ref q8, .ref q9, .int readFeetMany, .ref q10, .int readLog, .int readBlock, .ref q11, .int readStocking, .ref q12, .int lefts_, .int rights_, .ref q13, .ref q14, .ref q15, .ref q16, .ref q17])), (q8, .inl (cc 0, 4, .inl told))])) ((fun A => va_Qi (fun (r : Int32) (w : Unit) => narrow .boolean (.int r) = .int r ∧ (r = ret ∧ w = ())) (fun (w : Unit) t => va_P (dC, dI) classes [(q0, .inr (10, [.int feetMany, .ref q1, .int log_, .int block, .ref q2, .int stocking, .ref q3, .int acts, .ref q4, .int keeps, .ref q5, .int hears, .ref q6, .ref q7, .int texted, .int at_, .ref q8, .ref q9, .int readFeetMany, .ref q10, .int readLog, .int readBlock, .ref q11, .int readStocking, .ref q12, .int lefts_, .int rights_, .ref q13, .ref q14, .ref q15, .ref q16, .ref q17])), (q8, .inl (cc 0, 4, .inl told))] t.heap) A) (va_A [(q0, .inr (10, [.int feetMany, .ref q1, .int log_, .int block, .ref q2, .int stocking, .ref q3, .int acts, .ref q4, .int keeps, .ref q5, .int hears, .ref q6, .ref q7, .int texted, .int at_, .ref q8, .ref q9, .int readFeetMany, .ref q10, .int readLog, .int readBlock, .ref q11, .int readStocking, .ref q12, .int lefts_, .int rights_, .ref q13, .ref q14, .ref q15, .ref q16, .ref q17])), (q8, .inl (cc 0, 4, .inl told))] sz)) 0 0 (va_A [(q0, .inr (10, [.int feetMany, .ref q1, .int log_, .int block, .ref q2, .int stocking, .ref q3, .int acts, .ref q4, .int keeps, .ref q5, .int hears, .ref q6, .ref q7, .int texted, .int at_, .ref q8, .ref q9, .int readFeetMany, .ref q10, .int readLog, .int readBlock, .ref q11, .int readStocking, .ref q12, .int lefts_, .int rights_, .ref q13, .ref q14, .ref q15, .ref q16, .ref q17])), (q8, .inl (cc 0, 4, .inl told))] sz) := by
  refine met_go (Qc := fun A => va_Qi (fun (r : Int32) (w : Unit) => narrow .boolean (.int r) = .int r ∧ (r = ret ∧ w = ())) (fun (w : Unit) t => va_P (dC, dI) classes [(q0, .inr (10, [.int feetMany, .ref q1, .int log_, .int block, .ref q2, .int stocking, .ref q3, .int acts, .ref q4, .int keeps, .ref q5, .int hears, .ref q6, .ref q7, .int texted, .int at_, .ref q8, .ref q9, .int readFeetMany, .ref q10, .int readLog, .int readBlock, .ref q11, .int readStocking, .ref q12, .int lefts_, .int rights_, .ref q13, .ref q14, .ref q15, .ref q16, .ref q17])), (q8, .inl (cc 0, 4, .inl told))] t.heap) A) (by decide) (Nat.le_of_ble_eq_true rfl) ?_
  intro p e s m below meth c A ls H locs hC hr hlk hin hA hP hl _
  have hC : CX p m c cX10_isTold 4 s ([.ref q0, .int x1, .int x2, .int x3] : List Value).toArray RX10 (dC, dI) (ts cc) := hC
  have hx := hC.1.1
  have hb := hC.1.2
  have h := hu
  have hu0 := hu
  unfold f_X10_isTold at h
  have hl : lv_has ls 4 [(0, .ref q0), (1, .int x1), (2, .int x2), (3, .int x3)] := hl
  refine lv_aload_n hx hb dX10_isTold_0 rfl (lv_at hl 0 rfl) ?_
  refine g_get hC hP fg_X10_32 0 rfl rfl dX10_isTold_1 ?_
  refine lv_iload_n hx hb dX10_isTold_4 rfl (lv_at hl 1 rfl) ?_
  obtain ⟨hin, h⟩ := rd_h h
  refine g_iald hC hP 1 0 rfl rfl hin dX10_isTold_5 (fun v1 ev => ?_)
  have h := h v1 ev
  refine lv_iload_n hx hb dX10_isTold_6 rfl (lv_at hl 2 rfl) ?_
  refine lv_iload_n hx hb dX10_isTold_7 rfl (lv_at hl 3 rfl) ?_
  obtain ⟨r2, hu, h⟩ := bnd_h h
  refine kc_z (kS hC (c_X10_in l dC dI cc v1 x2 x3 H.size r2 hu) cs_X10_90 kw912 rfl rfl ⟨(Nat.le_of_ble_eq_true rfl), (Nat.le_of_ble_eq_true rfl)⟩ hP [] rfl rfl (As := [.int v1, .int x2, .int x3]) (rest := []) rfl rfl hl.1 (Nat.le_of_ble_eq_true rfl) dX10_isTold_8 ⟨Nat.zero_le _, Nat.zero_le _⟩) hP hA [] rfl rfl (fun hz_r2 H locs hP => ?_)
  have hP : PD (dC, dI) A s.heap [(q0, .inr (10, [.int feetMany, .ref q1, .int log_, .int block, .ref q2, .int stocking, .ref q3, .int acts, .ref q4, .int keeps, .ref q5, .int hears, .ref q6, .ref q7, .int texted, .int at_, .ref q8, .ref q9, .int readFeetMany, .ref q10, .int readLog, .int readBlock, .ref q11, .int readStocking, .ref q12, .int lefts_, .int rights_, .ref q13, .ref q14, .ref q15, .ref q16, .ref q17])), (q8, .inl (cc 0, 4, .inl told))] H locs := hP
  exact ret_z hC hr hz_r2 hlk hP dX10_isTold_11 () (⟨Option.some.inj h, rfl⟩) rfl
set_option maxHeartbeats 8000000 in
set_option maxRecDepth 100000 in
theorem c_X10_clearTold (l : Launch) (dC : Nat → ClassId) (dI : Nat → Nat → Nat) (cc : Nat → ClassId) (q0 q1 q2 q3 q4 q5 q6 q7 q8 q9 q10 q11 q12 q13 q14 q15 q16 q17 : Nat) (feetMany : Int32) (log_ : Int32) (block : Int32) (stocking : Int32) (acts : Int32) (keeps : Int32) (hears : Int32) (texted : Int32) (at_ : Int32) (readFeetMany : Int32) (readLog : Int32) (readBlock : Int32) (readStocking : Int32) (lefts_ : Int32) (rights_ : Int32) (read_ : (Nat → Int32)) (readKnot : (Nat → Int32)) (sz : Nat) (o_read_ : (Nat → Int32)) (o_readFeetMany : Int32) (o_readLog : Int32) (o_readBlock : Int32) (o_readKnot : (Nat → Int32)) (o_readStocking : Int32) (hu : f_X10_clearTold read_ readKnot = some (o_read_, o_readFeetMany, o_readLog, o_readBlock, o_readKnot, o_readStocking)) : Met l yX10_clearTold (mw yX10_clearTold cX10_clearTold 2 none) ({ frames := 0, cells := 0, slots := 0, locals := 0 } : Room) (va_Pc [.ref q0] (mP (dC, dI) (ts cc) sz [(q0, .inr (10, [.int feetMany, .ref q1, .int log_, .int block, .ref q2, .int stocking, .ref q3, .int acts, .ref q4, .int keeps, .ref q5, .int hears, .ref q6, .ref q7, .int texted, .int at_, .ref q8, .ref q9, .int readFeetMany, .ref q10, .int readLog, .int readBlock, .ref q11, .int readStocking, .ref q12, .int lefts_, .int rights_, .ref q13, .ref q14, .ref q15, .ref q16, .ref q17])), (q9, .inl (cc 0, 52, .inl read_)), (q11, .inl (cc 2, 40, .inl readKnot))])) ((fun A => va_Qv (fun (w : (Nat → Int32) × Int32 × Int32 × Int32 × (Nat → Int32) × Int32) => w = (o_read_, o_readFeetMany, o_readLog, o_readBlock, o_readKnot, o_readStocking)) (fun (w : (Nat → Int32) × Int32 × Int32 × Int32 × (Nat → Int32) × Int32) t => va_P (dC, dI) classes [(q0, .inr (10, [.int feetMany, .ref q1, .int log_, .int block, .ref q2, .int stocking, .ref q3, .int acts, .ref q4, .int keeps, .ref q5, .int hears, .ref q6, .ref q7, .int texted, .int at_, .ref q8, .ref q9, .int w.2.1, .ref q10, .int w.2.2.1, .int w.2.2.2.1, .ref q11, .int w.2.2.2.2.2, .ref q12, .int lefts_, .int rights_, .ref q13, .ref q14, .ref q15, .ref q16, .ref q17])), (q9, .inl (cc 0, 52, .inl w.1)), (q11, .inl (cc 2, 40, .inl w.2.2.2.2.1))] t.heap) A) (va_A [(q0, .inr (10, [.int feetMany, .ref q1, .int log_, .int block, .ref q2, .int stocking, .ref q3, .int acts, .ref q4, .int keeps, .ref q5, .int hears, .ref q6, .ref q7, .int texted, .int at_, .ref q8, .ref q9, .int readFeetMany, .ref q10, .int readLog, .int readBlock, .ref q11, .int readStocking, .ref q12, .int lefts_, .int rights_, .ref q13, .ref q14, .ref q15, .ref q16, .ref q17])), (q9, .inl (cc 0, 52, .inl read_)), (q11, .inl (cc 2, 40, .inl readKnot))] sz)) 0 0 (va_A [(q0, .inr (10, [.int feetMany, .ref q1, .int log_, .int block, .ref q2, .int stocking, .ref q3, .int acts, .ref q4, .int keeps, .ref q5, .int hears, .ref q6, .ref q7, .int texted, .int at_, .ref q8, .ref q9, .int readFeetMany, .ref q10, .int readLog, .int readBlock, .ref q11, .int readStocking, .ref q12, .int lefts_, .int rights_, .ref q13, .ref q14, .ref q15, .ref q16, .ref q17])), (q9, .inl (cc 0, 52, .inl read_)), (q11, .inl (cc 2, 40, .inl readKnot))] sz) := by
  refine met_go (Qc := fun A => va_Qv (fun (w : (Nat → Int32) × Int32 × Int32 × Int32 × (Nat → Int32) × Int32) => w = (o_read_, o_readFeetMany, o_readLog, o_readBlock, o_readKnot, o_readStocking)) (fun (w : (Nat → Int32) × Int32 × Int32 × Int32 × (Nat → Int32) × Int32) t => va_P (dC, dI) classes [(q0, .inr (10, [.int feetMany, .ref q1, .int log_, .int block, .ref q2, .int stocking, .ref q3, .int acts, .ref q4, .int keeps, .ref q5, .int hears, .ref q6, .ref q7, .int texted, .int at_, .ref q8, .ref q9, .int w.2.1, .ref q10, .int w.2.2.1, .int w.2.2.2.1, .ref q11, .int w.2.2.2.2.2, .ref q12, .int lefts_, .int rights_, .ref q13, .ref q14, .ref q15, .ref q16, .ref q17])), (q9, .inl (cc 0, 52, .inl w.1)), (q11, .inl (cc 2, 40, .inl w.2.2.2.2.1))] t.heap) A) (by decide) (Nat.le_of_ble_eq_true rfl) ?_
  intro p e s m below meth c A ls H locs hC hr hlk hin hA hP hl _
  have hC : CX p m c cX10_clearTold 2 s ([.ref q0] : List Value).toArray RX10 (dC, dI) (ts cc) := hC
  have hx := hC.1.1
  have hb := hC.1.2
  have h := hu
  have hu0 := hu
  unfold f_X10_clearTold at h
  have hl : lv_has ls 2 [(0, .ref q0)] := hl
  refine W_abs (fun Z eZ => ?_)
  refine lv_iconst (v := 0) hx hb dX10_clearTold_0 (by decide) ?_
  refine lv_istore_n (lv' := [(1, .int 0), (0, .ref q0)]) hx hb dX10_clearTold_1 rfl hl (by decide) rfl (fun ls hl => ?_)
  obtain ⟨⟨j1x, w2x⟩, hlp, h⟩ := bnd_h h
  have L1 : ∀ (n : Nat) (j1 : Int32) (w2 : (Nat → Int32)) (j1x : Int32) (w2x : (Nat → Int32)), lp (u2 b_X10_clearTold_1) n (j1, w2) = some (j1x, w2x) → ∀ (H : Heap) (locs : List Loc) (ls : Array Slot), PD (dC, dI) A s.heap [(q0, .inr (10, [.int feetMany, .ref q1, .int log_, .int block, .ref q2, .int stocking, .ref q3, .int acts, .ref q4, .int keeps, .ref q5, .int hears, .ref q6, .ref q7, .int texted, .int at_, .ref q8, .ref q9, .int readFeetMany, .ref q10, .int readLog, .int readBlock, .ref q11, .int readStocking, .ref q12, .int lefts_, .int rights_, .ref q13, .ref q14, .ref q15, .ref q16, .ref q17])), (q9, .inl (cc 0, 52, .inl w2)), (q11, .inl (cc 2, 40, .inl readKnot))] H locs → lv_has ls 2 [(0, .ref q0), (1, .int j1)] → (∀ (H : Heap) (locs : List Loc) (ls : Array Slot), PD (dC, dI) A s.heap [(q0, .inr (10, [.int feetMany, .ref q1, .int log_, .int block, .ref q2, .int stocking, .ref q3, .int acts, .ref q4, .int keeps, .ref q5, .int hears, .ref q6, .ref q7, .int texted, .int at_, .ref q8, .ref q9, .int readFeetMany, .ref q10, .int readLog, .int readBlock, .ref q11, .int readStocking, .ref q12, .int lefts_, .int rights_, .ref q13, .ref q14, .ref q15, .ref q16, .ref q17])), (q9, .inl (cc 0, 52, .inl w2x)), (q11, .inl (cc 2, 40, .inl readKnot))] H locs → lv_has ls 2 [(0, .ref q0), (1, .int j1x)] → W p l e ({ frames := 0, cells := 0, slots := 0, locals := 0 } : Room) s m ([.ref q0] : List Value).toArray below meth c H locs 0 0 Z (F0 m 21 ls [])) → W p l e ({ frames := 0, cells := 0, slots := 0, locals := 0 } : Room) s m ([.ref q0] : List Value).toArray below meth c H locs 0 0 Z (F0 m 2 ls []) := by
    intro n
    induction n with
    | zero => intro j1 w2 j1x w2x h; exact (lp_0 h).elim
    | succ n ih =>
      intro j1 w2 j1x w2x h H locs ls hP hl KK
      obtain ⟨y, h, hz⟩ := lp_h h
      refine lv_iload_n hx hb dX10_clearTold_2 rfl (lv_at hl 1 rfl) ?_
      refine lv_bipush (v := 52) hx hb dX10_clearTold_3 (by decide) ?_
      refine lv_icmp_ge (tgt := 21) hx hb dX10_clearTold_5 (by decide) (fun c3 => ?_) (fun c3 => ?_)
      · have h := if_t c3 h
        cases lp_e h hz
        exact KK H locs ls hP (lv_sub hl [0, 1] rfl)
      · have h := if_f c3 h
        refine lv_aload_n hx hb dX10_clearTold_8 rfl (lv_at hl 0 rfl) ?_
        refine g_get hC hP fg_X10_35 0 rfl rfl dX10_clearTold_9 ?_
        refine lv_iload_n hx hb dX10_clearTold_12 rfl (lv_at hl 1 rfl) ?_
        refine lv_iconst (v := 0) hx hb dX10_clearTold_13 (by decide) ?_
        obtain ⟨hin, h⟩ := wr_h h
        refine g_iast hC hP 1 0 rfl rfl hin dX10_clearTold_14 (fun a4 ev H locs hP => ?_)
        have hP : PD (dC, dI) A s.heap [(q0, .inr (10, [.int feetMany, .ref q1, .int log_, .int block, .ref q2, .int stocking, .ref q3, .int acts, .ref q4, .int keeps, .ref q5, .int hears, .ref q6, .ref q7, .int texted, .int at_, .ref q8, .ref q9, .int readFeetMany, .ref q10, .int readLog, .int readBlock, .ref q11, .int readStocking, .ref q12, .int lefts_, .int rights_, .ref q13, .ref q14, .ref q15, .ref q16, .ref q17])), (q9, .inl (cc 0, 52, .inl a4)), (q11, .inl (cc 2, 40, .inl readKnot))] H locs := hP
        have h := h a4 ev
        refine lv_iinc (v := (j1 + 1)) (lv' := [(1, .int (j1 + 1)), (0, .ref q0)]) hx hb dX10_clearTold_15 hl (k := 1) rfl rfl (by decide) rfl (fun ls hl => ?_)
        refine lv_goto (tgt := 2) hx hb dX10_clearTold_18 (by decide) ?_
        exact ih _ _ _ _ (lp_n h hz) H locs ls hP (lv_sub hl [1, 0] rfl) KK
  refine L1 FU _ _ j1x w2x hlp H locs ls hP (lv_sub hl [1, 0] rfl) (fun H locs ls hP hl => ?_)
  refine lv_iconst (v := 0) hx hb dX10_clearTold_21 (by decide) ?_
  refine lv_istore_n (lv' := [(1, .int 0), (0, .ref q0)]) hx hb dX10_clearTold_22 rfl hl (by decide) rfl (fun ls hl => ?_)
  obtain ⟨⟨j5x, w6x⟩, hlp, h⟩ := bnd_h h
  have L2 : ∀ (n : Nat) (j5 : Int32) (w6 : (Nat → Int32)) (j5x : Int32) (w6x : (Nat → Int32)), lp (u2 b_X10_clearTold_2) n (j5, w6) = some (j5x, w6x) → ∀ (H : Heap) (locs : List Loc) (ls : Array Slot), PD (dC, dI) A s.heap [(q0, .inr (10, [.int feetMany, .ref q1, .int log_, .int block, .ref q2, .int stocking, .ref q3, .int acts, .ref q4, .int keeps, .ref q5, .int hears, .ref q6, .ref q7, .int texted, .int at_, .ref q8, .ref q9, .int readFeetMany, .ref q10, .int readLog, .int readBlock, .ref q11, .int readStocking, .ref q12, .int lefts_, .int rights_, .ref q13, .ref q14, .ref q15, .ref q16, .ref q17])), (q9, .inl (cc 0, 52, .inl w2x)), (q11, .inl (cc 2, 40, .inl w6))] H locs → lv_has ls 2 [(0, .ref q0), (1, .int j5)] → (∀ (H : Heap) (locs : List Loc) (ls : Array Slot), PD (dC, dI) A s.heap [(q0, .inr (10, [.int feetMany, .ref q1, .int log_, .int block, .ref q2, .int stocking, .ref q3, .int acts, .ref q4, .int keeps, .ref q5, .int hears, .ref q6, .ref q7, .int texted, .int at_, .ref q8, .ref q9, .int readFeetMany, .ref q10, .int readLog, .int readBlock, .ref q11, .int readStocking, .ref q12, .int lefts_, .int rights_, .ref q13, .ref q14, .ref q15, .ref q16, .ref q17])), (q9, .inl (cc 0, 52, .inl w2x)), (q11, .inl (cc 2, 40, .inl w6x))] H locs → lv_has ls 2 [(0, .ref q0), (1, .int j5x)] → W p l e ({ frames := 0, cells := 0, slots := 0, locals := 0 } : Room) s m ([.ref q0] : List Value).toArray below meth c H locs 0 0 Z (F0 m 42 ls [])) → W p l e ({ frames := 0, cells := 0, slots := 0, locals := 0 } : Room) s m ([.ref q0] : List Value).toArray below meth c H locs 0 0 Z (F0 m 23 ls []) := by
    intro n
    induction n with
    | zero => intro j5 w6 j5x w6x h; exact (lp_0 h).elim
    | succ n ih =>
      intro j5 w6 j5x w6x h H locs ls hP hl KK
      obtain ⟨y, h, hz⟩ := lp_h h
      refine lv_iload_n hx hb dX10_clearTold_23 rfl (lv_at hl 1 rfl) ?_
      refine lv_bipush (v := 40) hx hb dX10_clearTold_24 (by decide) ?_
      refine lv_icmp_ge (tgt := 42) hx hb dX10_clearTold_26 (by decide) (fun c7 => ?_) (fun c7 => ?_)
      · have h := if_t c7 h
        cases lp_e h hz
        exact KK H locs ls hP (lv_sub hl [0, 1] rfl)
      · have h := if_f c7 h
        refine lv_aload_n hx hb dX10_clearTold_29 rfl (lv_at hl 0 rfl) ?_
        refine g_get hC hP fg_X10_41 0 rfl rfl dX10_clearTold_30 ?_
        refine lv_iload_n hx hb dX10_clearTold_33 rfl (lv_at hl 1 rfl) ?_
        refine lv_iconst (v := 0) hx hb dX10_clearTold_34 (by decide) ?_
        obtain ⟨hin, h⟩ := wr_h h
        refine g_zast hC hP 2 2 rfl rfl hin dX10_clearTold_35 (fun a8 ev H locs hP => ?_)
        have hP : PD (dC, dI) A s.heap [(q0, .inr (10, [.int feetMany, .ref q1, .int log_, .int block, .ref q2, .int stocking, .ref q3, .int acts, .ref q4, .int keeps, .ref q5, .int hears, .ref q6, .ref q7, .int texted, .int at_, .ref q8, .ref q9, .int readFeetMany, .ref q10, .int readLog, .int readBlock, .ref q11, .int readStocking, .ref q12, .int lefts_, .int rights_, .ref q13, .ref q14, .ref q15, .ref q16, .ref q17])), (q9, .inl (cc 0, 52, .inl w2x)), (q11, .inl (cc 2, 40, .inl a8))] H locs := hP
        have h := h a8 ev
        refine lv_iinc (v := (j5 + 1)) (lv' := [(1, .int (j5 + 1)), (0, .ref q0)]) hx hb dX10_clearTold_36 hl (k := 1) rfl rfl (by decide) rfl (fun ls hl => ?_)
        refine lv_goto (tgt := 23) hx hb dX10_clearTold_39 (by decide) ?_
        exact ih _ _ _ _ (lp_n h hz) H locs ls hP (lv_sub hl [1, 0] rfl) KK
  refine L2 FU _ _ j5x w6x hlp H locs ls hP (lv_sub hl [1, 0] rfl) (fun H locs ls hP hl => ?_)
  refine lv_aload_n hx hb dX10_clearTold_42 rfl (lv_at hl 0 rfl) ?_
  refine lv_iconst (v := 0) hx hb dX10_clearTold_43 (by decide) ?_
  refine g_put hC hP fg_X10_87 0 rfl rfl rfl (Nat.le_of_ble_eq_true rfl) dX10_clearTold_44 (fun H locs hP => ?_)
  have hP : PD (dC, dI) A s.heap [(q0, .inr (10, [.int feetMany, .ref q1, .int log_, .int block, .ref q2, .int stocking, .ref q3, .int acts, .ref q4, .int keeps, .ref q5, .int hears, .ref q6, .ref q7, .int texted, .int at_, .ref q8, .ref q9, .int 0, .ref q10, .int readLog, .int readBlock, .ref q11, .int readStocking, .ref q12, .int lefts_, .int rights_, .ref q13, .ref q14, .ref q15, .ref q16, .ref q17])), (q9, .inl (cc 0, 52, .inl w2x)), (q11, .inl (cc 2, 40, .inl w6x))] H locs := hP
  refine lv_aload_n hx hb dX10_clearTold_47 rfl (lv_at hl 0 rfl) ?_
  refine lv_bipush (v := 20) hx hb dX10_clearTold_48 (by decide) ?_
  refine g_put hC hP fg_X10_73 0 rfl rfl rfl (Nat.le_of_ble_eq_true rfl) dX10_clearTold_50 (fun H locs hP => ?_)
  have hP : PD (dC, dI) A s.heap [(q0, .inr (10, [.int feetMany, .ref q1, .int log_, .int block, .ref q2, .int stocking, .ref q3, .int acts, .ref q4, .int keeps, .ref q5, .int hears, .ref q6, .ref q7, .int texted, .int at_, .ref q8, .ref q9, .int 0, .ref q10, .int 20, .int readBlock, .ref q11, .int readStocking, .ref q12, .int lefts_, .int rights_, .ref q13, .ref q14, .ref q15, .ref q16, .ref q17])), (q9, .inl (cc 0, 52, .inl w2x)), (q11, .inl (cc 2, 40, .inl w6x))] H locs := hP
  refine lv_aload_n hx hb dX10_clearTold_53 rfl (lv_at hl 0 rfl) ?_
  refine lv_iconst (v := 4) hx hb dX10_clearTold_54 (by decide) ?_
  refine g_put hC hP fg_X10_77 0 rfl rfl rfl (Nat.le_of_ble_eq_true rfl) dX10_clearTold_55 (fun H locs hP => ?_)
  have hP : PD (dC, dI) A s.heap [(q0, .inr (10, [.int feetMany, .ref q1, .int log_, .int block, .ref q2, .int stocking, .ref q3, .int acts, .ref q4, .int keeps, .ref q5, .int hears, .ref q6, .ref q7, .int texted, .int at_, .ref q8, .ref q9, .int 0, .ref q10, .int 20, .int 4, .ref q11, .int readStocking, .ref q12, .int lefts_, .int rights_, .ref q13, .ref q14, .ref q15, .ref q16, .ref q17])), (q9, .inl (cc 0, 52, .inl w2x)), (q11, .inl (cc 2, 40, .inl w6x))] H locs := hP
  refine lv_aload_n hx hb dX10_clearTold_58 rfl (lv_at hl 0 rfl) ?_
  refine lv_iconst (v := 2) hx hb dX10_clearTold_59 (by decide) ?_
  refine g_put hC hP fg_X10_108 0 rfl rfl rfl (Nat.le_of_ble_eq_true rfl) dX10_clearTold_60 (fun H locs hP => ?_)
  have hP : PD (dC, dI) A s.heap [(q0, .inr (10, [.int feetMany, .ref q1, .int log_, .int block, .ref q2, .int stocking, .ref q3, .int acts, .ref q4, .int keeps, .ref q5, .int hears, .ref q6, .ref q7, .int texted, .int at_, .ref q8, .ref q9, .int 0, .ref q10, .int 20, .int 4, .ref q11, .int 2, .ref q12, .int lefts_, .int rights_, .ref q13, .ref q14, .ref q15, .ref q16, .ref q17])), (q9, .inl (cc 0, 52, .inl w2x)), (q11, .inl (cc 2, 40, .inl w6x))] H locs := hP
  rw [eZ]
  exact ret_v hC hr hlk hP dX10_clearTold_63 (w2x, 0, 20, 4, w6x, 2) (Option.some.inj h) rfl
set_option maxHeartbeats 8000000 in
set_option maxRecDepth 100000 in
theorem c_X10_isOne (l : Launch) (dC : Nat → ClassId) (dI : Nat → Nat → Nat) (cc : Nat → ClassId) (x1 : Int32) (x2 : Int32) (x3 : Int32) (x4 : Int32) (sz : Nat) (ret : Int32) (hu : f_X10_isOne x1 x2 x3 x4 = some ret) : Met l yX10_isOne (mw yX10_isOne cX10_isOne 4 (some .boolean)) ({ frames := 1, cells := 0, slots := 0, locals := 22 } : Room) (va_Pc [.int x1, .int x2, .int x3, .int x4] (mP (dC, dI) (ts cc) sz [])) ((fun A => va_Qi (fun (r : Int32) (w : Unit) => narrow .boolean (.int r) = .int r ∧ (r = ret ∧ w = ())) (fun (w : Unit) t => va_P (dC, dI) classes [] t.heap) A) (va_A [] sz)) 0 0 (va_A [] sz) := by
  refine met_go (Qc := fun A => va_Qi (fun (r : Int32) (w : Unit) => narrow .boolean (.int r) = .int r ∧ (r = ret ∧ w = ())) (fun (w : Unit) t => va_P (dC, dI) classes [] t.heap) A) (by decide) (Nat.le_of_ble_eq_true rfl) ?_
  intro p e s m below meth c A ls H locs hC hr hlk hin hA hP hl _
  have hC : CX p m c cX10_isOne 4 s ([.int x1, .int x2, .int x3, .int x4] : List Value).toArray RX10 (dC, dI) (ts cc) := hC
  have hx := hC.1.1
  have hb := hC.1.2
  have h := hu
  have hu0 := hu
  unfold f_X10_isOne at h
  have hl : lv_has ls 4 [(0, .int x1), (1, .int x2), (2, .int x3), (3, .int x4)] := hl
  refine lv_iload_n hx hb dX10_isOne_0 rfl (lv_at hl 0 rfl) ?_
  refine lv_iconst (v := 0) hx hb dX10_isOne_1 (by decide) ?_
  refine lv_iconst (v := 3) hx hb dX10_isOne_2 (by decide) ?_
  obtain ⟨r1, hu, h⟩ := bnd_h h
  refine kc_z (kS hC (c_X10_in l dC dI cc x1 0 3 H.size r1 hu) cs_X10_90 kw912 rfl rfl ⟨(Nat.le_of_ble_eq_true rfl), (Nat.le_of_ble_eq_true rfl)⟩ hP [] rfl rfl (As := [.int x1, .int 0, .int 3]) (rest := []) rfl rfl hl.1 (Nat.le_of_ble_eq_true rfl) dX10_isOne_3 ⟨Nat.zero_le _, Nat.zero_le _⟩) hP hA [] rfl rfl (fun hz_r1 H locs hP => ?_)
  have hP : PD (dC, dI) A s.heap [] H locs := hP
  refine lv_if_eq (tgt := 43) hx hb dX10_isOne_6 (by decide) (fun c2 => ?_) (fun c2 => ?_)
  · have h := if_t c2 h
    refine lv_iconst (v := 0) hx hb dX10_isOne_43 (by decide) ?_
    exact ret_z hC hr rfl hlk hP dX10_isOne_44 () (⟨Option.some.inj h, rfl⟩) rfl
  · have h := if_f c2 h
    refine lv_iload_n hx hb dX10_isOne_9 rfl (lv_at hl 1 rfl) ?_
    refine lv_iconst (v := 0) hx hb dX10_isOne_10 (by decide) ?_
    refine lv_iconst (v := 1) hx hb dX10_isOne_11 (by decide) ?_
    obtain ⟨r3, hu, h⟩ := bnd_h h
    refine kc_z (kS hC (c_X10_in l dC dI cc x2 0 1 H.size r3 hu) cs_X10_90 kw912 rfl rfl ⟨(Nat.le_of_ble_eq_true rfl), (Nat.le_of_ble_eq_true rfl)⟩ hP [] rfl rfl (As := [.int x2, .int 0, .int 1]) (rest := []) rfl rfl hl.1 (Nat.le_of_ble_eq_true rfl) dX10_isOne_12 ⟨Nat.zero_le _, Nat.zero_le _⟩) hP hA [] rfl rfl (fun hz_r3 H locs hP => ?_)
    have hP : PD (dC, dI) A s.heap [] H locs := hP
    refine lv_if_eq (tgt := 43) hx hb dX10_isOne_15 (by decide) (fun c4 => ?_) (fun c4 => ?_)
    · have h := if_t c4 h
      refine lv_iconst (v := 0) hx hb dX10_isOne_43 (by decide) ?_
      exact ret_z hC hr rfl hlk hP dX10_isOne_44 () (⟨Option.some.inj h, rfl⟩) rfl
    · have h := if_f c4 h
      refine lv_iload_n hx hb dX10_isOne_18 rfl (lv_at hl 2 rfl) ?_
      refine lv_bipush (v := 12) hx hb dX10_isOne_19 (by decide) ?_
      refine lv_bipush (v := 72) hx hb dX10_isOne_21 (by decide) ?_
      obtain ⟨r5, hu, h⟩ := bnd_h h
      refine kc_z (kS hC (c_X10_in l dC dI cc x3 12 72 H.size r5 hu) cs_X10_90 kw912 rfl rfl ⟨(Nat.le_of_ble_eq_true rfl), (Nat.le_of_ble_eq_true rfl)⟩ hP [] rfl rfl (As := [.int x3, .int 12, .int 72]) (rest := []) rfl rfl hl.1 (Nat.le_of_ble_eq_true rfl) dX10_isOne_23 ⟨Nat.zero_le _, Nat.zero_le _⟩) hP hA [] rfl rfl (fun hz_r5 H locs hP => ?_)
      have hP : PD (dC, dI) A s.heap [] H locs := hP
      refine lv_if_eq (tgt := 43) hx hb dX10_isOne_26 (by decide) (fun c6 => ?_) (fun c6 => ?_)
      · have h := if_t c6 h
        refine lv_iconst (v := 0) hx hb dX10_isOne_43 (by decide) ?_
        exact ret_z hC hr rfl hlk hP dX10_isOne_44 () (⟨Option.some.inj h, rfl⟩) rfl
      · have h := if_f c6 h
        refine lv_iload_n hx hb dX10_isOne_29 rfl (lv_at hl 3 rfl) ?_
        refine lv_iconst (v := 1) hx hb dX10_isOne_30 (by decide) ?_
        refine lv_bipush (v := 40) hx hb dX10_isOne_31 (by decide) ?_
        obtain ⟨r7, hu, h⟩ := bnd_h h
        refine kc_z (kS hC (c_X10_in l dC dI cc x4 1 40 H.size r7 hu) cs_X10_90 kw912 rfl rfl ⟨(Nat.le_of_ble_eq_true rfl), (Nat.le_of_ble_eq_true rfl)⟩ hP [] rfl rfl (As := [.int x4, .int 1, .int 40]) (rest := []) rfl rfl hl.1 (Nat.le_of_ble_eq_true rfl) dX10_isOne_33 ⟨Nat.zero_le _, Nat.zero_le _⟩) hP hA [] rfl rfl (fun hz_r7 H locs hP => ?_)
        have hP : PD (dC, dI) A s.heap [] H locs := hP
        refine lv_if_eq (tgt := 43) hx hb dX10_isOne_36 (by decide) (fun c8 => ?_) (fun c8 => ?_)
        · have h := if_t c8 h
          refine lv_iconst (v := 0) hx hb dX10_isOne_43 (by decide) ?_
          exact ret_z hC hr rfl hlk hP dX10_isOne_44 () (⟨Option.some.inj h, rfl⟩) rfl
        · have h := if_f c8 h
          refine lv_iconst (v := 1) hx hb dX10_isOne_39 (by decide) ?_
          refine lv_goto (tgt := 44) hx hb dX10_isOne_40 (by decide) ?_
          exact ret_z hC hr rfl hlk hP dX10_isOne_44 () (⟨Option.some.inj h, rfl⟩) rfl
set_option maxHeartbeats 8000000 in
set_option maxRecDepth 100000 in
theorem c_X10_readFeetOf (l : Launch) (dC : Nat → ClassId) (dI : Nat → Nat → Nat) (cc : Nat → ClassId) (q0 q1 q2 q3 q4 q5 q6 q7 q8 q9 q10 q11 q12 q13 q14 q15 q16 q17 : Nat) (feetMany : Int32) (log_ : Int32) (block : Int32) (stocking : Int32) (acts : Int32) (keeps : Int32) (hears : Int32) (texted : Int32) (at_ : Int32) (readFeetMany : Int32) (readLog : Int32) (readBlock : Int32) (readStocking : Int32) (lefts_ : Int32) (rights_ : Int32) (text : (Nat → Int32)) (told : (Nat → Int32)) (readFeet : (Nat → Int32)) (sz : Nat) (ret : Int32) (o_at_ : Int32) (o_told : (Nat → Int32)) (o_readFeetMany : Int32) (o_readFeet : (Nat → Int32)) (hu : f_X10_readFeetOf texted at_ readFeetMany text told readFeet = some (ret, o_at_, o_told, o_readFeetMany, o_readFeet)) : Met l yX10_readFeetOf (mw yX10_readFeetOf cX10_readFeetOf 1 (some .boolean)) ({ frames := 3, cells := 0, slots := 0, locals := 64 } : Room) (va_Pc [.ref q0] (mP (dC, dI) (ts cc) sz [(q0, .inr (10, [.int feetMany, .ref q1, .int log_, .int block, .ref q2, .int stocking, .ref q3, .int acts, .ref q4, .int keeps, .ref q5, .int hears, .ref q6, .ref q7, .int texted, .int at_, .ref q8, .ref q9, .int readFeetMany, .ref q10, .int readLog, .int readBlock, .ref q11, .int readStocking, .ref q12, .int lefts_, .int rights_, .ref q13, .ref q14, .ref q15, .ref q16, .ref q17])), (q7, .inl (cc 0, 200, .inl text)), (q8, .inl (cc 0, 4, .inl told)), (q10, .inl (cc 0, 10, .inl readFeet))])) ((fun A => va_Qi (fun (r : Int32) (w : Int32 × (Nat → Int32) × Int32 × (Nat → Int32)) => narrow .boolean (.int r) = .int r ∧ (r = ret ∧ w = (o_at_, o_told, o_readFeetMany, o_readFeet))) (fun (w : Int32 × (Nat → Int32) × Int32 × (Nat → Int32)) t => va_P (dC, dI) classes [(q0, .inr (10, [.int feetMany, .ref q1, .int log_, .int block, .ref q2, .int stocking, .ref q3, .int acts, .ref q4, .int keeps, .ref q5, .int hears, .ref q6, .ref q7, .int texted, .int w.1, .ref q8, .ref q9, .int w.2.2.1, .ref q10, .int readLog, .int readBlock, .ref q11, .int readStocking, .ref q12, .int lefts_, .int rights_, .ref q13, .ref q14, .ref q15, .ref q16, .ref q17])), (q7, .inl (cc 0, 200, .inl text)), (q8, .inl (cc 0, 4, .inl w.2.1)), (q10, .inl (cc 0, 10, .inl w.2.2.2))] t.heap) A) (va_A [(q0, .inr (10, [.int feetMany, .ref q1, .int log_, .int block, .ref q2, .int stocking, .ref q3, .int acts, .ref q4, .int keeps, .ref q5, .int hears, .ref q6, .ref q7, .int texted, .int at_, .ref q8, .ref q9, .int readFeetMany, .ref q10, .int readLog, .int readBlock, .ref q11, .int readStocking, .ref q12, .int lefts_, .int rights_, .ref q13, .ref q14, .ref q15, .ref q16, .ref q17])), (q7, .inl (cc 0, 200, .inl text)), (q8, .inl (cc 0, 4, .inl told)), (q10, .inl (cc 0, 10, .inl readFeet))] sz)) 0 0 (va_A [(q0, .inr (10, [.int feetMany, .ref q1, .int log_, .int block, .ref q2, .int stocking, .ref q3, .int acts, .ref q4, .int keeps, .ref q5, .int hears, .ref q6, .ref q7, .int texted, .int at_, .ref q8, .ref q9, .int readFeetMany, .ref q10, .int readLog, .int readBlock, .ref q11, .int readStocking, .ref q12, .int lefts_, .int rights_, .ref q13, .ref q14, .ref q15, .ref q16, .ref q17])), (q7, .inl (cc 0, 200, .inl text)), (q8, .inl (cc 0, 4, .inl told)), (q10, .inl (cc 0, 10, .inl readFeet))] sz) := by
  refine met_go (Qc := fun A => va_Qi (fun (r : Int32) (w : Int32 × (Nat → Int32) × Int32 × (Nat → Int32)) => narrow .boolean (.int r) = .int r ∧ (r = ret ∧ w = (o_at_, o_told, o_readFeetMany, o_readFeet))) (fun (w : Int32 × (Nat → Int32) × Int32 × (Nat → Int32)) t => va_P (dC, dI) classes [(q0, .inr (10, [.int feetMany, .ref q1, .int log_, .int block, .ref q2, .int stocking, .ref q3, .int acts, .ref q4, .int keeps, .ref q5, .int hears, .ref q6, .ref q7, .int texted, .int w.1, .ref q8, .ref q9, .int w.2.2.1, .ref q10, .int readLog, .int readBlock, .ref q11, .int readStocking, .ref q12, .int lefts_, .int rights_, .ref q13, .ref q14, .ref q15, .ref q16, .ref q17])), (q7, .inl (cc 0, 200, .inl text)), (q8, .inl (cc 0, 4, .inl w.2.1)), (q10, .inl (cc 0, 10, .inl w.2.2.2))] t.heap) A) (by decide) (Nat.le_of_ble_eq_true rfl) ?_
  intro p e s m below meth c A ls H locs hC hr hlk hin hA hP hl _
  have hC : CX p m c cX10_readFeetOf 1 s ([.ref q0] : List Value).toArray RX10 (dC, dI) (ts cc) := hC
  have hx := hC.1.1
  have hb := hC.1.2
  have h := hu
  have hu0 := hu
  unfold f_X10_readFeetOf at h
  have hl : lv_has ls 1 [(0, .ref q0)] := hl
  refine lv_aload_n hx hb dX10_readFeetOf_0 rfl (lv_at hl 0 rfl) ?_
  refine g_get hC hP fg_X10_87 0 rfl rfl dX10_readFeetOf_1 ?_
  refine lv_iconst (v := 5) hx hb dX10_readFeetOf_4 (by decide) ?_
  refine lv_icmp_eq (tgt := 40) hx hb dX10_readFeetOf_5 (by decide) (fun c1 => ?_) (fun c1 => ?_)
  · have h := if_t c1 h
    refine lv_iconst (v := 0) hx hb dX10_readFeetOf_40 (by decide) ?_
    exact ret_z hC hr rfl hlk hP dX10_readFeetOf_41 (at_, told, readFeetMany, readFeet) (Prod.mk.inj (Option.some.inj h)) rfl
  · have h := if_f c1 h
    refine lv_aload_n hx hb dX10_readFeetOf_8 rfl (lv_at hl 0 rfl) ?_
    refine lv_iconst (v := 2) hx hb dX10_readFeetOf_9 (by decide) ?_
    obtain ⟨⟨r2, w3, w4⟩, hu, h⟩ := bnd_h h
    refine kc_z (kV hC (c_X10_readNumbers l dC dI cc q0 q1 q2 q3 q4 q5 q6 q7 q8 q9 q10 q11 q12 q13 q14 q15 q16 q17 feetMany log_ block stocking acts keeps hears texted at_ readFeetMany readLog readBlock readStocking lefts_ rights_ text told 2 H.size r2 w3 w4 hu) cv_X10_111 kw936 rfl rfl ⟨(Nat.le_of_ble_eq_true rfl), (Nat.le_of_ble_eq_true rfl)⟩ hP [0, 1, 2] rfl rfl rfl (q0 := 0) rfl (As := [.int 2]) (rest := []) rfl rfl hl.1 (Nat.le_of_ble_eq_true rfl) dX10_readFeetOf_10 ⟨Nat.zero_le _, Nat.zero_le _⟩) hP hA [0, 1, 2] rfl rfl (fun hz_r2 H locs hP => ?_)
    have hP : PD (dC, dI) A s.heap [(q0, .inr (10, [.int feetMany, .ref q1, .int log_, .int block, .ref q2, .int stocking, .ref q3, .int acts, .ref q4, .int keeps, .ref q5, .int hears, .ref q6, .ref q7, .int texted, .int w3, .ref q8, .ref q9, .int readFeetMany, .ref q10, .int readLog, .int readBlock, .ref q11, .int readStocking, .ref q12, .int lefts_, .int rights_, .ref q13, .ref q14, .ref q15, .ref q16, .ref q17])), (q7, .inl (cc 0, 200, .inl text)), (q8, .inl (cc 0, 4, .inl w4)), (q10, .inl (cc 0, 10, .inl readFeet))] H locs := hP
    refine lv_if_eq (tgt := 40) hx hb dX10_readFeetOf_13 (by decide) (fun c5 => ?_) (fun c5 => ?_)
    · have h := if_t c5 h
      refine lv_iconst (v := 0) hx hb dX10_readFeetOf_40 (by decide) ?_
      exact ret_z hC hr rfl hlk hP dX10_readFeetOf_41 (w3, w4, readFeetMany, readFeet) (Prod.mk.inj (Option.some.inj h)) rfl
    · have h := if_f c5 h
      refine lv_aload_n hx hb dX10_readFeetOf_16 rfl (lv_at hl 0 rfl) ?_
      refine lv_iconst (v := 0) hx hb dX10_readFeetOf_17 (by decide) ?_
      refine lv_bipush (v := 10) hx hb dX10_readFeetOf_18 (by decide) ?_
      refine lv_bipush (v := 72) hx hb dX10_readFeetOf_20 (by decide) ?_
      obtain ⟨r6, hu, h⟩ := bnd_h h
      refine kc_z (kV hC (c_X10_isTold l dC dI cc q0 q1 q2 q3 q4 q5 q6 q7 q8 q9 q10 q11 q12 q13 q14 q15 q16 q17 feetMany log_ block stocking acts keeps hears texted w3 readFeetMany readLog readBlock readStocking lefts_ rights_ w4 0 10 72 H.size r6 hu) cv_X10_118 kw950 rfl rfl ⟨(Nat.le_of_ble_eq_true rfl), (Nat.le_of_ble_eq_true rfl)⟩ hP [0, 2] rfl rfl rfl (q0 := 0) rfl (As := [.int 0, .int 10, .int 72]) (rest := []) rfl rfl hl.1 (Nat.le_of_ble_eq_true rfl) dX10_readFeetOf_22 ⟨Nat.zero_le _, Nat.zero_le _⟩) hP hA [0, 2] rfl rfl (fun hz_r6 H locs hP => ?_)
      have hP : PD (dC, dI) A s.heap [(q0, .inr (10, [.int feetMany, .ref q1, .int log_, .int block, .ref q2, .int stocking, .ref q3, .int acts, .ref q4, .int keeps, .ref q5, .int hears, .ref q6, .ref q7, .int texted, .int w3, .ref q8, .ref q9, .int readFeetMany, .ref q10, .int readLog, .int readBlock, .ref q11, .int readStocking, .ref q12, .int lefts_, .int rights_, .ref q13, .ref q14, .ref q15, .ref q16, .ref q17])), (q7, .inl (cc 0, 200, .inl text)), (q8, .inl (cc 0, 4, .inl w4)), (q10, .inl (cc 0, 10, .inl readFeet))] H locs := hP
      refine lv_if_eq (tgt := 40) hx hb dX10_readFeetOf_25 (by decide) (fun c7 => ?_) (fun c7 => ?_)
      · have h := if_t c7 h
        refine lv_iconst (v := 0) hx hb dX10_readFeetOf_40 (by decide) ?_
        exact ret_z hC hr rfl hlk hP dX10_readFeetOf_41 (w3, w4, readFeetMany, readFeet) (Prod.mk.inj (Option.some.inj h)) rfl
      · have h := if_f c7 h
        refine lv_aload_n hx hb dX10_readFeetOf_28 rfl (lv_at hl 0 rfl) ?_
        refine lv_iconst (v := 1) hx hb dX10_readFeetOf_29 (by decide) ?_
        refine lv_bipush (v := 10) hx hb dX10_readFeetOf_30 (by decide) ?_
        refine lv_bipush (v := 72) hx hb dX10_readFeetOf_32 (by decide) ?_
        obtain ⟨r8, hu, h⟩ := bnd_h h
        refine kc_z (kV hC (c_X10_isTold l dC dI cc q0 q1 q2 q3 q4 q5 q6 q7 q8 q9 q10 q11 q12 q13 q14 q15 q16 q17 feetMany log_ block stocking acts keeps hears texted w3 readFeetMany readLog readBlock readStocking lefts_ rights_ w4 1 10 72 H.size r8 hu) cv_X10_118 kw950 rfl rfl ⟨(Nat.le_of_ble_eq_true rfl), (Nat.le_of_ble_eq_true rfl)⟩ hP [0, 2] rfl rfl rfl (q0 := 0) rfl (As := [.int 1, .int 10, .int 72]) (rest := []) rfl rfl hl.1 (Nat.le_of_ble_eq_true rfl) dX10_readFeetOf_34 ⟨Nat.zero_le _, Nat.zero_le _⟩) hP hA [0, 2] rfl rfl (fun hz_r8 H locs hP => ?_)
        have hP : PD (dC, dI) A s.heap [(q0, .inr (10, [.int feetMany, .ref q1, .int log_, .int block, .ref q2, .int stocking, .ref q3, .int acts, .ref q4, .int keeps, .ref q5, .int hears, .ref q6, .ref q7, .int texted, .int w3, .ref q8, .ref q9, .int readFeetMany, .ref q10, .int readLog, .int readBlock, .ref q11, .int readStocking, .ref q12, .int lefts_, .int rights_, .ref q13, .ref q14, .ref q15, .ref q16, .ref q17])), (q7, .inl (cc 0, 200, .inl text)), (q8, .inl (cc 0, 4, .inl w4)), (q10, .inl (cc 0, 10, .inl readFeet))] H locs := hP
        refine lv_if_ne (tgt := 42) hx hb dX10_readFeetOf_37 (by decide) (fun c9 => ?_) (fun c9 => ?_)
        · have h := if_f c9 h
          refine lv_aload_n hx hb dX10_readFeetOf_42 rfl (lv_at hl 0 rfl) ?_
          refine lv_aload_n hx hb dX10_readFeetOf_43 rfl (lv_at hl 0 rfl) ?_
          refine g_get hC hP fg_X10_32 0 rfl rfl dX10_readFeetOf_44 ?_
          refine lv_iconst (v := 0) hx hb dX10_readFeetOf_47 (by decide) ?_
          obtain ⟨hin, h⟩ := rd_h h
          refine g_iald hC hP 2 0 rfl rfl hin dX10_readFeetOf_48 (fun v10 ev => ?_)
          have h := h v10 ev
          refine lv_aload_n hx hb dX10_readFeetOf_49 rfl (lv_at hl 0 rfl) ?_
          refine g_get hC hP fg_X10_32 0 rfl rfl dX10_readFeetOf_50 ?_
          refine lv_iconst (v := 1) hx hb dX10_readFeetOf_53 (by decide) ?_
          obtain ⟨hin, h⟩ := rd_h h
          refine g_iald hC hP 2 0 rfl rfl hin dX10_readFeetOf_54 (fun v11 ev => ?_)
          have h := h v11 ev
          obtain ⟨⟨w12, w13⟩, hu, h⟩ := bnd_h h
          refine kc_v (kV hC (c_X10_tellsFeet l dC dI cc q0 q1 q2 q3 q4 q5 q6 q7 q8 q9 q10 q11 q12 q13 q14 q15 q16 q17 feetMany log_ block stocking acts keeps hears texted w3 readFeetMany readLog readBlock readStocking lefts_ rights_ readFeet v10 v11 H.size w12 w13 hu) cv_X10_69 kw800 rfl rfl ⟨(Nat.le_of_ble_eq_true rfl), (Nat.le_of_ble_eq_true rfl)⟩ hP [0, 3] rfl rfl rfl (q0 := 0) rfl (As := [.int v10, .int v11]) (rest := []) rfl rfl hl.1 (Nat.le_of_ble_eq_true rfl) dX10_readFeetOf_55 ⟨Nat.zero_le _, Nat.zero_le _⟩) hP hA [0, 3] rfl rfl (fun H locs hP => ?_)
          have hP : PD (dC, dI) A s.heap [(q0, .inr (10, [.int feetMany, .ref q1, .int log_, .int block, .ref q2, .int stocking, .ref q3, .int acts, .ref q4, .int keeps, .ref q5, .int hears, .ref q6, .ref q7, .int texted, .int w3, .ref q8, .ref q9, .int w12, .ref q10, .int readLog, .int readBlock, .ref q11, .int readStocking, .ref q12, .int lefts_, .int rights_, .ref q13, .ref q14, .ref q15, .ref q16, .ref q17])), (q7, .inl (cc 0, 200, .inl text)), (q8, .inl (cc 0, 4, .inl w4)), (q10, .inl (cc 0, 10, .inl w13))] H locs := hP
          refine lv_iconst (v := 1) hx hb dX10_readFeetOf_58 (by decide) ?_
          exact ret_z hC hr rfl hlk hP dX10_readFeetOf_59 (w3, w4, w12, w13) (Prod.mk.inj (Option.some.inj h)) rfl
        · have h := if_t c9 h
          refine lv_iconst (v := 0) hx hb dX10_readFeetOf_40 (by decide) ?_
          exact ret_z hC hr rfl hlk hP dX10_readFeetOf_41 (w3, w4, readFeetMany, readFeet) (Prod.mk.inj (Option.some.inj h)) rfl
set_option maxHeartbeats 8000000 in
set_option maxRecDepth 100000 in
theorem c_X10_readLogOf (l : Launch) (dC : Nat → ClassId) (dI : Nat → Nat → Nat) (cc : Nat → ClassId) (q0 q1 q2 q3 q4 q5 q6 q7 q8 q9 q10 q11 q12 q13 q14 q15 q16 q17 : Nat) (feetMany : Int32) (log_ : Int32) (block : Int32) (stocking : Int32) (acts : Int32) (keeps : Int32) (hears : Int32) (texted : Int32) (at_ : Int32) (readFeetMany : Int32) (readLog : Int32) (readBlock : Int32) (readStocking : Int32) (lefts_ : Int32) (rights_ : Int32) (text : (Nat → Int32)) (told : (Nat → Int32)) (sz : Nat) (ret : Int32) (o_at_ : Int32) (o_told : (Nat → Int32)) (o_readLog : Int32) (o_readBlock : Int32) (hu : f_X10_readLogOf texted at_ readLog readBlock text told = some (ret, o_at_, o_told, o_readLog, o_readBlock)) : Met l yX10_readLogOf (mw yX10_readLogOf cX10_readLogOf 1 (some .boolean)) ({ frames := 3, cells := 0, slots := 0, locals := 64 } : Room) (va_Pc [.ref q0] (mP (dC, dI) (ts cc) sz [(q0, .inr (10, [.int feetMany, .ref q1, .int log_, .int block, .ref q2, .int stocking, .ref q3, .int acts, .ref q4, .int keeps, .ref q5, .int hears, .ref q6, .ref q7, .int texted, .int at_, .ref q8, .ref q9, .int readFeetMany, .ref q10, .int readLog, .int readBlock, .ref q11, .int readStocking, .ref q12, .int lefts_, .int rights_, .ref q13, .ref q14, .ref q15, .ref q16, .ref q17])), (q7, .inl (cc 0, 200, .inl text)), (q8, .inl (cc 0, 4, .inl told))])) ((fun A => va_Qi (fun (r : Int32) (w : Int32 × (Nat → Int32) × Int32 × Int32) => narrow .boolean (.int r) = .int r ∧ (r = ret ∧ w = (o_at_, o_told, o_readLog, o_readBlock))) (fun (w : Int32 × (Nat → Int32) × Int32 × Int32) t => va_P (dC, dI) classes [(q0, .inr (10, [.int feetMany, .ref q1, .int log_, .int block, .ref q2, .int stocking, .ref q3, .int acts, .ref q4, .int keeps, .ref q5, .int hears, .ref q6, .ref q7, .int texted, .int w.1, .ref q8, .ref q9, .int readFeetMany, .ref q10, .int w.2.2.1, .int w.2.2.2, .ref q11, .int readStocking, .ref q12, .int lefts_, .int rights_, .ref q13, .ref q14, .ref q15, .ref q16, .ref q17])), (q7, .inl (cc 0, 200, .inl text)), (q8, .inl (cc 0, 4, .inl w.2.1))] t.heap) A) (va_A [(q0, .inr (10, [.int feetMany, .ref q1, .int log_, .int block, .ref q2, .int stocking, .ref q3, .int acts, .ref q4, .int keeps, .ref q5, .int hears, .ref q6, .ref q7, .int texted, .int at_, .ref q8, .ref q9, .int readFeetMany, .ref q10, .int readLog, .int readBlock, .ref q11, .int readStocking, .ref q12, .int lefts_, .int rights_, .ref q13, .ref q14, .ref q15, .ref q16, .ref q17])), (q7, .inl (cc 0, 200, .inl text)), (q8, .inl (cc 0, 4, .inl told))] sz)) 0 0 (va_A [(q0, .inr (10, [.int feetMany, .ref q1, .int log_, .int block, .ref q2, .int stocking, .ref q3, .int acts, .ref q4, .int keeps, .ref q5, .int hears, .ref q6, .ref q7, .int texted, .int at_, .ref q8, .ref q9, .int readFeetMany, .ref q10, .int readLog, .int readBlock, .ref q11, .int readStocking, .ref q12, .int lefts_, .int rights_, .ref q13, .ref q14, .ref q15, .ref q16, .ref q17])), (q7, .inl (cc 0, 200, .inl text)), (q8, .inl (cc 0, 4, .inl told))] sz) := by
  refine met_go (Qc := fun A => va_Qi (fun (r : Int32) (w : Int32 × (Nat → Int32) × Int32 × Int32) => narrow .boolean (.int r) = .int r ∧ (r = ret ∧ w = (o_at_, o_told, o_readLog, o_readBlock))) (fun (w : Int32 × (Nat → Int32) × Int32 × Int32) t => va_P (dC, dI) classes [(q0, .inr (10, [.int feetMany, .ref q1, .int log_, .int block, .ref q2, .int stocking, .ref q3, .int acts, .ref q4, .int keeps, .ref q5, .int hears, .ref q6, .ref q7, .int texted, .int w.1, .ref q8, .ref q9, .int readFeetMany, .ref q10, .int w.2.2.1, .int w.2.2.2, .ref q11, .int readStocking, .ref q12, .int lefts_, .int rights_, .ref q13, .ref q14, .ref q15, .ref q16, .ref q17])), (q7, .inl (cc 0, 200, .inl text)), (q8, .inl (cc 0, 4, .inl w.2.1))] t.heap) A) (by decide) (Nat.le_of_ble_eq_true rfl) ?_
  intro p e s m below meth c A ls H locs hC hr hlk hin hA hP hl _
  have hC : CX p m c cX10_readLogOf 1 s ([.ref q0] : List Value).toArray RX10 (dC, dI) (ts cc) := hC
  have hx := hC.1.1
  have hb := hC.1.2
  have h := hu
  have hu0 := hu
  unfold f_X10_readLogOf at h
  have hl : lv_has ls 1 [(0, .ref q0)] := hl
  refine lv_aload_n hx hb dX10_readLogOf_0 rfl (lv_at hl 0 rfl) ?_
  refine lv_iconst (v := 2) hx hb dX10_readLogOf_1 (by decide) ?_
  obtain ⟨⟨r1, w2, w3⟩, hu, h⟩ := bnd_h h
  refine kc_z (kV hC (c_X10_readNumbers l dC dI cc q0 q1 q2 q3 q4 q5 q6 q7 q8 q9 q10 q11 q12 q13 q14 q15 q16 q17 feetMany log_ block stocking acts keeps hears texted at_ readFeetMany readLog readBlock readStocking lefts_ rights_ text told 2 H.size r1 w2 w3 hu) cv_X10_111 kw936 rfl rfl ⟨(Nat.le_of_ble_eq_true rfl), (Nat.le_of_ble_eq_true rfl)⟩ hP [0, 1, 2] rfl rfl rfl (q0 := 0) rfl (As := [.int 2]) (rest := []) rfl rfl hl.1 (Nat.le_of_ble_eq_true rfl) dX10_readLogOf_2 ⟨Nat.zero_le _, Nat.zero_le _⟩) hP hA [0, 1, 2] rfl rfl (fun hz_r1 H locs hP => ?_)
  have hP : PD (dC, dI) A s.heap [(q0, .inr (10, [.int feetMany, .ref q1, .int log_, .int block, .ref q2, .int stocking, .ref q3, .int acts, .ref q4, .int keeps, .ref q5, .int hears, .ref q6, .ref q7, .int texted, .int w2, .ref q8, .ref q9, .int readFeetMany, .ref q10, .int readLog, .int readBlock, .ref q11, .int readStocking, .ref q12, .int lefts_, .int rights_, .ref q13, .ref q14, .ref q15, .ref q16, .ref q17])), (q7, .inl (cc 0, 200, .inl text)), (q8, .inl (cc 0, 4, .inl w3))] H locs := hP
  refine lv_if_eq (tgt := 30) hx hb dX10_readLogOf_5 (by decide) (fun c4 => ?_) (fun c4 => ?_)
  · have h := if_t c4 h
    refine lv_iconst (v := 0) hx hb dX10_readLogOf_30 (by decide) ?_
    exact ret_z hC hr rfl hlk hP dX10_readLogOf_31 (w2, w3, readLog, readBlock) (Prod.mk.inj (Option.some.inj h)) rfl
  · have h := if_f c4 h
    refine lv_aload_n hx hb dX10_readLogOf_8 rfl (lv_at hl 0 rfl) ?_
    refine lv_iconst (v := 0) hx hb dX10_readLogOf_9 (by decide) ?_
    refine lv_iconst (v := 1) hx hb dX10_readLogOf_10 (by decide) ?_
    refine lv_bipush (v := 40) hx hb dX10_readLogOf_11 (by decide) ?_
    obtain ⟨r5, hu, h⟩ := bnd_h h
    refine kc_z (kV hC (c_X10_isTold l dC dI cc q0 q1 q2 q3 q4 q5 q6 q7 q8 q9 q10 q11 q12 q13 q14 q15 q16 q17 feetMany log_ block stocking acts keeps hears texted w2 readFeetMany readLog readBlock readStocking lefts_ rights_ w3 0 1 40 H.size r5 hu) cv_X10_118 kw950 rfl rfl ⟨(Nat.le_of_ble_eq_true rfl), (Nat.le_of_ble_eq_true rfl)⟩ hP [0, 2] rfl rfl rfl (q0 := 0) rfl (As := [.int 0, .int 1, .int 40]) (rest := []) rfl rfl hl.1 (Nat.le_of_ble_eq_true rfl) dX10_readLogOf_13 ⟨Nat.zero_le _, Nat.zero_le _⟩) hP hA [0, 2] rfl rfl (fun hz_r5 H locs hP => ?_)
    have hP : PD (dC, dI) A s.heap [(q0, .inr (10, [.int feetMany, .ref q1, .int log_, .int block, .ref q2, .int stocking, .ref q3, .int acts, .ref q4, .int keeps, .ref q5, .int hears, .ref q6, .ref q7, .int texted, .int w2, .ref q8, .ref q9, .int readFeetMany, .ref q10, .int readLog, .int readBlock, .ref q11, .int readStocking, .ref q12, .int lefts_, .int rights_, .ref q13, .ref q14, .ref q15, .ref q16, .ref q17])), (q7, .inl (cc 0, 200, .inl text)), (q8, .inl (cc 0, 4, .inl w3))] H locs := hP
    refine lv_if_eq (tgt := 30) hx hb dX10_readLogOf_16 (by decide) (fun c6 => ?_) (fun c6 => ?_)
    · have h := if_t c6 h
      refine lv_iconst (v := 0) hx hb dX10_readLogOf_30 (by decide) ?_
      exact ret_z hC hr rfl hlk hP dX10_readLogOf_31 (w2, w3, readLog, readBlock) (Prod.mk.inj (Option.some.inj h)) rfl
    · have h := if_f c6 h
      refine lv_aload_n hx hb dX10_readLogOf_19 rfl (lv_at hl 0 rfl) ?_
      refine lv_iconst (v := 1) hx hb dX10_readLogOf_20 (by decide) ?_
      refine lv_iconst (v := 2) hx hb dX10_readLogOf_21 (by decide) ?_
      refine lv_bipush (v := 9) hx hb dX10_readLogOf_22 (by decide) ?_
      obtain ⟨r7, hu, h⟩ := bnd_h h
      refine kc_z (kV hC (c_X10_isTold l dC dI cc q0 q1 q2 q3 q4 q5 q6 q7 q8 q9 q10 q11 q12 q13 q14 q15 q16 q17 feetMany log_ block stocking acts keeps hears texted w2 readFeetMany readLog readBlock readStocking lefts_ rights_ w3 1 2 9 H.size r7 hu) cv_X10_118 kw950 rfl rfl ⟨(Nat.le_of_ble_eq_true rfl), (Nat.le_of_ble_eq_true rfl)⟩ hP [0, 2] rfl rfl rfl (q0 := 0) rfl (As := [.int 1, .int 2, .int 9]) (rest := []) rfl rfl hl.1 (Nat.le_of_ble_eq_true rfl) dX10_readLogOf_24 ⟨Nat.zero_le _, Nat.zero_le _⟩) hP hA [0, 2] rfl rfl (fun hz_r7 H locs hP => ?_)
      have hP : PD (dC, dI) A s.heap [(q0, .inr (10, [.int feetMany, .ref q1, .int log_, .int block, .ref q2, .int stocking, .ref q3, .int acts, .ref q4, .int keeps, .ref q5, .int hears, .ref q6, .ref q7, .int texted, .int w2, .ref q8, .ref q9, .int readFeetMany, .ref q10, .int readLog, .int readBlock, .ref q11, .int readStocking, .ref q12, .int lefts_, .int rights_, .ref q13, .ref q14, .ref q15, .ref q16, .ref q17])), (q7, .inl (cc 0, 200, .inl text)), (q8, .inl (cc 0, 4, .inl w3))] H locs := hP
      refine lv_if_ne (tgt := 32) hx hb dX10_readLogOf_27 (by decide) (fun c8 => ?_) (fun c8 => ?_)
      · have h := if_f c8 h
        refine lv_aload_n hx hb dX10_readLogOf_32 rfl (lv_at hl 0 rfl) ?_
        refine lv_aload_n hx hb dX10_readLogOf_33 rfl (lv_at hl 0 rfl) ?_
        refine g_get hC hP fg_X10_32 0 rfl rfl dX10_readLogOf_34 ?_
        refine lv_iconst (v := 0) hx hb dX10_readLogOf_37 (by decide) ?_
        obtain ⟨hin, h⟩ := rd_h h
        refine g_iald hC hP 2 0 rfl rfl hin dX10_readLogOf_38 (fun v9 ev => ?_)
        have h := h v9 ev
        refine g_put hC hP fg_X10_73 0 rfl rfl rfl (Nat.le_of_ble_eq_true rfl) dX10_readLogOf_39 (fun H locs hP => ?_)
        have hP : PD (dC, dI) A s.heap [(q0, .inr (10, [.int feetMany, .ref q1, .int log_, .int block, .ref q2, .int stocking, .ref q3, .int acts, .ref q4, .int keeps, .ref q5, .int hears, .ref q6, .ref q7, .int texted, .int w2, .ref q8, .ref q9, .int readFeetMany, .ref q10, .int v9, .int readBlock, .ref q11, .int readStocking, .ref q12, .int lefts_, .int rights_, .ref q13, .ref q14, .ref q15, .ref q16, .ref q17])), (q7, .inl (cc 0, 200, .inl text)), (q8, .inl (cc 0, 4, .inl w3))] H locs := hP
        refine lv_aload_n hx hb dX10_readLogOf_42 rfl (lv_at hl 0 rfl) ?_
        refine lv_aload_n hx hb dX10_readLogOf_43 rfl (lv_at hl 0 rfl) ?_
        refine g_get hC hP fg_X10_32 0 rfl rfl dX10_readLogOf_44 ?_
        refine lv_iconst (v := 1) hx hb dX10_readLogOf_47 (by decide) ?_
        obtain ⟨hin, h⟩ := rd_h h
        refine g_iald hC hP 2 0 rfl rfl hin dX10_readLogOf_48 (fun v10 ev => ?_)
        have h := h v10 ev
        refine g_put hC hP fg_X10_77 0 rfl rfl rfl (Nat.le_of_ble_eq_true rfl) dX10_readLogOf_49 (fun H locs hP => ?_)
        have hP : PD (dC, dI) A s.heap [(q0, .inr (10, [.int feetMany, .ref q1, .int log_, .int block, .ref q2, .int stocking, .ref q3, .int acts, .ref q4, .int keeps, .ref q5, .int hears, .ref q6, .ref q7, .int texted, .int w2, .ref q8, .ref q9, .int readFeetMany, .ref q10, .int v9, .int v10, .ref q11, .int readStocking, .ref q12, .int lefts_, .int rights_, .ref q13, .ref q14, .ref q15, .ref q16, .ref q17])), (q7, .inl (cc 0, 200, .inl text)), (q8, .inl (cc 0, 4, .inl w3))] H locs := hP
        refine lv_iconst (v := 1) hx hb dX10_readLogOf_52 (by decide) ?_
        exact ret_z hC hr rfl hlk hP dX10_readLogOf_53 (w2, w3, v9, v10) (Prod.mk.inj (Option.some.inj h)) rfl
      · have h := if_t c8 h
        refine lv_iconst (v := 0) hx hb dX10_readLogOf_30 (by decide) ?_
        exact ret_z hC hr rfl hlk hP dX10_readLogOf_31 (w2, w3, readLog, readBlock) (Prod.mk.inj (Option.some.inj h)) rfl
set_option maxHeartbeats 8000000 in
set_option maxRecDepth 100000 in
theorem c_X10_readKnotOf (l : Launch) (dC : Nat → ClassId) (dI : Nat → Nat → Nat) (cc : Nat → ClassId) (q0 q1 q2 q3 q4 q5 q6 q7 q8 q9 q10 q11 q12 q13 q14 q15 q16 q17 : Nat) (feetMany : Int32) (log_ : Int32) (block : Int32) (stocking : Int32) (acts : Int32) (keeps : Int32) (hears : Int32) (texted : Int32) (at_ : Int32) (readFeetMany : Int32) (readLog : Int32) (readBlock : Int32) (readStocking : Int32) (lefts_ : Int32) (rights_ : Int32) (text : (Nat → Int32)) (told : (Nat → Int32)) (readKnot : (Nat → Int32)) (sz : Nat) (ret : Int32) (o_at_ : Int32) (o_told : (Nat → Int32)) (o_readKnot : (Nat → Int32)) (hu : f_X10_readKnotOf texted at_ text told readKnot = some (ret, o_at_, o_told, o_readKnot)) : Met l yX10_readKnotOf (mw yX10_readKnotOf cX10_readKnotOf 1 (some .boolean)) ({ frames := 3, cells := 0, slots := 0, locals := 64 } : Room) (va_Pc [.ref q0] (mP (dC, dI) (ts cc) sz [(q0, .inr (10, [.int feetMany, .ref q1, .int log_, .int block, .ref q2, .int stocking, .ref q3, .int acts, .ref q4, .int keeps, .ref q5, .int hears, .ref q6, .ref q7, .int texted, .int at_, .ref q8, .ref q9, .int readFeetMany, .ref q10, .int readLog, .int readBlock, .ref q11, .int readStocking, .ref q12, .int lefts_, .int rights_, .ref q13, .ref q14, .ref q15, .ref q16, .ref q17])), (q7, .inl (cc 0, 200, .inl text)), (q8, .inl (cc 0, 4, .inl told)), (q11, .inl (cc 2, 40, .inl readKnot))])) ((fun A => va_Qi (fun (r : Int32) (w : Int32 × (Nat → Int32) × (Nat → Int32)) => narrow .boolean (.int r) = .int r ∧ (r = ret ∧ w = (o_at_, o_told, o_readKnot))) (fun (w : Int32 × (Nat → Int32) × (Nat → Int32)) t => va_P (dC, dI) classes [(q0, .inr (10, [.int feetMany, .ref q1, .int log_, .int block, .ref q2, .int stocking, .ref q3, .int acts, .ref q4, .int keeps, .ref q5, .int hears, .ref q6, .ref q7, .int texted, .int w.1, .ref q8, .ref q9, .int readFeetMany, .ref q10, .int readLog, .int readBlock, .ref q11, .int readStocking, .ref q12, .int lefts_, .int rights_, .ref q13, .ref q14, .ref q15, .ref q16, .ref q17])), (q7, .inl (cc 0, 200, .inl text)), (q8, .inl (cc 0, 4, .inl w.2.1)), (q11, .inl (cc 2, 40, .inl w.2.2))] t.heap) A) (va_A [(q0, .inr (10, [.int feetMany, .ref q1, .int log_, .int block, .ref q2, .int stocking, .ref q3, .int acts, .ref q4, .int keeps, .ref q5, .int hears, .ref q6, .ref q7, .int texted, .int at_, .ref q8, .ref q9, .int readFeetMany, .ref q10, .int readLog, .int readBlock, .ref q11, .int readStocking, .ref q12, .int lefts_, .int rights_, .ref q13, .ref q14, .ref q15, .ref q16, .ref q17])), (q7, .inl (cc 0, 200, .inl text)), (q8, .inl (cc 0, 4, .inl told)), (q11, .inl (cc 2, 40, .inl readKnot))] sz)) 0 0 (va_A [(q0, .inr (10, [.int feetMany, .ref q1, .int log_, .int block, .ref q2, .int stocking, .ref q3, .int acts, .ref q4, .int keeps, .ref q5, .int hears, .ref q6, .ref q7, .int texted, .int at_, .ref q8, .ref q9, .int readFeetMany, .ref q10, .int readLog, .int readBlock, .ref q11, .int readStocking, .ref q12, .int lefts_, .int rights_, .ref q13, .ref q14, .ref q15, .ref q16, .ref q17])), (q7, .inl (cc 0, 200, .inl text)), (q8, .inl (cc 0, 4, .inl told)), (q11, .inl (cc 2, 40, .inl readKnot))] sz) := by
  refine met_go (Qc := fun A => va_Qi (fun (r : Int32) (w : Int32 × (Nat → Int32) × (Nat → Int32)) => narrow .boolean (.int r) = .int r ∧ (r = ret ∧ w = (o_at_, o_told, o_readKnot))) (fun (w : Int32 × (Nat → Int32) × (Nat → Int32)) t => va_P (dC, dI) classes [(q0, .inr (10, [.int feetMany, .ref q1, .int log_, .int block, .ref q2, .int stocking, .ref q3, .int acts, .ref q4, .int keeps, .ref q5, .int hears, .ref q6, .ref q7, .int texted, .int w.1, .ref q8, .ref q9, .int readFeetMany, .ref q10, .int readLog, .int readBlock, .ref q11, .int readStocking, .ref q12, .int lefts_, .int rights_, .ref q13, .ref q14, .ref q15, .ref q16, .ref q17])), (q7, .inl (cc 0, 200, .inl text)), (q8, .inl (cc 0, 4, .inl w.2.1)), (q11, .inl (cc 2, 40, .inl w.2.2))] t.heap) A) (by decide) (Nat.le_of_ble_eq_true rfl) ?_
  intro p e s m below meth c A ls H locs hC hr hlk hin hA hP hl _
  have hC : CX p m c cX10_readKnotOf 1 s ([.ref q0] : List Value).toArray RX10 (dC, dI) (ts cc) := hC
  have hx := hC.1.1
  have hb := hC.1.2
  have h := hu
  have hu0 := hu
  unfold f_X10_readKnotOf at h
  have hl : lv_has ls 1 [(0, .ref q0)] := hl
  refine lv_aload_n hx hb dX10_readKnotOf_0 rfl (lv_at hl 0 rfl) ?_
  refine lv_iconst (v := 1) hx hb dX10_readKnotOf_1 (by decide) ?_
  obtain ⟨⟨r1, w2, w3⟩, hu, h⟩ := bnd_h h
  refine kc_z (kV hC (c_X10_readNumbers l dC dI cc q0 q1 q2 q3 q4 q5 q6 q7 q8 q9 q10 q11 q12 q13 q14 q15 q16 q17 feetMany log_ block stocking acts keeps hears texted at_ readFeetMany readLog readBlock readStocking lefts_ rights_ text told 1 H.size r1 w2 w3 hu) cv_X10_111 kw936 rfl rfl ⟨(Nat.le_of_ble_eq_true rfl), (Nat.le_of_ble_eq_true rfl)⟩ hP [0, 1, 2] rfl rfl rfl (q0 := 0) rfl (As := [.int 1]) (rest := []) rfl rfl hl.1 (Nat.le_of_ble_eq_true rfl) dX10_readKnotOf_2 ⟨Nat.zero_le _, Nat.zero_le _⟩) hP hA [0, 1, 2] rfl rfl (fun hz_r1 H locs hP => ?_)
  have hP : PD (dC, dI) A s.heap [(q0, .inr (10, [.int feetMany, .ref q1, .int log_, .int block, .ref q2, .int stocking, .ref q3, .int acts, .ref q4, .int keeps, .ref q5, .int hears, .ref q6, .ref q7, .int texted, .int w2, .ref q8, .ref q9, .int readFeetMany, .ref q10, .int readLog, .int readBlock, .ref q11, .int readStocking, .ref q12, .int lefts_, .int rights_, .ref q13, .ref q14, .ref q15, .ref q16, .ref q17])), (q7, .inl (cc 0, 200, .inl text)), (q8, .inl (cc 0, 4, .inl w3)), (q11, .inl (cc 2, 40, .inl readKnot))] H locs := hP
  refine lv_if_eq (tgt := 19) hx hb dX10_readKnotOf_5 (by decide) (fun c4 => ?_) (fun c4 => ?_)
  · have h := if_t c4 h
    refine lv_iconst (v := 0) hx hb dX10_readKnotOf_19 (by decide) ?_
    exact ret_z hC hr rfl hlk hP dX10_readKnotOf_20 (w2, w3, readKnot) (Prod.mk.inj (Option.some.inj h)) rfl
  · have h := if_f c4 h
    refine lv_aload_n hx hb dX10_readKnotOf_8 rfl (lv_at hl 0 rfl) ?_
    refine lv_iconst (v := 0) hx hb dX10_readKnotOf_9 (by decide) ?_
    refine lv_iconst (v := 0) hx hb dX10_readKnotOf_10 (by decide) ?_
    refine lv_bipush (v := 39) hx hb dX10_readKnotOf_11 (by decide) ?_
    obtain ⟨r5, hu, h⟩ := bnd_h h
    refine kc_z (kV hC (c_X10_isTold l dC dI cc q0 q1 q2 q3 q4 q5 q6 q7 q8 q9 q10 q11 q12 q13 q14 q15 q16 q17 feetMany log_ block stocking acts keeps hears texted w2 readFeetMany readLog readBlock readStocking lefts_ rights_ w3 0 0 39 H.size r5 hu) cv_X10_118 kw950 rfl rfl ⟨(Nat.le_of_ble_eq_true rfl), (Nat.le_of_ble_eq_true rfl)⟩ hP [0, 2] rfl rfl rfl (q0 := 0) rfl (As := [.int 0, .int 0, .int 39]) (rest := []) rfl rfl hl.1 (Nat.le_of_ble_eq_true rfl) dX10_readKnotOf_13 ⟨Nat.zero_le _, Nat.zero_le _⟩) hP hA [0, 2] rfl rfl (fun hz_r5 H locs hP => ?_)
    have hP : PD (dC, dI) A s.heap [(q0, .inr (10, [.int feetMany, .ref q1, .int log_, .int block, .ref q2, .int stocking, .ref q3, .int acts, .ref q4, .int keeps, .ref q5, .int hears, .ref q6, .ref q7, .int texted, .int w2, .ref q8, .ref q9, .int readFeetMany, .ref q10, .int readLog, .int readBlock, .ref q11, .int readStocking, .ref q12, .int lefts_, .int rights_, .ref q13, .ref q14, .ref q15, .ref q16, .ref q17])), (q7, .inl (cc 0, 200, .inl text)), (q8, .inl (cc 0, 4, .inl w3)), (q11, .inl (cc 2, 40, .inl readKnot))] H locs := hP
    refine lv_if_ne (tgt := 21) hx hb dX10_readKnotOf_16 (by decide) (fun c6 => ?_) (fun c6 => ?_)
    · have h := if_f c6 h
      refine lv_aload_n hx hb dX10_readKnotOf_21 rfl (lv_at hl 0 rfl) ?_
      refine g_get hC hP fg_X10_41 0 rfl rfl dX10_readKnotOf_22 ?_
      refine lv_aload_n hx hb dX10_readKnotOf_25 rfl (lv_at hl 0 rfl) ?_
      refine g_get hC hP fg_X10_32 0 rfl rfl dX10_readKnotOf_26 ?_
      refine lv_iconst (v := 0) hx hb dX10_readKnotOf_29 (by decide) ?_
      obtain ⟨hin, h⟩ := rd_h h
      refine g_iald hC hP 2 0 rfl rfl hin dX10_readKnotOf_30 (fun v7 ev => ?_)
      have h := h v7 ev
      refine lv_iconst (v := 1) hx hb dX10_readKnotOf_31 (by decide) ?_
      obtain ⟨hin, h⟩ := wr_h h
      refine g_zast hC hP 3 2 rfl rfl hin dX10_readKnotOf_32 (fun a8 ev H locs hP => ?_)
      have hP : PD (dC, dI) A s.heap [(q0, .inr (10, [.int feetMany, .ref q1, .int log_, .int block, .ref q2, .int stocking, .ref q3, .int acts, .ref q4, .int keeps, .ref q5, .int hears, .ref q6, .ref q7, .int texted, .int w2, .ref q8, .ref q9, .int readFeetMany, .ref q10, .int readLog, .int readBlock, .ref q11, .int readStocking, .ref q12, .int lefts_, .int rights_, .ref q13, .ref q14, .ref q15, .ref q16, .ref q17])), (q7, .inl (cc 0, 200, .inl text)), (q8, .inl (cc 0, 4, .inl w3)), (q11, .inl (cc 2, 40, .inl a8))] H locs := hP
      have h := h a8 ev
      refine lv_iconst (v := 1) hx hb dX10_readKnotOf_33 (by decide) ?_
      exact ret_z hC hr rfl hlk hP dX10_readKnotOf_34 (w2, w3, a8) (Prod.mk.inj (Option.some.inj h)) rfl
    · have h := if_t c6 h
      refine lv_iconst (v := 0) hx hb dX10_readKnotOf_19 (by decide) ?_
      exact ret_z hC hr rfl hlk hP dX10_readKnotOf_20 (w2, w3, readKnot) (Prod.mk.inj (Option.some.inj h)) rfl
set_option maxHeartbeats 8000000 in
set_option maxRecDepth 100000 in
theorem c_X10_readStockingOf (l : Launch) (dC : Nat → ClassId) (dI : Nat → Nat → Nat) (cc : Nat → ClassId) (q0 q1 q2 q3 q4 q5 q6 q7 q8 q9 q10 q11 q12 q13 q14 q15 q16 q17 : Nat) (feetMany : Int32) (log_ : Int32) (block : Int32) (stocking : Int32) (acts : Int32) (keeps : Int32) (hears : Int32) (texted : Int32) (at_ : Int32) (readFeetMany : Int32) (readLog : Int32) (readBlock : Int32) (readStocking : Int32) (lefts_ : Int32) (rights_ : Int32) (text : (Nat → Int32)) (told : (Nat → Int32)) (sz : Nat) (ret : Int32) (o_at_ : Int32) (o_told : (Nat → Int32)) (o_readStocking : Int32) (hu : f_X10_readStockingOf texted at_ readStocking text told = some (ret, o_at_, o_told, o_readStocking)) : Met l yX10_readStockingOf (mw yX10_readStockingOf cX10_readStockingOf 1 (some .boolean)) ({ frames := 3, cells := 0, slots := 0, locals := 64 } : Room) (va_Pc [.ref q0] (mP (dC, dI) (ts cc) sz [(q0, .inr (10, [.int feetMany, .ref q1, .int log_, .int block, .ref q2, .int stocking, .ref q3, .int acts, .ref q4, .int keeps, .ref q5, .int hears, .ref q6, .ref q7, .int texted, .int at_, .ref q8, .ref q9, .int readFeetMany, .ref q10, .int readLog, .int readBlock, .ref q11, .int readStocking, .ref q12, .int lefts_, .int rights_, .ref q13, .ref q14, .ref q15, .ref q16, .ref q17])), (q7, .inl (cc 0, 200, .inl text)), (q8, .inl (cc 0, 4, .inl told))])) ((fun A => va_Qi (fun (r : Int32) (w : Int32 × (Nat → Int32) × Int32) => narrow .boolean (.int r) = .int r ∧ (r = ret ∧ w = (o_at_, o_told, o_readStocking))) (fun (w : Int32 × (Nat → Int32) × Int32) t => va_P (dC, dI) classes [(q0, .inr (10, [.int feetMany, .ref q1, .int log_, .int block, .ref q2, .int stocking, .ref q3, .int acts, .ref q4, .int keeps, .ref q5, .int hears, .ref q6, .ref q7, .int texted, .int w.1, .ref q8, .ref q9, .int readFeetMany, .ref q10, .int readLog, .int readBlock, .ref q11, .int w.2.2, .ref q12, .int lefts_, .int rights_, .ref q13, .ref q14, .ref q15, .ref q16, .ref q17])), (q7, .inl (cc 0, 200, .inl text)), (q8, .inl (cc 0, 4, .inl w.2.1))] t.heap) A) (va_A [(q0, .inr (10, [.int feetMany, .ref q1, .int log_, .int block, .ref q2, .int stocking, .ref q3, .int acts, .ref q4, .int keeps, .ref q5, .int hears, .ref q6, .ref q7, .int texted, .int at_, .ref q8, .ref q9, .int readFeetMany, .ref q10, .int readLog, .int readBlock, .ref q11, .int readStocking, .ref q12, .int lefts_, .int rights_, .ref q13, .ref q14, .ref q15, .ref q16, .ref q17])), (q7, .inl (cc 0, 200, .inl text)), (q8, .inl (cc 0, 4, .inl told))] sz)) 0 0 (va_A [(q0, .inr (10, [.int feetMany, .ref q1, .int log_, .int block, .ref q2, .int stocking, .ref q3, .int acts, .ref q4, .int keeps, .ref q5, .int hears, .ref q6, .ref q7, .int texted, .int at_, .ref q8, .ref q9, .int readFeetMany, .ref q10, .int readLog, .int readBlock, .ref q11, .int readStocking, .ref q12, .int lefts_, .int rights_, .ref q13, .ref q14, .ref q15, .ref q16, .ref q17])), (q7, .inl (cc 0, 200, .inl text)), (q8, .inl (cc 0, 4, .inl told))] sz) := by
  refine met_go (Qc := fun A => va_Qi (fun (r : Int32) (w : Int32 × (Nat → Int32) × Int32) => narrow .boolean (.int r) = .int r ∧ (r = ret ∧ w = (o_at_, o_told, o_readStocking))) (fun (w : Int32 × (Nat → Int32) × Int32) t => va_P (dC, dI) classes [(q0, .inr (10, [.int feetMany, .ref q1, .int log_, .int block, .ref q2, .int stocking, .ref q3, .int acts, .ref q4, .int keeps, .ref q5, .int hears, .ref q6, .ref q7, .int texted, .int w.1, .ref q8, .ref q9, .int readFeetMany, .ref q10, .int readLog, .int readBlock, .ref q11, .int w.2.2, .ref q12, .int lefts_, .int rights_, .ref q13, .ref q14, .ref q15, .ref q16, .ref q17])), (q7, .inl (cc 0, 200, .inl text)), (q8, .inl (cc 0, 4, .inl w.2.1))] t.heap) A) (by decide) (Nat.le_of_ble_eq_true rfl) ?_
  intro p e s m below meth c A ls H locs hC hr hlk hin hA hP hl _
  have hC : CX p m c cX10_readStockingOf 1 s ([.ref q0] : List Value).toArray RX10 (dC, dI) (ts cc) := hC
  have hx := hC.1.1
  have hb := hC.1.2
  have h := hu
  have hu0 := hu
  unfold f_X10_readStockingOf at h
  have hl : lv_has ls 1 [(0, .ref q0)] := hl
  refine lv_aload_n hx hb dX10_readStockingOf_0 rfl (lv_at hl 0 rfl) ?_
  refine lv_iconst (v := 1) hx hb dX10_readStockingOf_1 (by decide) ?_
  obtain ⟨⟨r1, w2, w3⟩, hu, h⟩ := bnd_h h
  refine kc_z (kV hC (c_X10_readNumbers l dC dI cc q0 q1 q2 q3 q4 q5 q6 q7 q8 q9 q10 q11 q12 q13 q14 q15 q16 q17 feetMany log_ block stocking acts keeps hears texted at_ readFeetMany readLog readBlock readStocking lefts_ rights_ text told 1 H.size r1 w2 w3 hu) cv_X10_111 kw936 rfl rfl ⟨(Nat.le_of_ble_eq_true rfl), (Nat.le_of_ble_eq_true rfl)⟩ hP [0, 1, 2] rfl rfl rfl (q0 := 0) rfl (As := [.int 1]) (rest := []) rfl rfl hl.1 (Nat.le_of_ble_eq_true rfl) dX10_readStockingOf_2 ⟨Nat.zero_le _, Nat.zero_le _⟩) hP hA [0, 1, 2] rfl rfl (fun hz_r1 H locs hP => ?_)
  have hP : PD (dC, dI) A s.heap [(q0, .inr (10, [.int feetMany, .ref q1, .int log_, .int block, .ref q2, .int stocking, .ref q3, .int acts, .ref q4, .int keeps, .ref q5, .int hears, .ref q6, .ref q7, .int texted, .int w2, .ref q8, .ref q9, .int readFeetMany, .ref q10, .int readLog, .int readBlock, .ref q11, .int readStocking, .ref q12, .int lefts_, .int rights_, .ref q13, .ref q14, .ref q15, .ref q16, .ref q17])), (q7, .inl (cc 0, 200, .inl text)), (q8, .inl (cc 0, 4, .inl w3))] H locs := hP
  refine lv_if_eq (tgt := 19) hx hb dX10_readStockingOf_5 (by decide) (fun c4 => ?_) (fun c4 => ?_)
  · have h := if_t c4 h
    refine lv_iconst (v := 0) hx hb dX10_readStockingOf_19 (by decide) ?_
    exact ret_z hC hr rfl hlk hP dX10_readStockingOf_20 (w2, w3, readStocking) (Prod.mk.inj (Option.some.inj h)) rfl
  · have h := if_f c4 h
    refine lv_aload_n hx hb dX10_readStockingOf_8 rfl (lv_at hl 0 rfl) ?_
    refine lv_iconst (v := 0) hx hb dX10_readStockingOf_9 (by decide) ?_
    refine lv_iconst (v := 0) hx hb dX10_readStockingOf_10 (by decide) ?_
    refine lv_bipush (v := 6) hx hb dX10_readStockingOf_11 (by decide) ?_
    obtain ⟨r5, hu, h⟩ := bnd_h h
    refine kc_z (kV hC (c_X10_isTold l dC dI cc q0 q1 q2 q3 q4 q5 q6 q7 q8 q9 q10 q11 q12 q13 q14 q15 q16 q17 feetMany log_ block stocking acts keeps hears texted w2 readFeetMany readLog readBlock readStocking lefts_ rights_ w3 0 0 6 H.size r5 hu) cv_X10_118 kw950 rfl rfl ⟨(Nat.le_of_ble_eq_true rfl), (Nat.le_of_ble_eq_true rfl)⟩ hP [0, 2] rfl rfl rfl (q0 := 0) rfl (As := [.int 0, .int 0, .int 6]) (rest := []) rfl rfl hl.1 (Nat.le_of_ble_eq_true rfl) dX10_readStockingOf_13 ⟨Nat.zero_le _, Nat.zero_le _⟩) hP hA [0, 2] rfl rfl (fun hz_r5 H locs hP => ?_)
    have hP : PD (dC, dI) A s.heap [(q0, .inr (10, [.int feetMany, .ref q1, .int log_, .int block, .ref q2, .int stocking, .ref q3, .int acts, .ref q4, .int keeps, .ref q5, .int hears, .ref q6, .ref q7, .int texted, .int w2, .ref q8, .ref q9, .int readFeetMany, .ref q10, .int readLog, .int readBlock, .ref q11, .int readStocking, .ref q12, .int lefts_, .int rights_, .ref q13, .ref q14, .ref q15, .ref q16, .ref q17])), (q7, .inl (cc 0, 200, .inl text)), (q8, .inl (cc 0, 4, .inl w3))] H locs := hP
    refine lv_if_ne (tgt := 21) hx hb dX10_readStockingOf_16 (by decide) (fun c6 => ?_) (fun c6 => ?_)
    · have h := if_f c6 h
      refine lv_aload_n hx hb dX10_readStockingOf_21 rfl (lv_at hl 0 rfl) ?_
      refine lv_aload_n hx hb dX10_readStockingOf_22 rfl (lv_at hl 0 rfl) ?_
      refine g_get hC hP fg_X10_32 0 rfl rfl dX10_readStockingOf_23 ?_
      refine lv_iconst (v := 0) hx hb dX10_readStockingOf_26 (by decide) ?_
      obtain ⟨hin, h⟩ := rd_h h
      refine g_iald hC hP 2 0 rfl rfl hin dX10_readStockingOf_27 (fun v7 ev => ?_)
      have h := h v7 ev
      refine g_put hC hP fg_X10_108 0 rfl rfl rfl (Nat.le_of_ble_eq_true rfl) dX10_readStockingOf_28 (fun H locs hP => ?_)
      have hP : PD (dC, dI) A s.heap [(q0, .inr (10, [.int feetMany, .ref q1, .int log_, .int block, .ref q2, .int stocking, .ref q3, .int acts, .ref q4, .int keeps, .ref q5, .int hears, .ref q6, .ref q7, .int texted, .int w2, .ref q8, .ref q9, .int readFeetMany, .ref q10, .int readLog, .int readBlock, .ref q11, .int v7, .ref q12, .int lefts_, .int rights_, .ref q13, .ref q14, .ref q15, .ref q16, .ref q17])), (q7, .inl (cc 0, 200, .inl text)), (q8, .inl (cc 0, 4, .inl w3))] H locs := hP
      refine lv_iconst (v := 1) hx hb dX10_readStockingOf_31 (by decide) ?_
      exact ret_z hC hr rfl hlk hP dX10_readStockingOf_32 (w2, w3, v7) (Prod.mk.inj (Option.some.inj h)) rfl
    · have h := if_t c6 h
      refine lv_iconst (v := 0) hx hb dX10_readStockingOf_19 (by decide) ?_
      exact ret_z hC hr rfl hlk hP dX10_readStockingOf_20 (w2, w3, readStocking) (Prod.mk.inj (Option.some.inj h)) rfl
set_option maxHeartbeats 8000000 in
set_option maxRecDepth 100000 in
theorem c_X10_copies (l : Launch) (dC : Nat → ClassId) (dI : Nat → Nat → Nat) (cc : Nat → ClassId) (q0 q1 : Nat) (n1 : Nat) (n3 : Nat) (f1 : (Nat → Int32)) (f3 : (Nat → Int32)) (x2 : Int32) (x4 : Int32) (x5 : Int32) (sz : Nat) (o_f1 : (Nat → Int32)) (hu : f_X10_copies x2 x4 x5 n1 n3 f1 f3 = some o_f1) : Met l yX10_copies (mw yX10_copies cX10_copies 6 none) ({ frames := 0, cells := 0, slots := 0, locals := 0 } : Room) (va_Pc [.ref q0, .int x2, .ref q1, .int x4, .int x5] (mP (dC, dI) (ts cc) sz [(q0, .inl (cc 0, n1, .inl f1)), (q1, .inl (cc 0, n3, .inl f3))])) ((fun A => va_Qv (fun (w : (Nat → Int32)) => w = o_f1) (fun (w : (Nat → Int32)) t => va_P (dC, dI) classes [(q0, .inl (cc 0, n1, .inl w)), (q1, .inl (cc 0, n3, .inl f3))] t.heap) A) (va_A [(q0, .inl (cc 0, n1, .inl f1)), (q1, .inl (cc 0, n3, .inl f3))] sz)) 0 0 (va_A [(q0, .inl (cc 0, n1, .inl f1)), (q1, .inl (cc 0, n3, .inl f3))] sz) := by
  refine met_go (Qc := fun A => va_Qv (fun (w : (Nat → Int32)) => w = o_f1) (fun (w : (Nat → Int32)) t => va_P (dC, dI) classes [(q0, .inl (cc 0, n1, .inl w)), (q1, .inl (cc 0, n3, .inl f3))] t.heap) A) (by decide) (Nat.le_of_ble_eq_true rfl) ?_
  intro p e s m below meth c A ls H locs hC hr hlk hin hA hP hl _
  have hC : CX p m c cX10_copies 6 s ([.ref q0, .int x2, .ref q1, .int x4, .int x5] : List Value).toArray RX10 (dC, dI) (ts cc) := hC
  have hx := hC.1.1
  have hb := hC.1.2
  have h := hu
  have hu0 := hu
  unfold f_X10_copies at h
  have hl : lv_has ls 6 [(0, .ref q0), (1, .int x2), (2, .ref q1), (3, .int x4), (4, .int x5)] := hl
  refine W_abs (fun Z eZ => ?_)
  refine lv_iconst (v := 0) hx hb dX10_copies_0 (by decide) ?_
  refine lv_istore (lv' := [(5, .int 0), (0, .ref q0), (1, .int x2), (2, .ref q1), (3, .int x4), (4, .int x5)]) hx hb dX10_copies_1 hl (by decide) rfl (fun ls hl => ?_)
  obtain ⟨⟨j1x, w2x⟩, hlp, h⟩ := bnd_h h
  have L1 : ∀ (n : Nat) (j1 : Int32) (w2 : (Nat → Int32)) (j1x : Int32) (w2x : (Nat → Int32)), lp (u2 (b_X10_copies_1 f3 n1 n3 x2 x4 x5)) n (j1, w2) = some (j1x, w2x) → ∀ (H : Heap) (locs : List Loc) (ls : Array Slot), PD (dC, dI) A s.heap [(q0, .inl (cc 0, n1, .inl w2)), (q1, .inl (cc 0, n3, .inl f3))] H locs → lv_has ls 6 [(0, .ref q0), (1, .int x2), (2, .ref q1), (3, .int x4), (4, .int x5), (5, .int j1)] → (∀ (H : Heap) (locs : List Loc) (ls : Array Slot), PD (dC, dI) A s.heap [(q0, .inl (cc 0, n1, .inl w2x)), (q1, .inl (cc 0, n3, .inl f3))] H locs → lv_has ls 6 [(0, .ref q0), (1, .int x2), (2, .ref q1), (3, .int x4), (4, .int x5), (5, .int j1x)] → W p l e ({ frames := 0, cells := 0, slots := 0, locals := 0 } : Room) s m ([.ref q0, .int x2, .ref q1, .int x4, .int x5] : List Value).toArray below meth c H locs 0 0 Z (F0 m 28 ls [])) → W p l e ({ frames := 0, cells := 0, slots := 0, locals := 0 } : Room) s m ([.ref q0, .int x2, .ref q1, .int x4, .int x5] : List Value).toArray below meth c H locs 0 0 Z (F0 m 3 ls []) := by
    intro n
    induction n with
    | zero => intro j1 w2 j1x w2x h; exact (lp_0 h).elim
    | succ n ih =>
      intro j1 w2 j1x w2x h H locs ls hP hl KK
      obtain ⟨y, h, hz⟩ := lp_h h
      refine lv_iload hx hb dX10_copies_3 (lv_at hl 5 rfl) ?_
      refine lv_iload hx hb dX10_copies_5 (lv_at hl 4 rfl) ?_
      refine lv_icmp_ge (tgt := 28) hx hb dX10_copies_7 (by decide) (fun c3 => ?_) (fun c3 => ?_)
      · have h := if_t c3 h
        cases lp_e h hz
        exact KK H locs ls hP (lv_sub hl [0, 1, 2, 3, 4, 5] rfl)
      · have h := if_f c3 h
        refine lv_aload_n hx hb dX10_copies_10 rfl (lv_at hl 0 rfl) ?_
        refine lv_iload_n hx hb dX10_copies_11 rfl (lv_at hl 1 rfl) ?_
        refine lv_iload hx hb dX10_copies_12 (lv_at hl 5 rfl) ?_
        refine lv_iadd hx hb dX10_copies_14 ?_
        refine lv_aload_n hx hb dX10_copies_15 rfl (lv_at hl 2 rfl) ?_
        refine lv_iload_n hx hb dX10_copies_16 rfl (lv_at hl 3 rfl) ?_
        refine lv_iload hx hb dX10_copies_17 (lv_at hl 5 rfl) ?_
        refine lv_iadd hx hb dX10_copies_19 ?_
        obtain ⟨hin, h⟩ := rd_h h
        refine g_iald hC hP 1 0 rfl rfl hin dX10_copies_20 (fun v4 ev => ?_)
        have h := h v4 ev
        obtain ⟨hin, h⟩ := wr_h h
        refine g_iast hC hP 0 0 rfl rfl hin dX10_copies_21 (fun a5 ev H locs hP => ?_)
        have hP : PD (dC, dI) A s.heap [(q0, .inl (cc 0, n1, .inl a5)), (q1, .inl (cc 0, n3, .inl f3))] H locs := hP
        have h := h a5 ev
        refine lv_iinc (v := (j1 + 1)) (lv' := [(5, .int (j1 + 1)), (0, .ref q0), (1, .int x2), (2, .ref q1), (3, .int x4), (4, .int x5)]) hx hb dX10_copies_22 hl (k := 5) rfl rfl (by decide) rfl (fun ls hl => ?_)
        refine lv_goto (tgt := 3) hx hb dX10_copies_25 (by decide) ?_
        exact ih _ _ _ _ (lp_n h hz) H locs ls hP (lv_sub hl [1, 2, 3, 4, 5, 0] rfl) KK
  refine L1 FU _ _ j1x w2x hlp H locs ls hP (lv_sub hl [1, 2, 3, 4, 5, 0] rfl) (fun H locs ls hP hl => ?_)
  rw [eZ]
  exact ret_v hC hr hlk hP dX10_copies_28 w2x (Option.some.inj h) rfl
set_option maxHeartbeats 8000000 in
set_option maxRecDepth 100000 in
theorem c_X10_settles (l : Launch) (dC : Nat → ClassId) (dI : Nat → Nat → Nat) (cc : Nat → ClassId) (q0 q1 q2 q3 q4 q5 q6 q7 q8 q9 q10 q11 q12 q13 q14 q15 q16 q17 : Nat) (feetMany : Int32) (log_ : Int32) (block : Int32) (stocking : Int32) (acts : Int32) (keeps : Int32) (hears : Int32) (texted : Int32) (at_ : Int32) (readFeetMany : Int32) (readLog : Int32) (readBlock : Int32) (readStocking : Int32) (lefts_ : Int32) (rights_ : Int32) (feet : (Nat → Int32)) (knot : (Nat → Int32)) (st : (Nat → Int32)) (read_ : (Nat → Int32)) (readFeet : (Nat → Int32)) (readKnot : (Nat → Int32)) (sz : Nat) (o_feetMany : Int32) (o_feet : (Nat → Int32)) (o_log_ : Int32) (o_block : Int32) (o_knot : (Nat → Int32)) (o_stocking : Int32) (o_st : (Nat → Int32)) (o_acts : Int32) (o_keeps : Int32) (o_hears : Int32) (hu : f_X10_settles readFeetMany readLog readBlock readStocking feet knot st read_ readFeet readKnot = some (o_feetMany, o_feet, o_log_, o_block, o_knot, o_stocking, o_st, o_acts, o_keeps, o_hears)) : Met l yX10_settles (mw yX10_settles cX10_settles 2 none) ({ frames := 1, cells := 0, slots := 0, locals := 25 } : Room) (va_Pc [.ref q0] (mP (dC, dI) (ts cc) sz [(q0, .inr (10, [.int feetMany, .ref q1, .int log_, .int block, .ref q2, .int stocking, .ref q3, .int acts, .ref q4, .int keeps, .ref q5, .int hears, .ref q6, .ref q7, .int texted, .int at_, .ref q8, .ref q9, .int readFeetMany, .ref q10, .int readLog, .int readBlock, .ref q11, .int readStocking, .ref q12, .int lefts_, .int rights_, .ref q13, .ref q14, .ref q15, .ref q16, .ref q17])), (q1, .inl (cc 0, 10, .inl feet)), (q2, .inl (cc 2, 40, .inl knot)), (q3, .inl (cc 0, 52, .inl st)), (q9, .inl (cc 0, 52, .inl read_)), (q10, .inl (cc 0, 10, .inl readFeet)), (q11, .inl (cc 2, 40, .inl readKnot))])) ((fun A => va_Qv (fun (w : Int32 × (Nat → Int32) × Int32 × Int32 × (Nat → Int32) × Int32 × (Nat → Int32) × Int32 × Int32 × Int32) => w = (o_feetMany, o_feet, o_log_, o_block, o_knot, o_stocking, o_st, o_acts, o_keeps, o_hears)) (fun (w : Int32 × (Nat → Int32) × Int32 × Int32 × (Nat → Int32) × Int32 × (Nat → Int32) × Int32 × Int32 × Int32) t => va_P (dC, dI) classes [(q0, .inr (10, [.int w.1, .ref q1, .int w.2.2.1, .int w.2.2.2.1, .ref q2, .int w.2.2.2.2.2.1, .ref q3, .int w.2.2.2.2.2.2.2.1, .ref q4, .int w.2.2.2.2.2.2.2.2.1, .ref q5, .int w.2.2.2.2.2.2.2.2.2, .ref q6, .ref q7, .int texted, .int at_, .ref q8, .ref q9, .int readFeetMany, .ref q10, .int readLog, .int readBlock, .ref q11, .int readStocking, .ref q12, .int lefts_, .int rights_, .ref q13, .ref q14, .ref q15, .ref q16, .ref q17])), (q1, .inl (cc 0, 10, .inl w.2.1)), (q2, .inl (cc 2, 40, .inl w.2.2.2.2.1)), (q3, .inl (cc 0, 52, .inl w.2.2.2.2.2.2.1)), (q9, .inl (cc 0, 52, .inl read_)), (q10, .inl (cc 0, 10, .inl readFeet)), (q11, .inl (cc 2, 40, .inl readKnot))] t.heap) A) (va_A [(q0, .inr (10, [.int feetMany, .ref q1, .int log_, .int block, .ref q2, .int stocking, .ref q3, .int acts, .ref q4, .int keeps, .ref q5, .int hears, .ref q6, .ref q7, .int texted, .int at_, .ref q8, .ref q9, .int readFeetMany, .ref q10, .int readLog, .int readBlock, .ref q11, .int readStocking, .ref q12, .int lefts_, .int rights_, .ref q13, .ref q14, .ref q15, .ref q16, .ref q17])), (q1, .inl (cc 0, 10, .inl feet)), (q2, .inl (cc 2, 40, .inl knot)), (q3, .inl (cc 0, 52, .inl st)), (q9, .inl (cc 0, 52, .inl read_)), (q10, .inl (cc 0, 10, .inl readFeet)), (q11, .inl (cc 2, 40, .inl readKnot))] sz)) 0 0 (va_A [(q0, .inr (10, [.int feetMany, .ref q1, .int log_, .int block, .ref q2, .int stocking, .ref q3, .int acts, .ref q4, .int keeps, .ref q5, .int hears, .ref q6, .ref q7, .int texted, .int at_, .ref q8, .ref q9, .int readFeetMany, .ref q10, .int readLog, .int readBlock, .ref q11, .int readStocking, .ref q12, .int lefts_, .int rights_, .ref q13, .ref q14, .ref q15, .ref q16, .ref q17])), (q1, .inl (cc 0, 10, .inl feet)), (q2, .inl (cc 2, 40, .inl knot)), (q3, .inl (cc 0, 52, .inl st)), (q9, .inl (cc 0, 52, .inl read_)), (q10, .inl (cc 0, 10, .inl readFeet)), (q11, .inl (cc 2, 40, .inl readKnot))] sz) := by
  refine met_go (Qc := fun A => va_Qv (fun (w : Int32 × (Nat → Int32) × Int32 × Int32 × (Nat → Int32) × Int32 × (Nat → Int32) × Int32 × Int32 × Int32) => w = (o_feetMany, o_feet, o_log_, o_block, o_knot, o_stocking, o_st, o_acts, o_keeps, o_hears)) (fun (w : Int32 × (Nat → Int32) × Int32 × Int32 × (Nat → Int32) × Int32 × (Nat → Int32) × Int32 × Int32 × Int32) t => va_P (dC, dI) classes [(q0, .inr (10, [.int w.1, .ref q1, .int w.2.2.1, .int w.2.2.2.1, .ref q2, .int w.2.2.2.2.2.1, .ref q3, .int w.2.2.2.2.2.2.2.1, .ref q4, .int w.2.2.2.2.2.2.2.2.1, .ref q5, .int w.2.2.2.2.2.2.2.2.2, .ref q6, .ref q7, .int texted, .int at_, .ref q8, .ref q9, .int readFeetMany, .ref q10, .int readLog, .int readBlock, .ref q11, .int readStocking, .ref q12, .int lefts_, .int rights_, .ref q13, .ref q14, .ref q15, .ref q16, .ref q17])), (q1, .inl (cc 0, 10, .inl w.2.1)), (q2, .inl (cc 2, 40, .inl w.2.2.2.2.1)), (q3, .inl (cc 0, 52, .inl w.2.2.2.2.2.2.1)), (q9, .inl (cc 0, 52, .inl read_)), (q10, .inl (cc 0, 10, .inl readFeet)), (q11, .inl (cc 2, 40, .inl readKnot))] t.heap) A) (by decide) (Nat.le_of_ble_eq_true rfl) ?_
  intro p e s m below meth c A ls H locs hC hr hlk hin hA hP hl _
  have hC : CX p m c cX10_settles 2 s ([.ref q0] : List Value).toArray RX10 (dC, dI) (ts cc) := hC
  have hx := hC.1.1
  have hb := hC.1.2
  have h := hu
  have hu0 := hu
  unfold f_X10_settles at h
  have hl : lv_has ls 2 [(0, .ref q0)] := hl
  refine W_abs (fun Z eZ => ?_)
  refine lv_aload_n hx hb dX10_settles_0 rfl (lv_at hl 0 rfl) ?_
  refine g_get hC hP fg_X10_17 0 rfl rfl dX10_settles_1 ?_
  refine lv_iconst (v := 0) hx hb dX10_settles_4 (by decide) ?_
  refine lv_aload_n hx hb dX10_settles_5 rfl (lv_at hl 0 rfl) ?_
  refine g_get hC hP fg_X10_35 0 rfl rfl dX10_settles_6 ?_
  refine lv_iconst (v := 0) hx hb dX10_settles_9 (by decide) ?_
  refine lv_bipush (v := 52) hx hb dX10_settles_10 (by decide) ?_
  obtain ⟨w1, hu, h⟩ := bnd_h h
  refine kc_v (kS hC (c_X10_copies l dC dI cc q3 q9 52 52 st read_ 0 0 52 H.size w1 hu) cs_X10_144 kw807 rfl rfl ⟨(Nat.le_of_ble_eq_true rfl), (Nat.le_of_ble_eq_true rfl)⟩ hP [3, 4] rfl rfl (As := [.ref q3, .int 0, .ref q9, .int 0, .int 52]) (rest := []) rfl rfl hl.1 (Nat.le_of_ble_eq_true rfl) dX10_settles_12 ⟨Nat.zero_le _, Nat.zero_le _⟩) hP hA [3, 4] rfl rfl (fun H locs hP => ?_)
  have hP : PD (dC, dI) A s.heap [(q0, .inr (10, [.int feetMany, .ref q1, .int log_, .int block, .ref q2, .int stocking, .ref q3, .int acts, .ref q4, .int keeps, .ref q5, .int hears, .ref q6, .ref q7, .int texted, .int at_, .ref q8, .ref q9, .int readFeetMany, .ref q10, .int readLog, .int readBlock, .ref q11, .int readStocking, .ref q12, .int lefts_, .int rights_, .ref q13, .ref q14, .ref q15, .ref q16, .ref q17])), (q1, .inl (cc 0, 10, .inl feet)), (q2, .inl (cc 2, 40, .inl knot)), (q3, .inl (cc 0, 52, .inl w1)), (q9, .inl (cc 0, 52, .inl read_)), (q10, .inl (cc 0, 10, .inl readFeet)), (q11, .inl (cc 2, 40, .inl readKnot))] H locs := hP
  refine lv_aload_n hx hb dX10_settles_15 rfl (lv_at hl 0 rfl) ?_
  refine lv_aload_n hx hb dX10_settles_16 rfl (lv_at hl 0 rfl) ?_
  refine g_get hC hP fg_X10_87 0 rfl rfl dX10_settles_17 ?_
  refine g_put hC hP fg_X10_148 0 rfl rfl rfl (Nat.le_of_ble_eq_true rfl) dX10_settles_20 (fun H locs hP => ?_)
  have hP : PD (dC, dI) A s.heap [(q0, .inr (10, [.int readFeetMany, .ref q1, .int log_, .int block, .ref q2, .int stocking, .ref q3, .int acts, .ref q4, .int keeps, .ref q5, .int hears, .ref q6, .ref q7, .int texted, .int at_, .ref q8, .ref q9, .int readFeetMany, .ref q10, .int readLog, .int readBlock, .ref q11, .int readStocking, .ref q12, .int lefts_, .int rights_, .ref q13, .ref q14, .ref q15, .ref q16, .ref q17])), (q1, .inl (cc 0, 10, .inl feet)), (q2, .inl (cc 2, 40, .inl knot)), (q3, .inl (cc 0, 52, .inl w1)), (q9, .inl (cc 0, 52, .inl read_)), (q10, .inl (cc 0, 10, .inl readFeet)), (q11, .inl (cc 2, 40, .inl readKnot))] H locs := hP
  refine lv_aload_n hx hb dX10_settles_23 rfl (lv_at hl 0 rfl) ?_
  refine g_get hC hP fg_X10_7 0 rfl rfl dX10_settles_24 ?_
  refine lv_iconst (v := 0) hx hb dX10_settles_27 (by decide) ?_
  refine lv_aload_n hx hb dX10_settles_28 rfl (lv_at hl 0 rfl) ?_
  refine g_get hC hP fg_X10_38 0 rfl rfl dX10_settles_29 ?_
  refine lv_iconst (v := 0) hx hb dX10_settles_32 (by decide) ?_
  refine lv_bipush (v := 10) hx hb dX10_settles_33 (by decide) ?_
  obtain ⟨w2, hu, h⟩ := bnd_h h
  refine kc_v (kS hC (c_X10_copies l dC dI cc q1 q10 10 10 feet readFeet 0 0 10 H.size w2 hu) cs_X10_144 kw807 rfl rfl ⟨(Nat.le_of_ble_eq_true rfl), (Nat.le_of_ble_eq_true rfl)⟩ hP [1, 5] rfl rfl (As := [.ref q1, .int 0, .ref q10, .int 0, .int 10]) (rest := []) rfl rfl hl.1 (Nat.le_of_ble_eq_true rfl) dX10_settles_35 ⟨Nat.zero_le _, Nat.zero_le _⟩) hP hA [1, 5] rfl rfl (fun H locs hP => ?_)
  have hP : PD (dC, dI) A s.heap [(q0, .inr (10, [.int readFeetMany, .ref q1, .int log_, .int block, .ref q2, .int stocking, .ref q3, .int acts, .ref q4, .int keeps, .ref q5, .int hears, .ref q6, .ref q7, .int texted, .int at_, .ref q8, .ref q9, .int readFeetMany, .ref q10, .int readLog, .int readBlock, .ref q11, .int readStocking, .ref q12, .int lefts_, .int rights_, .ref q13, .ref q14, .ref q15, .ref q16, .ref q17])), (q1, .inl (cc 0, 10, .inl w2)), (q2, .inl (cc 2, 40, .inl knot)), (q3, .inl (cc 0, 52, .inl w1)), (q9, .inl (cc 0, 52, .inl read_)), (q10, .inl (cc 0, 10, .inl readFeet)), (q11, .inl (cc 2, 40, .inl readKnot))] H locs := hP
  refine lv_aload_n hx hb dX10_settles_38 rfl (lv_at hl 0 rfl) ?_
  refine lv_aload_n hx hb dX10_settles_39 rfl (lv_at hl 0 rfl) ?_
  refine g_get hC hP fg_X10_73 0 rfl rfl dX10_settles_40 ?_
  refine g_put hC hP fg_X10_151 0 rfl rfl rfl (Nat.le_of_ble_eq_true rfl) dX10_settles_43 (fun H locs hP => ?_)
  have hP : PD (dC, dI) A s.heap [(q0, .inr (10, [.int readFeetMany, .ref q1, .int readLog, .int block, .ref q2, .int stocking, .ref q3, .int acts, .ref q4, .int keeps, .ref q5, .int hears, .ref q6, .ref q7, .int texted, .int at_, .ref q8, .ref q9, .int readFeetMany, .ref q10, .int readLog, .int readBlock, .ref q11, .int readStocking, .ref q12, .int lefts_, .int rights_, .ref q13, .ref q14, .ref q15, .ref q16, .ref q17])), (q1, .inl (cc 0, 10, .inl w2)), (q2, .inl (cc 2, 40, .inl knot)), (q3, .inl (cc 0, 52, .inl w1)), (q9, .inl (cc 0, 52, .inl read_)), (q10, .inl (cc 0, 10, .inl readFeet)), (q11, .inl (cc 2, 40, .inl readKnot))] H locs := hP
  refine lv_aload_n hx hb dX10_settles_46 rfl (lv_at hl 0 rfl) ?_
  refine lv_aload_n hx hb dX10_settles_47 rfl (lv_at hl 0 rfl) ?_
  refine g_get hC hP fg_X10_77 0 rfl rfl dX10_settles_48 ?_
  refine g_put hC hP fg_X10_154 0 rfl rfl rfl (Nat.le_of_ble_eq_true rfl) dX10_settles_51 (fun H locs hP => ?_)
  have hP : PD (dC, dI) A s.heap [(q0, .inr (10, [.int readFeetMany, .ref q1, .int readLog, .int readBlock, .ref q2, .int stocking, .ref q3, .int acts, .ref q4, .int keeps, .ref q5, .int hears, .ref q6, .ref q7, .int texted, .int at_, .ref q8, .ref q9, .int readFeetMany, .ref q10, .int readLog, .int readBlock, .ref q11, .int readStocking, .ref q12, .int lefts_, .int rights_, .ref q13, .ref q14, .ref q15, .ref q16, .ref q17])), (q1, .inl (cc 0, 10, .inl w2)), (q2, .inl (cc 2, 40, .inl knot)), (q3, .inl (cc 0, 52, .inl w1)), (q9, .inl (cc 0, 52, .inl read_)), (q10, .inl (cc 0, 10, .inl readFeet)), (q11, .inl (cc 2, 40, .inl readKnot))] H locs := hP
  refine lv_iconst (v := 0) hx hb dX10_settles_54 (by decide) ?_
  refine lv_istore_n (lv' := [(1, .int 0), (0, .ref q0)]) hx hb dX10_settles_55 rfl hl (by decide) rfl (fun ls hl => ?_)
  obtain ⟨⟨j3x, w4x⟩, hlp, h⟩ := bnd_h h
  have L1 : ∀ (n : Nat) (j3 : Int32) (w4 : (Nat → Int32)) (j3x : Int32) (w4x : (Nat → Int32)), lp (u2 (b_X10_settles_1 readKnot)) n (j3, w4) = some (j3x, w4x) → ∀ (H : Heap) (locs : List Loc) (ls : Array Slot), PD (dC, dI) A s.heap [(q0, .inr (10, [.int readFeetMany, .ref q1, .int readLog, .int readBlock, .ref q2, .int stocking, .ref q3, .int acts, .ref q4, .int keeps, .ref q5, .int hears, .ref q6, .ref q7, .int texted, .int at_, .ref q8, .ref q9, .int readFeetMany, .ref q10, .int readLog, .int readBlock, .ref q11, .int readStocking, .ref q12, .int lefts_, .int rights_, .ref q13, .ref q14, .ref q15, .ref q16, .ref q17])), (q1, .inl (cc 0, 10, .inl w2)), (q2, .inl (cc 2, 40, .inl w4)), (q3, .inl (cc 0, 52, .inl w1)), (q9, .inl (cc 0, 52, .inl read_)), (q10, .inl (cc 0, 10, .inl readFeet)), (q11, .inl (cc 2, 40, .inl readKnot))] H locs → lv_has ls 2 [(0, .ref q0), (1, .int j3)] → (∀ (H : Heap) (locs : List Loc) (ls : Array Slot), PD (dC, dI) A s.heap [(q0, .inr (10, [.int readFeetMany, .ref q1, .int readLog, .int readBlock, .ref q2, .int stocking, .ref q3, .int acts, .ref q4, .int keeps, .ref q5, .int hears, .ref q6, .ref q7, .int texted, .int at_, .ref q8, .ref q9, .int readFeetMany, .ref q10, .int readLog, .int readBlock, .ref q11, .int readStocking, .ref q12, .int lefts_, .int rights_, .ref q13, .ref q14, .ref q15, .ref q16, .ref q17])), (q1, .inl (cc 0, 10, .inl w2)), (q2, .inl (cc 2, 40, .inl w4x)), (q3, .inl (cc 0, 52, .inl w1)), (q9, .inl (cc 0, 52, .inl read_)), (q10, .inl (cc 0, 10, .inl readFeet)), (q11, .inl (cc 2, 40, .inl readKnot))] H locs → lv_has ls 2 [(0, .ref q0), (1, .int j3x)] → W p l e ({ frames := 1, cells := 0, slots := 0, locals := 25 } : Room) s m ([.ref q0] : List Value).toArray below meth c H locs 0 0 Z (F0 m 80 ls [])) → W p l e ({ frames := 1, cells := 0, slots := 0, locals := 25 } : Room) s m ([.ref q0] : List Value).toArray below meth c H locs 0 0 Z (F0 m 56 ls []) := by
    intro n
    induction n with
    | zero => intro j3 w4 j3x w4x h; exact (lp_0 h).elim
    | succ n ih =>
      intro j3 w4 j3x w4x h H locs ls hP hl KK
      obtain ⟨y, h, hz⟩ := lp_h h
      refine lv_iload_n hx hb dX10_settles_56 rfl (lv_at hl 1 rfl) ?_
      refine lv_bipush (v := 40) hx hb dX10_settles_57 (by decide) ?_
      refine lv_icmp_ge (tgt := 80) hx hb dX10_settles_59 (by decide) (fun c5 => ?_) (fun c5 => ?_)
      · have h := if_t c5 h
        cases lp_e h hz
        exact KK H locs ls hP (lv_sub hl [0, 1] rfl)
      · have h := if_f c5 h
        refine lv_aload_n hx hb dX10_settles_62 rfl (lv_at hl 0 rfl) ?_
        refine g_get hC hP fg_X10_13 0 rfl rfl dX10_settles_63 ?_
        refine lv_iload_n hx hb dX10_settles_66 rfl (lv_at hl 1 rfl) ?_
        refine lv_aload_n hx hb dX10_settles_67 rfl (lv_at hl 0 rfl) ?_
        refine g_get hC hP fg_X10_41 0 rfl rfl dX10_settles_68 ?_
        refine lv_iload_n hx hb dX10_settles_71 rfl (lv_at hl 1 rfl) ?_
        obtain ⟨hin, h⟩ := rd_h h
        refine g_zald hC hP 6 2 rfl rfl hin dX10_settles_72 (fun v6 ev => ?_)
        have h := h v6 ev
        obtain ⟨hin, h⟩ := wr_h h
        refine g_zast hC hP 2 2 rfl rfl hin dX10_settles_73 (fun a7 ev H locs hP => ?_)
        have hP : PD (dC, dI) A s.heap [(q0, .inr (10, [.int readFeetMany, .ref q1, .int readLog, .int readBlock, .ref q2, .int stocking, .ref q3, .int acts, .ref q4, .int keeps, .ref q5, .int hears, .ref q6, .ref q7, .int texted, .int at_, .ref q8, .ref q9, .int readFeetMany, .ref q10, .int readLog, .int readBlock, .ref q11, .int readStocking, .ref q12, .int lefts_, .int rights_, .ref q13, .ref q14, .ref q15, .ref q16, .ref q17])), (q1, .inl (cc 0, 10, .inl w2)), (q2, .inl (cc 2, 40, .inl a7)), (q3, .inl (cc 0, 52, .inl w1)), (q9, .inl (cc 0, 52, .inl read_)), (q10, .inl (cc 0, 10, .inl readFeet)), (q11, .inl (cc 2, 40, .inl readKnot))] H locs := hP
        have h := h a7 ev
        refine lv_iinc (v := (j3 + 1)) (lv' := [(1, .int (j3 + 1)), (0, .ref q0)]) hx hb dX10_settles_74 hl (k := 1) rfl rfl (by decide) rfl (fun ls hl => ?_)
        refine lv_goto (tgt := 56) hx hb dX10_settles_77 (by decide) ?_
        exact ih _ _ _ _ (lp_n h hz) H locs ls hP (lv_sub hl [1, 0] rfl) KK
  refine L1 FU _ _ j3x w4x hlp H locs ls hP (lv_sub hl [1, 0] rfl) (fun H locs ls hP hl => ?_)
  refine lv_aload_n hx hb dX10_settles_80 rfl (lv_at hl 0 rfl) ?_
  refine lv_aload_n hx hb dX10_settles_81 rfl (lv_at hl 0 rfl) ?_
  refine g_get hC hP fg_X10_108 0 rfl rfl dX10_settles_82 ?_
  refine g_put hC hP fg_X10_157 0 rfl rfl rfl (Nat.le_of_ble_eq_true rfl) dX10_settles_85 (fun H locs hP => ?_)
  have hP : PD (dC, dI) A s.heap [(q0, .inr (10, [.int readFeetMany, .ref q1, .int readLog, .int readBlock, .ref q2, .int readStocking, .ref q3, .int acts, .ref q4, .int keeps, .ref q5, .int hears, .ref q6, .ref q7, .int texted, .int at_, .ref q8, .ref q9, .int readFeetMany, .ref q10, .int readLog, .int readBlock, .ref q11, .int readStocking, .ref q12, .int lefts_, .int rights_, .ref q13, .ref q14, .ref q15, .ref q16, .ref q17])), (q1, .inl (cc 0, 10, .inl w2)), (q2, .inl (cc 2, 40, .inl w4x)), (q3, .inl (cc 0, 52, .inl w1)), (q9, .inl (cc 0, 52, .inl read_)), (q10, .inl (cc 0, 10, .inl readFeet)), (q11, .inl (cc 2, 40, .inl readKnot))] H locs := hP
  refine lv_aload_n hx hb dX10_settles_88 rfl (lv_at hl 0 rfl) ?_
  refine lv_iconst (v := 0) hx hb dX10_settles_89 (by decide) ?_
  refine g_put hC hP fg_X10_160 0 rfl rfl rfl (Nat.le_of_ble_eq_true rfl) dX10_settles_90 (fun H locs hP => ?_)
  have hP : PD (dC, dI) A s.heap [(q0, .inr (10, [.int readFeetMany, .ref q1, .int readLog, .int readBlock, .ref q2, .int readStocking, .ref q3, .int 0, .ref q4, .int keeps, .ref q5, .int hears, .ref q6, .ref q7, .int texted, .int at_, .ref q8, .ref q9, .int readFeetMany, .ref q10, .int readLog, .int readBlock, .ref q11, .int readStocking, .ref q12, .int lefts_, .int rights_, .ref q13, .ref q14, .ref q15, .ref q16, .ref q17])), (q1, .inl (cc 0, 10, .inl w2)), (q2, .inl (cc 2, 40, .inl w4x)), (q3, .inl (cc 0, 52, .inl w1)), (q9, .inl (cc 0, 52, .inl read_)), (q10, .inl (cc 0, 10, .inl readFeet)), (q11, .inl (cc 2, 40, .inl readKnot))] H locs := hP
  refine lv_aload_n hx hb dX10_settles_93 rfl (lv_at hl 0 rfl) ?_
  refine lv_iconst (v := 0) hx hb dX10_settles_94 (by decide) ?_
  refine g_put hC hP fg_X10_163 0 rfl rfl rfl (Nat.le_of_ble_eq_true rfl) dX10_settles_95 (fun H locs hP => ?_)
  have hP : PD (dC, dI) A s.heap [(q0, .inr (10, [.int readFeetMany, .ref q1, .int readLog, .int readBlock, .ref q2, .int readStocking, .ref q3, .int 0, .ref q4, .int 0, .ref q5, .int hears, .ref q6, .ref q7, .int texted, .int at_, .ref q8, .ref q9, .int readFeetMany, .ref q10, .int readLog, .int readBlock, .ref q11, .int readStocking, .ref q12, .int lefts_, .int rights_, .ref q13, .ref q14, .ref q15, .ref q16, .ref q17])), (q1, .inl (cc 0, 10, .inl w2)), (q2, .inl (cc 2, 40, .inl w4x)), (q3, .inl (cc 0, 52, .inl w1)), (q9, .inl (cc 0, 52, .inl read_)), (q10, .inl (cc 0, 10, .inl readFeet)), (q11, .inl (cc 2, 40, .inl readKnot))] H locs := hP
  refine lv_aload_n hx hb dX10_settles_98 rfl (lv_at hl 0 rfl) ?_
  refine lv_iconst (v := 0) hx hb dX10_settles_99 (by decide) ?_
  refine g_put hC hP fg_X10_166 0 rfl rfl rfl (Nat.le_of_ble_eq_true rfl) dX10_settles_100 (fun H locs hP => ?_)
  have hP : PD (dC, dI) A s.heap [(q0, .inr (10, [.int readFeetMany, .ref q1, .int readLog, .int readBlock, .ref q2, .int readStocking, .ref q3, .int 0, .ref q4, .int 0, .ref q5, .int 0, .ref q6, .ref q7, .int texted, .int at_, .ref q8, .ref q9, .int readFeetMany, .ref q10, .int readLog, .int readBlock, .ref q11, .int readStocking, .ref q12, .int lefts_, .int rights_, .ref q13, .ref q14, .ref q15, .ref q16, .ref q17])), (q1, .inl (cc 0, 10, .inl w2)), (q2, .inl (cc 2, 40, .inl w4x)), (q3, .inl (cc 0, 52, .inl w1)), (q9, .inl (cc 0, 52, .inl read_)), (q10, .inl (cc 0, 10, .inl readFeet)), (q11, .inl (cc 2, 40, .inl readKnot))] H locs := hP
  rw [eZ]
  exact ret_v hC hr hlk hP dX10_settles_103 (readFeetMany, w2, readLog, readBlock, w4x, readStocking, w1, 0, 0, 0) (Option.some.inj h) rfl
set_option maxHeartbeats 8000000 in
set_option maxRecDepth 100000 in
theorem c_X10_tellsClog (l : Launch) (dC : Nat → ClassId) (dI : Nat → Nat → Nat) (cc : Nat → ClassId) (q0 q1 q2 q3 q4 q5 q6 q7 q8 q9 q10 q11 q12 q13 q14 q15 q16 q17 : Nat) (feetMany : Int32) (log_ : Int32) (block : Int32) (stocking : Int32) (acts : Int32) (keeps : Int32) (hears : Int32) (texted : Int32) (at_ : Int32) (readFeetMany : Int32) (readLog : Int32) (readBlock : Int32) (readStocking : Int32) (lefts_ : Int32) (rights_ : Int32) (read_ : (Nat → Int32)) (x1 : Int32) (x2 : Int32) (x3 : Int32) (x4 : Int32) (sz : Nat) (o_read_ : (Nat → Int32)) (hu : f_X10_tellsClog x1 x2 x3 x4 read_ = some o_read_) : Met l yX10_tellsClog (mw yX10_tellsClog cX10_tellsClog 5 none) ({ frames := 1, cells := 0, slots := 0, locals := 25 } : Room) (va_Pc [.ref q0, .int x1, .int x2, .int x3, .int x4] (mP (dC, dI) (ts cc) sz [(q0, .inr (10, [.int feetMany, .ref q1, .int log_, .int block, .ref q2, .int stocking, .ref q3, .int acts, .ref q4, .int keeps, .ref q5, .int hears, .ref q6, .ref q7, .int texted, .int at_, .ref q8, .ref q9, .int readFeetMany, .ref q10, .int readLog, .int readBlock, .ref q11, .int readStocking, .ref q12, .int lefts_, .int rights_, .ref q13, .ref q14, .ref q15, .ref q16, .ref q17])), (q9, .inl (cc 0, 52, .inl read_))])) ((fun A => va_Qv (fun (w : (Nat → Int32)) => w = o_read_) (fun (w : (Nat → Int32)) t => va_P (dC, dI) classes [(q0, .inr (10, [.int feetMany, .ref q1, .int log_, .int block, .ref q2, .int stocking, .ref q3, .int acts, .ref q4, .int keeps, .ref q5, .int hears, .ref q6, .ref q7, .int texted, .int at_, .ref q8, .ref q9, .int readFeetMany, .ref q10, .int readLog, .int readBlock, .ref q11, .int readStocking, .ref q12, .int lefts_, .int rights_, .ref q13, .ref q14, .ref q15, .ref q16, .ref q17])), (q9, .inl (cc 0, 52, .inl w))] t.heap) A) (va_A [(q0, .inr (10, [.int feetMany, .ref q1, .int log_, .int block, .ref q2, .int stocking, .ref q3, .int acts, .ref q4, .int keeps, .ref q5, .int hears, .ref q6, .ref q7, .int texted, .int at_, .ref q8, .ref q9, .int readFeetMany, .ref q10, .int readLog, .int readBlock, .ref q11, .int readStocking, .ref q12, .int lefts_, .int rights_, .ref q13, .ref q14, .ref q15, .ref q16, .ref q17])), (q9, .inl (cc 0, 52, .inl read_))] sz)) 0 0 (va_A [(q0, .inr (10, [.int feetMany, .ref q1, .int log_, .int block, .ref q2, .int stocking, .ref q3, .int acts, .ref q4, .int keeps, .ref q5, .int hears, .ref q6, .ref q7, .int texted, .int at_, .ref q8, .ref q9, .int readFeetMany, .ref q10, .int readLog, .int readBlock, .ref q11, .int readStocking, .ref q12, .int lefts_, .int rights_, .ref q13, .ref q14, .ref q15, .ref q16, .ref q17])), (q9, .inl (cc 0, 52, .inl read_))] sz) := by
  refine met_go (Qc := fun A => va_Qv (fun (w : (Nat → Int32)) => w = o_read_) (fun (w : (Nat → Int32)) t => va_P (dC, dI) classes [(q0, .inr (10, [.int feetMany, .ref q1, .int log_, .int block, .ref q2, .int stocking, .ref q3, .int acts, .ref q4, .int keeps, .ref q5, .int hears, .ref q6, .ref q7, .int texted, .int at_, .ref q8, .ref q9, .int readFeetMany, .ref q10, .int readLog, .int readBlock, .ref q11, .int readStocking, .ref q12, .int lefts_, .int rights_, .ref q13, .ref q14, .ref q15, .ref q16, .ref q17])), (q9, .inl (cc 0, 52, .inl w))] t.heap) A) (by decide) (Nat.le_of_ble_eq_true rfl) ?_
  intro p e s m below meth c A ls H locs hC hr hlk hin hA hP hl _
  have hC : CX p m c cX10_tellsClog 5 s ([.ref q0, .int x1, .int x2, .int x3, .int x4] : List Value).toArray RX10 (dC, dI) (ts cc) := hC
  have hx := hC.1.1
  have hb := hC.1.2
  have h := hu
  have hu0 := hu
  unfold f_X10_tellsClog at h
  have hl : lv_has ls 5 [(0, .ref q0), (1, .int x1), (2, .int x2), (3, .int x3), (4, .int x4)] := hl
  refine lv_aload_n hx hb dX10_tellsClog_0 rfl (lv_at hl 0 rfl) ?_
  refine g_get hC hP fg_X10_35 0 rfl rfl dX10_tellsClog_1 ?_
  refine lv_iload_n hx hb dX10_tellsClog_4 rfl (lv_at hl 1 rfl) ?_
  refine lv_iload_n hx hb dX10_tellsClog_5 rfl (lv_at hl 2 rfl) ?_
  refine lv_iload_n hx hb dX10_tellsClog_6 rfl (lv_at hl 3 rfl) ?_
  refine lv_iload hx hb dX10_tellsClog_7 (lv_at hl 4 rfl) ?_
  obtain ⟨w1, hu, h⟩ := bnd_h h
  refine kc_v (kS hC (c_X10_puts l dC dI cc q9 52 read_ x1 x2 x3 x4 H.size w1 hu) cs_X10_83 kw796 rfl rfl ⟨(Nat.le_of_ble_eq_true rfl), (Nat.le_of_ble_eq_true rfl)⟩ hP [1] rfl rfl (As := [.ref q9, .int x1, .int x2, .int x3, .int x4]) (rest := []) rfl rfl hl.1 (Nat.le_of_ble_eq_true rfl) dX10_tellsClog_9 ⟨Nat.zero_le _, Nat.zero_le _⟩) hP hA [1] rfl rfl (fun H locs hP => ?_)
  have hP : PD (dC, dI) A s.heap [(q0, .inr (10, [.int feetMany, .ref q1, .int log_, .int block, .ref q2, .int stocking, .ref q3, .int acts, .ref q4, .int keeps, .ref q5, .int hears, .ref q6, .ref q7, .int texted, .int at_, .ref q8, .ref q9, .int readFeetMany, .ref q10, .int readLog, .int readBlock, .ref q11, .int readStocking, .ref q12, .int lefts_, .int rights_, .ref q13, .ref q14, .ref q15, .ref q16, .ref q17])), (q9, .inl (cc 0, 52, .inl w1))] H locs := hP
  exact ret_v hC hr hlk hP dX10_tellsClog_12 w1 (Option.some.inj h) rfl
set_option maxHeartbeats 8000000 in
set_option maxRecDepth 100000 in
theorem c_X10_readClogOf (l : Launch) (dC : Nat → ClassId) (dI : Nat → Nat → Nat) (cc : Nat → ClassId) (q0 q1 q2 q3 q4 q5 q6 q7 q8 q9 q10 q11 q12 q13 q14 q15 q16 q17 : Nat) (feetMany : Int32) (log_ : Int32) (block : Int32) (stocking : Int32) (acts : Int32) (keeps : Int32) (hears : Int32) (texted : Int32) (at_ : Int32) (readFeetMany : Int32) (readLog : Int32) (readBlock : Int32) (readStocking : Int32) (lefts_ : Int32) (rights_ : Int32) (text : (Nat → Int32)) (told : (Nat → Int32)) (read_ : (Nat → Int32)) (sz : Nat) (ret : Int32) (o_at_ : Int32) (o_told : (Nat → Int32)) (o_read_ : (Nat → Int32)) (hu : f_X10_readClogOf texted at_ text told read_ = some (ret, o_at_, o_told, o_read_)) : Met l yX10_readClogOf (mw yX10_readClogOf cX10_readClogOf 1 (some .boolean)) ({ frames := 3, cells := 0, slots := 0, locals := 64 } : Room) (va_Pc [.ref q0] (mP (dC, dI) (ts cc) sz [(q0, .inr (10, [.int feetMany, .ref q1, .int log_, .int block, .ref q2, .int stocking, .ref q3, .int acts, .ref q4, .int keeps, .ref q5, .int hears, .ref q6, .ref q7, .int texted, .int at_, .ref q8, .ref q9, .int readFeetMany, .ref q10, .int readLog, .int readBlock, .ref q11, .int readStocking, .ref q12, .int lefts_, .int rights_, .ref q13, .ref q14, .ref q15, .ref q16, .ref q17])), (q7, .inl (cc 0, 200, .inl text)), (q8, .inl (cc 0, 4, .inl told)), (q9, .inl (cc 0, 52, .inl read_))])) ((fun A => va_Qi (fun (r : Int32) (w : Int32 × (Nat → Int32) × (Nat → Int32)) => narrow .boolean (.int r) = .int r ∧ (r = ret ∧ w = (o_at_, o_told, o_read_))) (fun (w : Int32 × (Nat → Int32) × (Nat → Int32)) t => va_P (dC, dI) classes [(q0, .inr (10, [.int feetMany, .ref q1, .int log_, .int block, .ref q2, .int stocking, .ref q3, .int acts, .ref q4, .int keeps, .ref q5, .int hears, .ref q6, .ref q7, .int texted, .int w.1, .ref q8, .ref q9, .int readFeetMany, .ref q10, .int readLog, .int readBlock, .ref q11, .int readStocking, .ref q12, .int lefts_, .int rights_, .ref q13, .ref q14, .ref q15, .ref q16, .ref q17])), (q7, .inl (cc 0, 200, .inl text)), (q8, .inl (cc 0, 4, .inl w.2.1)), (q9, .inl (cc 0, 52, .inl w.2.2))] t.heap) A) (va_A [(q0, .inr (10, [.int feetMany, .ref q1, .int log_, .int block, .ref q2, .int stocking, .ref q3, .int acts, .ref q4, .int keeps, .ref q5, .int hears, .ref q6, .ref q7, .int texted, .int at_, .ref q8, .ref q9, .int readFeetMany, .ref q10, .int readLog, .int readBlock, .ref q11, .int readStocking, .ref q12, .int lefts_, .int rights_, .ref q13, .ref q14, .ref q15, .ref q16, .ref q17])), (q7, .inl (cc 0, 200, .inl text)), (q8, .inl (cc 0, 4, .inl told)), (q9, .inl (cc 0, 52, .inl read_))] sz)) 0 0 (va_A [(q0, .inr (10, [.int feetMany, .ref q1, .int log_, .int block, .ref q2, .int stocking, .ref q3, .int acts, .ref q4, .int keeps, .ref q5, .int hears, .ref q6, .ref q7, .int texted, .int at_, .ref q8, .ref q9, .int readFeetMany, .ref q10, .int readLog, .int readBlock, .ref q11, .int readStocking, .ref q12, .int lefts_, .int rights_, .ref q13, .ref q14, .ref q15, .ref q16, .ref q17])), (q7, .inl (cc 0, 200, .inl text)), (q8, .inl (cc 0, 4, .inl told)), (q9, .inl (cc 0, 52, .inl read_))] sz) := by
  refine met_go (Qc := fun A => va_Qi (fun (r : Int32) (w : Int32 × (Nat → Int32) × (Nat → Int32)) => narrow .boolean (.int r) = .int r ∧ (r = ret ∧ w = (o_at_, o_told, o_read_))) (fun (w : Int32 × (Nat → Int32) × (Nat → Int32)) t => va_P (dC, dI) classes [(q0, .inr (10, [.int feetMany, .ref q1, .int log_, .int block, .ref q2, .int stocking, .ref q3, .int acts, .ref q4, .int keeps, .ref q5, .int hears, .ref q6, .ref q7, .int texted, .int w.1, .ref q8, .ref q9, .int readFeetMany, .ref q10, .int readLog, .int readBlock, .ref q11, .int readStocking, .ref q12, .int lefts_, .int rights_, .ref q13, .ref q14, .ref q15, .ref q16, .ref q17])), (q7, .inl (cc 0, 200, .inl text)), (q8, .inl (cc 0, 4, .inl w.2.1)), (q9, .inl (cc 0, 52, .inl w.2.2))] t.heap) A) (by decide) (Nat.le_of_ble_eq_true rfl) ?_
  intro p e s m below meth c A ls H locs hC hr hlk hin hA hP hl _
  have hC : CX p m c cX10_readClogOf 1 s ([.ref q0] : List Value).toArray RX10 (dC, dI) (ts cc) := hC
  have hx := hC.1.1
  have hb := hC.1.2
  have h := hu
  have hu0 := hu
  unfold f_X10_readClogOf at h
  have hl : lv_has ls 1 [(0, .ref q0)] := hl
  refine lv_aload_n hx hb dX10_readClogOf_0 rfl (lv_at hl 0 rfl) ?_
  refine g_get hC hP fg_X10_35 0 rfl rfl dX10_readClogOf_1 ?_
  refine lv_iconst (v := 1) hx hb dX10_readClogOf_4 (by decide) ?_
  obtain ⟨hin, h⟩ := rd_h h
  refine g_iald hC hP 3 0 rfl rfl hin dX10_readClogOf_5 (fun v1 ev => ?_)
  have h := h v1 ev
  refine lv_bipush (v := 10) hx hb dX10_readClogOf_6 (by decide) ?_
  refine lv_icmp_eq (tgt := 49) hx hb dX10_readClogOf_8 (by decide) (fun c2 => ?_) (fun c2 => ?_)
  · have h := if_t c2 h
    refine lv_iconst (v := 0) hx hb dX10_readClogOf_49 (by decide) ?_
    exact ret_z hC hr rfl hlk hP dX10_readClogOf_50 (at_, told, read_) (Prod.mk.inj (Option.some.inj h)) rfl
  · have h := if_f c2 h
    refine lv_aload_n hx hb dX10_readClogOf_11 rfl (lv_at hl 0 rfl) ?_
    refine lv_iconst (v := 4) hx hb dX10_readClogOf_12 (by decide) ?_
    obtain ⟨⟨r3, w4, w5⟩, hu, h⟩ := bnd_h h
    refine kc_z (kV hC (c_X10_readNumbers l dC dI cc q0 q1 q2 q3 q4 q5 q6 q7 q8 q9 q10 q11 q12 q13 q14 q15 q16 q17 feetMany log_ block stocking acts keeps hears texted at_ readFeetMany readLog readBlock readStocking lefts_ rights_ text told 4 H.size r3 w4 w5 hu) cv_X10_111 kw936 rfl rfl ⟨(Nat.le_of_ble_eq_true rfl), (Nat.le_of_ble_eq_true rfl)⟩ hP [0, 1, 2] rfl rfl rfl (q0 := 0) rfl (As := [.int 4]) (rest := []) rfl rfl hl.1 (Nat.le_of_ble_eq_true rfl) dX10_readClogOf_13 ⟨Nat.zero_le _, Nat.zero_le _⟩) hP hA [0, 1, 2] rfl rfl (fun hz_r3 H locs hP => ?_)
    have hP : PD (dC, dI) A s.heap [(q0, .inr (10, [.int feetMany, .ref q1, .int log_, .int block, .ref q2, .int stocking, .ref q3, .int acts, .ref q4, .int keeps, .ref q5, .int hears, .ref q6, .ref q7, .int texted, .int w4, .ref q8, .ref q9, .int readFeetMany, .ref q10, .int readLog, .int readBlock, .ref q11, .int readStocking, .ref q12, .int lefts_, .int rights_, .ref q13, .ref q14, .ref q15, .ref q16, .ref q17])), (q7, .inl (cc 0, 200, .inl text)), (q8, .inl (cc 0, 4, .inl w5)), (q9, .inl (cc 0, 52, .inl read_))] H locs := hP
    refine lv_if_eq (tgt := 49) hx hb dX10_readClogOf_16 (by decide) (fun c6 => ?_) (fun c6 => ?_)
    · have h := if_t c6 h
      refine lv_iconst (v := 0) hx hb dX10_readClogOf_49 (by decide) ?_
      exact ret_z hC hr rfl hlk hP dX10_readClogOf_50 (w4, w5, read_) (Prod.mk.inj (Option.some.inj h)) rfl
    · have h := if_f c6 h
      refine lv_aload_n hx hb dX10_readClogOf_19 rfl (lv_at hl 0 rfl) ?_
      refine g_get hC hP fg_X10_32 0 rfl rfl dX10_readClogOf_20 ?_
      refine lv_iconst (v := 0) hx hb dX10_readClogOf_23 (by decide) ?_
      obtain ⟨hin, h⟩ := rd_h h
      refine g_iald hC hP 2 0 rfl rfl hin dX10_readClogOf_24 (fun v7 ev => ?_)
      have h := h v7 ev
      refine lv_aload_n hx hb dX10_readClogOf_25 rfl (lv_at hl 0 rfl) ?_
      refine g_get hC hP fg_X10_32 0 rfl rfl dX10_readClogOf_26 ?_
      refine lv_iconst (v := 1) hx hb dX10_readClogOf_29 (by decide) ?_
      obtain ⟨hin, h⟩ := rd_h h
      refine g_iald hC hP 2 0 rfl rfl hin dX10_readClogOf_30 (fun v8 ev => ?_)
      have h := h v8 ev
      refine lv_aload_n hx hb dX10_readClogOf_31 rfl (lv_at hl 0 rfl) ?_
      refine g_get hC hP fg_X10_32 0 rfl rfl dX10_readClogOf_32 ?_
      refine lv_iconst (v := 2) hx hb dX10_readClogOf_35 (by decide) ?_
      obtain ⟨hin, h⟩ := rd_h h
      refine g_iald hC hP 2 0 rfl rfl hin dX10_readClogOf_36 (fun v9 ev => ?_)
      have h := h v9 ev
      refine lv_aload_n hx hb dX10_readClogOf_37 rfl (lv_at hl 0 rfl) ?_
      refine g_get hC hP fg_X10_32 0 rfl rfl dX10_readClogOf_38 ?_
      refine lv_iconst (v := 3) hx hb dX10_readClogOf_41 (by decide) ?_
      obtain ⟨hin, h⟩ := rd_h h
      refine g_iald hC hP 2 0 rfl rfl hin dX10_readClogOf_42 (fun v10 ev => ?_)
      have h := h v10 ev
      obtain ⟨r11, hu, h⟩ := bnd_h h
      refine kc_z (kS hC (c_X10_isOne l dC dI cc v7 v8 v9 v10 H.size r11 hu) cs_X10_114 kw942 rfl rfl ⟨(Nat.le_of_ble_eq_true rfl), (Nat.le_of_ble_eq_true rfl)⟩ hP [] rfl rfl (As := [.int v7, .int v8, .int v9, .int v10]) (rest := []) rfl rfl hl.1 (Nat.le_of_ble_eq_true rfl) dX10_readClogOf_43 ⟨Nat.zero_le _, Nat.zero_le _⟩) hP hA [] rfl rfl (fun hz_r11 H locs hP => ?_)
      have hP : PD (dC, dI) A s.heap [(q0, .inr (10, [.int feetMany, .ref q1, .int log_, .int block, .ref q2, .int stocking, .ref q3, .int acts, .ref q4, .int keeps, .ref q5, .int hears, .ref q6, .ref q7, .int texted, .int w4, .ref q8, .ref q9, .int readFeetMany, .ref q10, .int readLog, .int readBlock, .ref q11, .int readStocking, .ref q12, .int lefts_, .int rights_, .ref q13, .ref q14, .ref q15, .ref q16, .ref q17])), (q7, .inl (cc 0, 200, .inl text)), (q8, .inl (cc 0, 4, .inl w5)), (q9, .inl (cc 0, 52, .inl read_))] H locs := hP
      refine lv_if_ne (tgt := 51) hx hb dX10_readClogOf_46 (by decide) (fun c12 => ?_) (fun c12 => ?_)
      · have h := if_f c12 h
        refine lv_aload_n hx hb dX10_readClogOf_51 rfl (lv_at hl 0 rfl) ?_
        refine lv_aload_n hx hb dX10_readClogOf_52 rfl (lv_at hl 0 rfl) ?_
        refine g_get hC hP fg_X10_32 0 rfl rfl dX10_readClogOf_53 ?_
        refine lv_iconst (v := 0) hx hb dX10_readClogOf_56 (by decide) ?_
        obtain ⟨hin, h⟩ := rd_h h
        refine g_iald hC hP 2 0 rfl rfl hin dX10_readClogOf_57 (fun v13 ev => ?_)
        have h := h v13 ev
        refine lv_aload_n hx hb dX10_readClogOf_58 rfl (lv_at hl 0 rfl) ?_
        refine g_get hC hP fg_X10_32 0 rfl rfl dX10_readClogOf_59 ?_
        refine lv_iconst (v := 1) hx hb dX10_readClogOf_62 (by decide) ?_
        obtain ⟨hin, h⟩ := rd_h h
        refine g_iald hC hP 2 0 rfl rfl hin dX10_readClogOf_63 (fun v14 ev => ?_)
        have h := h v14 ev
        refine lv_aload_n hx hb dX10_readClogOf_64 rfl (lv_at hl 0 rfl) ?_
        refine g_get hC hP fg_X10_32 0 rfl rfl dX10_readClogOf_65 ?_
        refine lv_iconst (v := 2) hx hb dX10_readClogOf_68 (by decide) ?_
        obtain ⟨hin, h⟩ := rd_h h
        refine g_iald hC hP 2 0 rfl rfl hin dX10_readClogOf_69 (fun v15 ev => ?_)
        have h := h v15 ev
        refine lv_aload_n hx hb dX10_readClogOf_70 rfl (lv_at hl 0 rfl) ?_
        refine g_get hC hP fg_X10_32 0 rfl rfl dX10_readClogOf_71 ?_
        refine lv_iconst (v := 3) hx hb dX10_readClogOf_74 (by decide) ?_
        obtain ⟨hin, h⟩ := rd_h h
        refine g_iald hC hP 2 0 rfl rfl hin dX10_readClogOf_75 (fun v16 ev => ?_)
        have h := h v16 ev
        obtain ⟨w17, hu, h⟩ := bnd_h h
        refine kc_v (kV hC (c_X10_tellsClog l dC dI cc q0 q1 q2 q3 q4 q5 q6 q7 q8 q9 q10 q11 q12 q13 q14 q15 q16 q17 feetMany log_ block stocking acts keeps hears texted w4 readFeetMany readLog readBlock readStocking lefts_ rights_ read_ v13 v14 v15 v16 H.size w17 hu) cv_X10_65 kw793 rfl rfl ⟨(Nat.le_of_ble_eq_true rfl), (Nat.le_of_ble_eq_true rfl)⟩ hP [0, 3] rfl rfl rfl (q0 := 0) rfl (As := [.int v13, .int v14, .int v15, .int v16]) (rest := []) rfl rfl hl.1 (Nat.le_of_ble_eq_true rfl) dX10_readClogOf_76 ⟨Nat.zero_le _, Nat.zero_le _⟩) hP hA [0, 3] rfl rfl (fun H locs hP => ?_)
        have hP : PD (dC, dI) A s.heap [(q0, .inr (10, [.int feetMany, .ref q1, .int log_, .int block, .ref q2, .int stocking, .ref q3, .int acts, .ref q4, .int keeps, .ref q5, .int hears, .ref q6, .ref q7, .int texted, .int w4, .ref q8, .ref q9, .int readFeetMany, .ref q10, .int readLog, .int readBlock, .ref q11, .int readStocking, .ref q12, .int lefts_, .int rights_, .ref q13, .ref q14, .ref q15, .ref q16, .ref q17])), (q7, .inl (cc 0, 200, .inl text)), (q8, .inl (cc 0, 4, .inl w5)), (q9, .inl (cc 0, 52, .inl w17))] H locs := hP
        refine lv_iconst (v := 1) hx hb dX10_readClogOf_79 (by decide) ?_
        exact ret_z hC hr rfl hlk hP dX10_readClogOf_80 (w4, w5, w17) (Prod.mk.inj (Option.some.inj h)) rfl
      · have h := if_t c12 h
        refine lv_iconst (v := 0) hx hb dX10_readClogOf_49 (by decide) ?_
        exact ret_z hC hr rfl hlk hP dX10_readClogOf_50 (w4, w5, read_) (Prod.mk.inj (Option.some.inj h)) rfl
set_option maxHeartbeats 8000000 in
set_option maxRecDepth 100000 in
theorem c_X10_readItem (l : Launch) (dC : Nat → ClassId) (dI : Nat → Nat → Nat) (cc : Nat → ClassId) (q0 q1 q2 q3 q4 q5 q6 q7 q8 q9 q10 q11 q12 q13 q14 q15 q16 q17 : Nat) (feetMany : Int32) (log_ : Int32) (block : Int32) (stocking : Int32) (acts : Int32) (keeps : Int32) (hears : Int32) (texted : Int32) (at_ : Int32) (readFeetMany : Int32) (readLog : Int32) (readBlock : Int32) (readStocking : Int32) (lefts_ : Int32) (rights_ : Int32) (text : (Nat → Int32)) (told : (Nat → Int32)) (read_ : (Nat → Int32)) (readFeet : (Nat → Int32)) (readKnot : (Nat → Int32)) (sz : Nat) (ret : Int32) (o_at_ : Int32) (o_told : (Nat → Int32)) (o_read_ : (Nat → Int32)) (o_readFeetMany : Int32) (o_readFeet : (Nat → Int32)) (o_readLog : Int32) (o_readBlock : Int32) (o_readKnot : (Nat → Int32)) (o_readStocking : Int32) (hu : f_X10_readItem texted at_ readFeetMany readLog readBlock readStocking text told read_ readFeet readKnot = some (ret, o_at_, o_told, o_read_, o_readFeetMany, o_readFeet, o_readLog, o_readBlock, o_readKnot, o_readStocking)) : Met l yX10_readItem (mw yX10_readItem cX10_readItem 2 (some .boolean)) ({ frames := 4, cells := 0, slots := 0, locals := 84 } : Room) (va_Pc [.ref q0] (mP (dC, dI) (ts cc) sz [(q0, .inr (10, [.int feetMany, .ref q1, .int log_, .int block, .ref q2, .int stocking, .ref q3, .int acts, .ref q4, .int keeps, .ref q5, .int hears, .ref q6, .ref q7, .int texted, .int at_, .ref q8, .ref q9, .int readFeetMany, .ref q10, .int readLog, .int readBlock, .ref q11, .int readStocking, .ref q12, .int lefts_, .int rights_, .ref q13, .ref q14, .ref q15, .ref q16, .ref q17])), (q7, .inl (cc 0, 200, .inl text)), (q8, .inl (cc 0, 4, .inl told)), (q9, .inl (cc 0, 52, .inl read_)), (q10, .inl (cc 0, 10, .inl readFeet)), (q11, .inl (cc 2, 40, .inl readKnot))])) ((fun A => va_Qi (fun (r : Int32) (w : Int32 × (Nat → Int32) × (Nat → Int32) × Int32 × (Nat → Int32) × Int32 × Int32 × (Nat → Int32) × Int32) => narrow .boolean (.int r) = .int r ∧ (r = ret ∧ w = (o_at_, o_told, o_read_, o_readFeetMany, o_readFeet, o_readLog, o_readBlock, o_readKnot, o_readStocking))) (fun (w : Int32 × (Nat → Int32) × (Nat → Int32) × Int32 × (Nat → Int32) × Int32 × Int32 × (Nat → Int32) × Int32) t => va_P (dC, dI) classes [(q0, .inr (10, [.int feetMany, .ref q1, .int log_, .int block, .ref q2, .int stocking, .ref q3, .int acts, .ref q4, .int keeps, .ref q5, .int hears, .ref q6, .ref q7, .int texted, .int w.1, .ref q8, .ref q9, .int w.2.2.2.1, .ref q10, .int w.2.2.2.2.2.1, .int w.2.2.2.2.2.2.1, .ref q11, .int w.2.2.2.2.2.2.2.2, .ref q12, .int lefts_, .int rights_, .ref q13, .ref q14, .ref q15, .ref q16, .ref q17])), (q7, .inl (cc 0, 200, .inl text)), (q8, .inl (cc 0, 4, .inl w.2.1)), (q9, .inl (cc 0, 52, .inl w.2.2.1)), (q10, .inl (cc 0, 10, .inl w.2.2.2.2.1)), (q11, .inl (cc 2, 40, .inl w.2.2.2.2.2.2.2.1))] t.heap) A) (va_A [(q0, .inr (10, [.int feetMany, .ref q1, .int log_, .int block, .ref q2, .int stocking, .ref q3, .int acts, .ref q4, .int keeps, .ref q5, .int hears, .ref q6, .ref q7, .int texted, .int at_, .ref q8, .ref q9, .int readFeetMany, .ref q10, .int readLog, .int readBlock, .ref q11, .int readStocking, .ref q12, .int lefts_, .int rights_, .ref q13, .ref q14, .ref q15, .ref q16, .ref q17])), (q7, .inl (cc 0, 200, .inl text)), (q8, .inl (cc 0, 4, .inl told)), (q9, .inl (cc 0, 52, .inl read_)), (q10, .inl (cc 0, 10, .inl readFeet)), (q11, .inl (cc 2, 40, .inl readKnot))] sz)) 0 0 (va_A [(q0, .inr (10, [.int feetMany, .ref q1, .int log_, .int block, .ref q2, .int stocking, .ref q3, .int acts, .ref q4, .int keeps, .ref q5, .int hears, .ref q6, .ref q7, .int texted, .int at_, .ref q8, .ref q9, .int readFeetMany, .ref q10, .int readLog, .int readBlock, .ref q11, .int readStocking, .ref q12, .int lefts_, .int rights_, .ref q13, .ref q14, .ref q15, .ref q16, .ref q17])), (q7, .inl (cc 0, 200, .inl text)), (q8, .inl (cc 0, 4, .inl told)), (q9, .inl (cc 0, 52, .inl read_)), (q10, .inl (cc 0, 10, .inl readFeet)), (q11, .inl (cc 2, 40, .inl readKnot))] sz) := by
  refine met_go (Qc := fun A => va_Qi (fun (r : Int32) (w : Int32 × (Nat → Int32) × (Nat → Int32) × Int32 × (Nat → Int32) × Int32 × Int32 × (Nat → Int32) × Int32) => narrow .boolean (.int r) = .int r ∧ (r = ret ∧ w = (o_at_, o_told, o_read_, o_readFeetMany, o_readFeet, o_readLog, o_readBlock, o_readKnot, o_readStocking))) (fun (w : Int32 × (Nat → Int32) × (Nat → Int32) × Int32 × (Nat → Int32) × Int32 × Int32 × (Nat → Int32) × Int32) t => va_P (dC, dI) classes [(q0, .inr (10, [.int feetMany, .ref q1, .int log_, .int block, .ref q2, .int stocking, .ref q3, .int acts, .ref q4, .int keeps, .ref q5, .int hears, .ref q6, .ref q7, .int texted, .int w.1, .ref q8, .ref q9, .int w.2.2.2.1, .ref q10, .int w.2.2.2.2.2.1, .int w.2.2.2.2.2.2.1, .ref q11, .int w.2.2.2.2.2.2.2.2, .ref q12, .int lefts_, .int rights_, .ref q13, .ref q14, .ref q15, .ref q16, .ref q17])), (q7, .inl (cc 0, 200, .inl text)), (q8, .inl (cc 0, 4, .inl w.2.1)), (q9, .inl (cc 0, 52, .inl w.2.2.1)), (q10, .inl (cc 0, 10, .inl w.2.2.2.2.1)), (q11, .inl (cc 2, 40, .inl w.2.2.2.2.2.2.2.1))] t.heap) A) (by decide) (Nat.le_of_ble_eq_true rfl) ?_
  intro p e s m below meth c A ls H locs hC hr hlk hin hA hP hl _
  have hC : CX p m c cX10_readItem 2 s ([.ref q0] : List Value).toArray RX10 (dC, dI) (ts cc) := hC
  have hx := hC.1.1
  have hb := hC.1.2
  have h := hu
  have hu0 := hu
  unfold f_X10_readItem at h
  have hl : lv_has ls 2 [(0, .ref q0)] := hl
  refine lv_aload_n hx hb dX10_readItem_0 rfl (lv_at hl 0 rfl) ?_
  refine lv_aload_n hx hb dX10_readItem_1 rfl (lv_at hl 0 rfl) ?_
  refine g_get hC hP fg_X10_97 0 rfl rfl dX10_readItem_2 ?_
  obtain ⟨r1, hu, h⟩ := bnd_h h
  refine kc_i (kV hC (c_X10_letterAt l dC dI cc q0 q1 q2 q3 q4 q5 q6 q7 q8 q9 q10 q11 q12 q13 q14 q15 q16 q17 feetMany log_ block stocking acts keeps hears texted at_ readFeetMany readLog readBlock readStocking lefts_ rights_ text at_ H.size r1 hu) cv_X10_100 kw928 rfl rfl ⟨(Nat.le_of_ble_eq_true rfl), (Nat.le_of_ble_eq_true rfl)⟩ hP [0, 1] rfl rfl rfl (q0 := 0) rfl (As := [.int at_]) (rest := []) rfl rfl hl.1 (Nat.le_of_ble_eq_true rfl) dX10_readItem_5 ⟨Nat.zero_le _, Nat.zero_le _⟩) hP hA [0, 1] rfl rfl (fun H locs hP => ?_)
  have hP : PD (dC, dI) A s.heap [(q0, .inr (10, [.int feetMany, .ref q1, .int log_, .int block, .ref q2, .int stocking, .ref q3, .int acts, .ref q4, .int keeps, .ref q5, .int hears, .ref q6, .ref q7, .int texted, .int at_, .ref q8, .ref q9, .int readFeetMany, .ref q10, .int readLog, .int readBlock, .ref q11, .int readStocking, .ref q12, .int lefts_, .int rights_, .ref q13, .ref q14, .ref q15, .ref q16, .ref q17])), (q7, .inl (cc 0, 200, .inl text)), (q8, .inl (cc 0, 4, .inl told)), (q9, .inl (cc 0, 52, .inl read_)), (q10, .inl (cc 0, 10, .inl readFeet)), (q11, .inl (cc 2, 40, .inl readKnot))] H locs := hP
  refine lv_istore_n (lv' := [(1, .int r1), (0, .ref q0)]) hx hb dX10_readItem_8 rfl hl (by decide) rfl (fun ls hl => ?_)
  refine lv_aload_n hx hb dX10_readItem_9 rfl (lv_at hl 1 rfl) ?_
  refine lv_dup hx hb dX10_readItem_10 rfl ?_
  refine g_get hC hP fg_X10_97 0 rfl rfl dX10_readItem_11 ?_
  refine lv_iconst (v := 1) hx hb dX10_readItem_14 (by decide) ?_
  refine lv_iadd hx hb dX10_readItem_15 ?_
  refine g_put hC hP fg_X10_97 0 rfl rfl rfl (Nat.le_of_ble_eq_true rfl) dX10_readItem_16 (fun H locs hP => ?_)
  have hP : PD (dC, dI) A s.heap [(q0, .inr (10, [.int feetMany, .ref q1, .int log_, .int block, .ref q2, .int stocking, .ref q3, .int acts, .ref q4, .int keeps, .ref q5, .int hears, .ref q6, .ref q7, .int texted, .int (at_ + 1), .ref q8, .ref q9, .int readFeetMany, .ref q10, .int readLog, .int readBlock, .ref q11, .int readStocking, .ref q12, .int lefts_, .int rights_, .ref q13, .ref q14, .ref q15, .ref q16, .ref q17])), (q7, .inl (cc 0, 200, .inl text)), (q8, .inl (cc 0, 4, .inl told)), (q9, .inl (cc 0, 52, .inl read_)), (q10, .inl (cc 0, 10, .inl readFeet)), (q11, .inl (cc 2, 40, .inl readKnot))] H locs := hP
  refine lv_iload_n hx hb dX10_readItem_19 rfl (lv_at hl 0 rfl) ?_
  by_cases c2 : r1 = 99
  · have h := if_t c2 h
    refine lv_lookup (tgt := 72) hx hb dX10_readItem_20 (by decide) (by first | (rw [c2]; done) | (rw [c2]; rfl)) (by decide) ?_
    refine lv_aload_n hx hb dX10_readItem_72 rfl (lv_at hl 1 rfl) ?_
    obtain ⟨⟨r3, w4, w5, w6⟩, hu, h⟩ := bnd_h h
    refine kc_z (kV hC (c_X10_readClogOf l dC dI cc q0 q1 q2 q3 q4 q5 q6 q7 q8 q9 q10 q11 q12 q13 q14 q15 q16 q17 feetMany log_ block stocking acts keeps hears texted (at_ + 1) readFeetMany readLog readBlock readStocking lefts_ rights_ text told read_ H.size r3 w4 w5 w6 hu) cv_X10_121 kw932 rfl rfl ⟨(Nat.le_of_ble_eq_true rfl), (Nat.le_of_ble_eq_true rfl)⟩ hP [0, 1, 2, 3] rfl rfl rfl (q0 := 0) rfl (As := []) (rest := []) rfl rfl hl.1 (Nat.le_of_ble_eq_true rfl) dX10_readItem_73 ⟨Nat.zero_le _, Nat.zero_le _⟩) hP hA [0, 1, 2, 3] rfl rfl (fun hz_r3 H locs hP => ?_)
    have hP : PD (dC, dI) A s.heap [(q0, .inr (10, [.int feetMany, .ref q1, .int log_, .int block, .ref q2, .int stocking, .ref q3, .int acts, .ref q4, .int keeps, .ref q5, .int hears, .ref q6, .ref q7, .int texted, .int w4, .ref q8, .ref q9, .int readFeetMany, .ref q10, .int readLog, .int readBlock, .ref q11, .int readStocking, .ref q12, .int lefts_, .int rights_, .ref q13, .ref q14, .ref q15, .ref q16, .ref q17])), (q7, .inl (cc 0, 200, .inl text)), (q8, .inl (cc 0, 4, .inl w5)), (q9, .inl (cc 0, 52, .inl w6)), (q10, .inl (cc 0, 10, .inl readFeet)), (q11, .inl (cc 2, 40, .inl readKnot))] H locs := hP
    exact ret_z hC hr hz_r3 hlk hP dX10_readItem_76 (w4, w5, w6, readFeetMany, readFeet, readLog, readBlock, readKnot, readStocking) (Prod.mk.inj (Option.some.inj h)) rfl
  · have h := if_f c2 h
    by_cases c7 : r1 = 102
    · have h := if_t c7 h
      refine lv_lookup (tgt := 77) hx hb dX10_readItem_20 (by decide) (by first | (rw [c7]; done) | (rw [c7]; rfl)) (by decide) ?_
      refine lv_aload_n hx hb dX10_readItem_77 rfl (lv_at hl 1 rfl) ?_
      obtain ⟨⟨r8, w9, w10, w11, w12⟩, hu, h⟩ := bnd_h h
      refine kc_z (kV hC (c_X10_readFeetOf l dC dI cc q0 q1 q2 q3 q4 q5 q6 q7 q8 q9 q10 q11 q12 q13 q14 q15 q16 q17 feetMany log_ block stocking acts keeps hears texted (at_ + 1) readFeetMany readLog readBlock readStocking lefts_ rights_ text told readFeet H.size r8 w9 w10 w11 w12 hu) cv_X10_125 kw946 rfl rfl ⟨(Nat.le_of_ble_eq_true rfl), (Nat.le_of_ble_eq_true rfl)⟩ hP [0, 1, 2, 4] rfl rfl rfl (q0 := 0) rfl (As := []) (rest := []) rfl rfl hl.1 (Nat.le_of_ble_eq_true rfl) dX10_readItem_78 ⟨Nat.zero_le _, Nat.zero_le _⟩) hP hA [0, 1, 2, 4] rfl rfl (fun hz_r8 H locs hP => ?_)
      have hP : PD (dC, dI) A s.heap [(q0, .inr (10, [.int feetMany, .ref q1, .int log_, .int block, .ref q2, .int stocking, .ref q3, .int acts, .ref q4, .int keeps, .ref q5, .int hears, .ref q6, .ref q7, .int texted, .int w9, .ref q8, .ref q9, .int w11, .ref q10, .int readLog, .int readBlock, .ref q11, .int readStocking, .ref q12, .int lefts_, .int rights_, .ref q13, .ref q14, .ref q15, .ref q16, .ref q17])), (q7, .inl (cc 0, 200, .inl text)), (q8, .inl (cc 0, 4, .inl w10)), (q9, .inl (cc 0, 52, .inl read_)), (q10, .inl (cc 0, 10, .inl w12)), (q11, .inl (cc 2, 40, .inl readKnot))] H locs := hP
      exact ret_z hC hr hz_r8 hlk hP dX10_readItem_81 (w9, w10, read_, w11, w12, readLog, readBlock, readKnot, readStocking) (Prod.mk.inj (Option.some.inj h)) rfl
    · have h := if_f c7 h
      by_cases c13 : r1 = 103
      · have h := if_t c13 h
        refine lv_lookup (tgt := 82) hx hb dX10_readItem_20 (by decide) (by first | (rw [c13]; done) | (rw [c13]; rfl)) (by decide) ?_
        refine lv_aload_n hx hb dX10_readItem_82 rfl (lv_at hl 1 rfl) ?_
        obtain ⟨⟨r14, w15, w16, w17, w18⟩, hu, h⟩ := bnd_h h
        refine kc_z (kV hC (c_X10_readLogOf l dC dI cc q0 q1 q2 q3 q4 q5 q6 q7 q8 q9 q10 q11 q12 q13 q14 q15 q16 q17 feetMany log_ block stocking acts keeps hears texted (at_ + 1) readFeetMany readLog readBlock readStocking lefts_ rights_ text told H.size r14 w15 w16 w17 w18 hu) cv_X10_128 kw954 rfl rfl ⟨(Nat.le_of_ble_eq_true rfl), (Nat.le_of_ble_eq_true rfl)⟩ hP [0, 1, 2] rfl rfl rfl (q0 := 0) rfl (As := []) (rest := []) rfl rfl hl.1 (Nat.le_of_ble_eq_true rfl) dX10_readItem_83 ⟨Nat.zero_le _, Nat.zero_le _⟩) hP hA [0, 1, 2] rfl rfl (fun hz_r14 H locs hP => ?_)
        have hP : PD (dC, dI) A s.heap [(q0, .inr (10, [.int feetMany, .ref q1, .int log_, .int block, .ref q2, .int stocking, .ref q3, .int acts, .ref q4, .int keeps, .ref q5, .int hears, .ref q6, .ref q7, .int texted, .int w15, .ref q8, .ref q9, .int readFeetMany, .ref q10, .int w17, .int w18, .ref q11, .int readStocking, .ref q12, .int lefts_, .int rights_, .ref q13, .ref q14, .ref q15, .ref q16, .ref q17])), (q7, .inl (cc 0, 200, .inl text)), (q8, .inl (cc 0, 4, .inl w16)), (q9, .inl (cc 0, 52, .inl read_)), (q10, .inl (cc 0, 10, .inl readFeet)), (q11, .inl (cc 2, 40, .inl readKnot))] H locs := hP
        exact ret_z hC hr hz_r14 hlk hP dX10_readItem_86 (w15, w16, read_, readFeetMany, readFeet, w17, w18, readKnot, readStocking) (Prod.mk.inj (Option.some.inj h)) rfl
      · have h := if_f c13 h
        by_cases c19 : r1 = 107
        · have h := if_t c19 h
          refine lv_lookup (tgt := 87) hx hb dX10_readItem_20 (by decide) (by first | (rw [c19]; done) | (rw [c19]; rfl)) (by decide) ?_
          refine lv_aload_n hx hb dX10_readItem_87 rfl (lv_at hl 1 rfl) ?_
          obtain ⟨⟨r20, w21, w22, w23⟩, hu, h⟩ := bnd_h h
          refine kc_z (kV hC (c_X10_readKnotOf l dC dI cc q0 q1 q2 q3 q4 q5 q6 q7 q8 q9 q10 q11 q12 q13 q14 q15 q16 q17 feetMany log_ block stocking acts keeps hears texted (at_ + 1) readFeetMany readLog readBlock readStocking lefts_ rights_ text told readKnot H.size r20 w21 w22 w23 hu) cv_X10_131 kw958 rfl rfl ⟨(Nat.le_of_ble_eq_true rfl), (Nat.le_of_ble_eq_true rfl)⟩ hP [0, 1, 2, 5] rfl rfl rfl (q0 := 0) rfl (As := []) (rest := []) rfl rfl hl.1 (Nat.le_of_ble_eq_true rfl) dX10_readItem_88 ⟨Nat.zero_le _, Nat.zero_le _⟩) hP hA [0, 1, 2, 5] rfl rfl (fun hz_r20 H locs hP => ?_)
          have hP : PD (dC, dI) A s.heap [(q0, .inr (10, [.int feetMany, .ref q1, .int log_, .int block, .ref q2, .int stocking, .ref q3, .int acts, .ref q4, .int keeps, .ref q5, .int hears, .ref q6, .ref q7, .int texted, .int w21, .ref q8, .ref q9, .int readFeetMany, .ref q10, .int readLog, .int readBlock, .ref q11, .int readStocking, .ref q12, .int lefts_, .int rights_, .ref q13, .ref q14, .ref q15, .ref q16, .ref q17])), (q7, .inl (cc 0, 200, .inl text)), (q8, .inl (cc 0, 4, .inl w22)), (q9, .inl (cc 0, 52, .inl read_)), (q10, .inl (cc 0, 10, .inl readFeet)), (q11, .inl (cc 2, 40, .inl w23))] H locs := hP
          exact ret_z hC hr hz_r20 hlk hP dX10_readItem_91 (w21, w22, read_, readFeetMany, readFeet, readLog, readBlock, w23, readStocking) (Prod.mk.inj (Option.some.inj h)) rfl
        · have h := if_f c19 h
          by_cases c24 : r1 = 115
          · have h := if_t c24 h
            refine lv_lookup (tgt := 92) hx hb dX10_readItem_20 (by decide) (by first | (rw [c24]; done) | (rw [c24]; rfl)) (by decide) ?_
            refine lv_aload_n hx hb dX10_readItem_92 rfl (lv_at hl 1 rfl) ?_
            obtain ⟨⟨r25, w26, w27, w28⟩, hu, h⟩ := bnd_h h
            refine kc_z (kV hC (c_X10_readStockingOf l dC dI cc q0 q1 q2 q3 q4 q5 q6 q7 q8 q9 q10 q11 q12 q13 q14 q15 q16 q17 feetMany log_ block stocking acts keeps hears texted (at_ + 1) readFeetMany readLog readBlock readStocking lefts_ rights_ text told H.size r25 w26 w27 w28 hu) cv_X10_134 kw962 rfl rfl ⟨(Nat.le_of_ble_eq_true rfl), (Nat.le_of_ble_eq_true rfl)⟩ hP [0, 1, 2] rfl rfl rfl (q0 := 0) rfl (As := []) (rest := []) rfl rfl hl.1 (Nat.le_of_ble_eq_true rfl) dX10_readItem_93 ⟨Nat.zero_le _, Nat.zero_le _⟩) hP hA [0, 1, 2] rfl rfl (fun hz_r25 H locs hP => ?_)
            have hP : PD (dC, dI) A s.heap [(q0, .inr (10, [.int feetMany, .ref q1, .int log_, .int block, .ref q2, .int stocking, .ref q3, .int acts, .ref q4, .int keeps, .ref q5, .int hears, .ref q6, .ref q7, .int texted, .int w26, .ref q8, .ref q9, .int readFeetMany, .ref q10, .int readLog, .int readBlock, .ref q11, .int w28, .ref q12, .int lefts_, .int rights_, .ref q13, .ref q14, .ref q15, .ref q16, .ref q17])), (q7, .inl (cc 0, 200, .inl text)), (q8, .inl (cc 0, 4, .inl w27)), (q9, .inl (cc 0, 52, .inl read_)), (q10, .inl (cc 0, 10, .inl readFeet)), (q11, .inl (cc 2, 40, .inl readKnot))] H locs := hP
            exact ret_z hC hr hz_r25 hlk hP dX10_readItem_96 (w26, w27, read_, readFeetMany, readFeet, readLog, readBlock, readKnot, w28) (Prod.mk.inj (Option.some.inj h)) rfl
          · have h := if_f c24 h
            refine lv_lookup (tgt := 97) hx hb dX10_readItem_20 (by decide) (sw_out_X10_readItem_20 c2 c7 c13 c19 c24) (by decide) ?_
            refine lv_iconst (v := 0) hx hb dX10_readItem_97 (by decide) ?_
            exact ret_z hC hr rfl hlk hP dX10_readItem_98 ((at_ + 1), told, read_, readFeetMany, readFeet, readLog, readBlock, readKnot, readStocking) (Prod.mk.inj (Option.some.inj h)) rfl
set_option maxHeartbeats 8000000 in
set_option maxRecDepth 100000 in
theorem c_X10_fault (l : Launch) (dC : Nat → ClassId) (dI : Nat → Nat → Nat) (cc : Nat → ClassId) (q0 q1 q2 q3 q4 q5 q6 q7 q8 q9 q10 q11 q12 q13 q14 q15 q16 q17 : Nat) (feetMany : Int32) (log_ : Int32) (block : Int32) (stocking : Int32) (acts : Int32) (keeps : Int32) (hears : Int32) (texted : Int32) (at_ : Int32) (readFeetMany : Int32) (readLog : Int32) (readBlock : Int32) (readStocking : Int32) (lefts_ : Int32) (rights_ : Int32) (text : (Nat → Int32)) (told : (Nat → Int32)) (read_ : (Nat → Int32)) (readFeet : (Nat → Int32)) (readKnot : (Nat → Int32)) (sz : Nat) (ret : Int32) (o_at_ : Int32) (o_told : (Nat → Int32)) (o_read_ : (Nat → Int32)) (o_readFeetMany : Int32) (o_readFeet : (Nat → Int32)) (o_readLog : Int32) (o_readBlock : Int32) (o_readKnot : (Nat → Int32)) (o_readStocking : Int32) (hu : f_X10_fault texted text told read_ readFeet readKnot = some (ret, o_at_, o_told, o_read_, o_readFeetMany, o_readFeet, o_readLog, o_readBlock, o_readKnot, o_readStocking)) : Met l yX10_fault (mw yX10_fault cX10_fault 2 (some .int)) ({ frames := 5, cells := 0, slots := 0, locals := 105 } : Room) (va_Pc [.ref q0] (mP (dC, dI) (ts cc) sz [(q0, .inr (10, [.int feetMany, .ref q1, .int log_, .int block, .ref q2, .int stocking, .ref q3, .int acts, .ref q4, .int keeps, .ref q5, .int hears, .ref q6, .ref q7, .int texted, .int at_, .ref q8, .ref q9, .int readFeetMany, .ref q10, .int readLog, .int readBlock, .ref q11, .int readStocking, .ref q12, .int lefts_, .int rights_, .ref q13, .ref q14, .ref q15, .ref q16, .ref q17])), (q7, .inl (cc 0, 200, .inl text)), (q8, .inl (cc 0, 4, .inl told)), (q9, .inl (cc 0, 52, .inl read_)), (q10, .inl (cc 0, 10, .inl readFeet)), (q11, .inl (cc 2, 40, .inl readKnot))])) ((fun A => va_Qi (fun (r : Int32) (w : Int32 × (Nat → Int32) × (Nat → Int32) × Int32 × (Nat → Int32) × Int32 × Int32 × (Nat → Int32) × Int32) => r = ret ∧ w = (o_at_, o_told, o_read_, o_readFeetMany, o_readFeet, o_readLog, o_readBlock, o_readKnot, o_readStocking)) (fun (w : Int32 × (Nat → Int32) × (Nat → Int32) × Int32 × (Nat → Int32) × Int32 × Int32 × (Nat → Int32) × Int32) t => va_P (dC, dI) classes [(q0, .inr (10, [.int feetMany, .ref q1, .int log_, .int block, .ref q2, .int stocking, .ref q3, .int acts, .ref q4, .int keeps, .ref q5, .int hears, .ref q6, .ref q7, .int texted, .int w.1, .ref q8, .ref q9, .int w.2.2.2.1, .ref q10, .int w.2.2.2.2.2.1, .int w.2.2.2.2.2.2.1, .ref q11, .int w.2.2.2.2.2.2.2.2, .ref q12, .int lefts_, .int rights_, .ref q13, .ref q14, .ref q15, .ref q16, .ref q17])), (q7, .inl (cc 0, 200, .inl text)), (q8, .inl (cc 0, 4, .inl w.2.1)), (q9, .inl (cc 0, 52, .inl w.2.2.1)), (q10, .inl (cc 0, 10, .inl w.2.2.2.2.1)), (q11, .inl (cc 2, 40, .inl w.2.2.2.2.2.2.2.1))] t.heap) A) (va_A [(q0, .inr (10, [.int feetMany, .ref q1, .int log_, .int block, .ref q2, .int stocking, .ref q3, .int acts, .ref q4, .int keeps, .ref q5, .int hears, .ref q6, .ref q7, .int texted, .int at_, .ref q8, .ref q9, .int readFeetMany, .ref q10, .int readLog, .int readBlock, .ref q11, .int readStocking, .ref q12, .int lefts_, .int rights_, .ref q13, .ref q14, .ref q15, .ref q16, .ref q17])), (q7, .inl (cc 0, 200, .inl text)), (q8, .inl (cc 0, 4, .inl told)), (q9, .inl (cc 0, 52, .inl read_)), (q10, .inl (cc 0, 10, .inl readFeet)), (q11, .inl (cc 2, 40, .inl readKnot))] sz)) 0 0 (va_A [(q0, .inr (10, [.int feetMany, .ref q1, .int log_, .int block, .ref q2, .int stocking, .ref q3, .int acts, .ref q4, .int keeps, .ref q5, .int hears, .ref q6, .ref q7, .int texted, .int at_, .ref q8, .ref q9, .int readFeetMany, .ref q10, .int readLog, .int readBlock, .ref q11, .int readStocking, .ref q12, .int lefts_, .int rights_, .ref q13, .ref q14, .ref q15, .ref q16, .ref q17])), (q7, .inl (cc 0, 200, .inl text)), (q8, .inl (cc 0, 4, .inl told)), (q9, .inl (cc 0, 52, .inl read_)), (q10, .inl (cc 0, 10, .inl readFeet)), (q11, .inl (cc 2, 40, .inl readKnot))] sz) := by
  refine met_go (Qc := fun A => va_Qi (fun (r : Int32) (w : Int32 × (Nat → Int32) × (Nat → Int32) × Int32 × (Nat → Int32) × Int32 × Int32 × (Nat → Int32) × Int32) => r = ret ∧ w = (o_at_, o_told, o_read_, o_readFeetMany, o_readFeet, o_readLog, o_readBlock, o_readKnot, o_readStocking)) (fun (w : Int32 × (Nat → Int32) × (Nat → Int32) × Int32 × (Nat → Int32) × Int32 × Int32 × (Nat → Int32) × Int32) t => va_P (dC, dI) classes [(q0, .inr (10, [.int feetMany, .ref q1, .int log_, .int block, .ref q2, .int stocking, .ref q3, .int acts, .ref q4, .int keeps, .ref q5, .int hears, .ref q6, .ref q7, .int texted, .int w.1, .ref q8, .ref q9, .int w.2.2.2.1, .ref q10, .int w.2.2.2.2.2.1, .int w.2.2.2.2.2.2.1, .ref q11, .int w.2.2.2.2.2.2.2.2, .ref q12, .int lefts_, .int rights_, .ref q13, .ref q14, .ref q15, .ref q16, .ref q17])), (q7, .inl (cc 0, 200, .inl text)), (q8, .inl (cc 0, 4, .inl w.2.1)), (q9, .inl (cc 0, 52, .inl w.2.2.1)), (q10, .inl (cc 0, 10, .inl w.2.2.2.2.1)), (q11, .inl (cc 2, 40, .inl w.2.2.2.2.2.2.2.1))] t.heap) A) (by decide) (Nat.le_of_ble_eq_true rfl) ?_
  intro p e s m below meth c A ls H locs hC hr hlk hin hA hP hl _
  have hC : CX p m c cX10_fault 2 s ([.ref q0] : List Value).toArray RX10 (dC, dI) (ts cc) := hC
  have hx := hC.1.1
  have hb := hC.1.2
  have h := hu
  have hu0 := hu
  unfold f_X10_fault at h
  have hl : lv_has ls 2 [(0, .ref q0)] := hl
  refine W_abs (fun Z eZ => ?_)
  refine lv_aload_n hx hb dX10_fault_0 rfl (lv_at hl 0 rfl) ?_
  refine lv_iconst (v := 0) hx hb dX10_fault_1 (by decide) ?_
  refine g_put hC hP fg_X10_97 0 rfl rfl rfl (Nat.le_of_ble_eq_true rfl) dX10_fault_2 (fun H locs hP => ?_)
  have hP : PD (dC, dI) A s.heap [(q0, .inr (10, [.int feetMany, .ref q1, .int log_, .int block, .ref q2, .int stocking, .ref q3, .int acts, .ref q4, .int keeps, .ref q5, .int hears, .ref q6, .ref q7, .int texted, .int 0, .ref q8, .ref q9, .int readFeetMany, .ref q10, .int readLog, .int readBlock, .ref q11, .int readStocking, .ref q12, .int lefts_, .int rights_, .ref q13, .ref q14, .ref q15, .ref q16, .ref q17])), (q7, .inl (cc 0, 200, .inl text)), (q8, .inl (cc 0, 4, .inl told)), (q9, .inl (cc 0, 52, .inl read_)), (q10, .inl (cc 0, 10, .inl readFeet)), (q11, .inl (cc 2, 40, .inl readKnot))] H locs := hP
  refine lv_aload_n hx hb dX10_fault_5 rfl (lv_at hl 0 rfl) ?_
  obtain ⟨⟨w1, w2, w3, w4, w5, w6⟩, hu, h⟩ := bnd_h h
  refine kc_v (kV hC (c_X10_clearTold l dC dI cc q0 q1 q2 q3 q4 q5 q6 q7 q8 q9 q10 q11 q12 q13 q14 q15 q16 q17 feetMany log_ block stocking acts keeps hears texted 0 readFeetMany readLog readBlock readStocking lefts_ rights_ read_ readKnot H.size w1 w2 w3 w4 w5 w6 hu) cv_X10_62 kw789 rfl rfl ⟨(Nat.le_of_ble_eq_true rfl), (Nat.le_of_ble_eq_true rfl)⟩ hP [0, 3, 5] rfl rfl rfl (q0 := 0) rfl (As := []) (rest := []) rfl rfl hl.1 (Nat.le_of_ble_eq_true rfl) dX10_fault_6 ⟨Nat.zero_le _, Nat.zero_le _⟩) hP hA [0, 3, 5] rfl rfl (fun H locs hP => ?_)
  have hP : PD (dC, dI) A s.heap [(q0, .inr (10, [.int feetMany, .ref q1, .int log_, .int block, .ref q2, .int stocking, .ref q3, .int acts, .ref q4, .int keeps, .ref q5, .int hears, .ref q6, .ref q7, .int texted, .int 0, .ref q8, .ref q9, .int w2, .ref q10, .int w3, .int w4, .ref q11, .int w6, .ref q12, .int lefts_, .int rights_, .ref q13, .ref q14, .ref q15, .ref q16, .ref q17])), (q7, .inl (cc 0, 200, .inl text)), (q8, .inl (cc 0, 4, .inl told)), (q9, .inl (cc 0, 52, .inl w1)), (q10, .inl (cc 0, 10, .inl readFeet)), (q11, .inl (cc 2, 40, .inl w5))] H locs := hP
  obtain ⟨z, hlp, hk, hj⟩ := bndE_h h
  have L1 : ∀ (n : Nat) (w7 : Int32) (w8 : Int32) (w9 : Int32) (w10 : Int32) (w11 : Int32) (w12 : (Nat → Int32)) (w13 : (Nat → Int32)) (w14 : (Nat → Int32)) (w15 : (Nat → Int32)) (z : ((Int32 × Int32 × Int32 × Int32 × Int32 × (Nat → Int32) × (Nat → Int32) × (Nat → Int32) × (Nat → Int32)) ⊕ (Int32 × Int32 × (Nat → Int32) × (Nat → Int32) × Int32 × (Nat → Int32) × Int32 × Int32 × (Nat → Int32) × Int32))), lp (u9 (b_X10_fault_1 text texted)) n (w7, w8, w9, w10, w11, w12, w13, w14, w15) = some z → ∀ (H : Heap) (locs : List Loc) (ls : Array Slot), PD (dC, dI) A s.heap [(q0, .inr (10, [.int feetMany, .ref q1, .int log_, .int block, .ref q2, .int stocking, .ref q3, .int acts, .ref q4, .int keeps, .ref q5, .int hears, .ref q6, .ref q7, .int texted, .int w7, .ref q8, .ref q9, .int w8, .ref q10, .int w9, .int w10, .ref q11, .int w11, .ref q12, .int lefts_, .int rights_, .ref q13, .ref q14, .ref q15, .ref q16, .ref q17])), (q7, .inl (cc 0, 200, .inl text)), (q8, .inl (cc 0, 4, .inl w12)), (q9, .inl (cc 0, 52, .inl w13)), (q10, .inl (cc 0, 10, .inl w14)), (q11, .inl (cc 2, 40, .inl w15))] H locs → lv_has ls 2 [(0, .ref q0)] → (∀ (w7x : Int32) (w8x : Int32) (w9x : Int32) (w10x : Int32) (w11x : Int32) (w12x : (Nat → Int32)) (w13x : (Nat → Int32)) (w14x : (Nat → Int32)) (w15x : (Nat → Int32)), z = .inl (w7x, w8x, w9x, w10x, w11x, w12x, w13x, w14x, w15x) → ∀ (H : Heap) (locs : List Loc) (ls : Array Slot), PD (dC, dI) A s.heap [(q0, .inr (10, [.int feetMany, .ref q1, .int log_, .int block, .ref q2, .int stocking, .ref q3, .int acts, .ref q4, .int keeps, .ref q5, .int hears, .ref q6, .ref q7, .int texted, .int w7x, .ref q8, .ref q9, .int w8x, .ref q10, .int w9x, .int w10x, .ref q11, .int w11x, .ref q12, .int lefts_, .int rights_, .ref q13, .ref q14, .ref q15, .ref q16, .ref q17])), (q7, .inl (cc 0, 200, .inl text)), (q8, .inl (cc 0, 4, .inl w12x)), (q9, .inl (cc 0, 52, .inl w13x)), (q10, .inl (cc 0, 10, .inl w14x)), (q11, .inl (cc 2, 40, .inl w15x))] H locs → lv_has ls 2 [(0, .ref q0)] → W p l e ({ frames := 5, cells := 0, slots := 0, locals := 105 } : Room) s m ([.ref q0] : List Value).toArray below meth c H locs 0 0 Z (F0 m 37 ls [])) → (∀ q, z = .inr q → q = (ret, o_at_, o_told, o_read_, o_readFeetMany, o_readFeet, o_readLog, o_readBlock, o_readKnot, o_readStocking)) → W p l e ({ frames := 5, cells := 0, slots := 0, locals := 105 } : Room) s m ([.ref q0] : List Value).toArray below meth c H locs 0 0 Z (F0 m 9 ls []) := by
    intro n
    induction n with
    | zero => intro w7 w8 w9 w10 w11 w12 w13 w14 w15 z h; exact (lp_0 h).elim
    | succ n ih =>
      intro w7 w8 w9 w10 w11 w12 w13 w14 w15 z h H locs ls hP hl KK KR
      obtain ⟨y, h, hz⟩ := lp_h h
      refine lv_aload_n hx hb dX10_fault_9 rfl (lv_at hl 0 rfl) ?_
      refine g_get hC hP fg_X10_97 0 rfl rfl dX10_fault_10 ?_
      refine lv_aload_n hx hb dX10_fault_13 rfl (lv_at hl 0 rfl) ?_
      refine g_get hC hP fg_X10_94 0 rfl rfl dX10_fault_14 ?_
      refine lv_icmp_ge (tgt := 37) hx hb dX10_fault_17 (by decide) (fun c16 => ?_) (fun c16 => ?_)
      · have h := if_t c16 h
        exact KK w7 w8 w9 w10 w11 w12 w13 w14 w15 (lp_e h hz).symm H locs ls hP (lv_sub hl [0] rfl)
      · have h := if_f c16 h
        refine lv_aload_n hx hb dX10_fault_20 rfl (lv_at hl 0 rfl) ?_
        refine g_get hC hP fg_X10_97 0 rfl rfl dX10_fault_21 ?_
        refine lv_istore_n (lv' := [(1, .int w7), (0, .ref q0)]) hx hb dX10_fault_24 rfl hl (by decide) rfl (fun ls hl => ?_)
        refine lv_aload_n hx hb dX10_fault_25 rfl (lv_at hl 1 rfl) ?_
        obtain ⟨⟨r17, w18, w19, w20, w21, w22, w23, w24, w25, w26⟩, hu, h⟩ := bnd_h h
        refine kc_z (kV hC (c_X10_readItem l dC dI cc q0 q1 q2 q3 q4 q5 q6 q7 q8 q9 q10 q11 q12 q13 q14 q15 q16 q17 feetMany log_ block stocking acts keeps hears texted w7 w8 w9 w10 w11 lefts_ rights_ text w12 w13 w14 w15 H.size r17 w18 w19 w20 w21 w22 w23 w24 w25 w26 hu) cv_X10_137 kw924 rfl rfl ⟨(Nat.le_of_ble_eq_true rfl), (Nat.le_of_ble_eq_true rfl)⟩ hP [0, 1, 2, 3, 4, 5] rfl rfl rfl (q0 := 0) rfl (As := []) (rest := []) rfl rfl hl.1 (Nat.le_of_ble_eq_true rfl) dX10_fault_26 ⟨Nat.zero_le _, Nat.zero_le _⟩) hP hA [0, 1, 2, 3, 4, 5] rfl rfl (fun hz_r17 H locs hP => ?_)
        have hP : PD (dC, dI) A s.heap [(q0, .inr (10, [.int feetMany, .ref q1, .int log_, .int block, .ref q2, .int stocking, .ref q3, .int acts, .ref q4, .int keeps, .ref q5, .int hears, .ref q6, .ref q7, .int texted, .int w18, .ref q8, .ref q9, .int w21, .ref q10, .int w23, .int w24, .ref q11, .int w26, .ref q12, .int lefts_, .int rights_, .ref q13, .ref q14, .ref q15, .ref q16, .ref q17])), (q7, .inl (cc 0, 200, .inl text)), (q8, .inl (cc 0, 4, .inl w19)), (q9, .inl (cc 0, 52, .inl w20)), (q10, .inl (cc 0, 10, .inl w22)), (q11, .inl (cc 2, 40, .inl w25))] H locs := hP
        refine lv_if_ne (tgt := 34) hx hb dX10_fault_29 (by decide) (fun c27 => ?_) (fun c27 => ?_)
        · have h := if_f c27 h
          refine lv_goto (tgt := 9) hx hb dX10_fault_34 (by decide) ?_
          exact ih _ _ _ _ _ _ _ _ _ _ (lp_n h hz) H locs ls hP (lv_sub hl [1] rfl) KK KR
        · have h := if_t c27 h
          refine lv_iload_n hx hb dX10_fault_32 rfl (lv_at hl 0 rfl) ?_
          rw [eZ]
          exact ret_i hC hr hlk hP dX10_fault_33 (w18, w19, w20, w21, w22, w23, w24, w25, w26) (Prod.mk.inj (KR _ (lp_e h hz).symm)) rfl
  refine L1 FU _ _ _ _ _ _ _ _ _ z hlp H locs ls hP (lv_sub hl [0] rfl) (fun w7x w8x w9x w10x w11x w12x w13x w14x w15x e H locs ls hP hl => ?_) (fun q e => Option.some.inj (hj q e))
  have h := hk _ e
  refine lv_bipush (v := -4) hx hb dX10_fault_37 (by decide) ?_
  rw [eZ]
  exact ret_i hC hr hlk hP dX10_fault_39 (w7x, w12x, w13x, w8x, w14x, w9x, w10x, w15x, w11x) (Prod.mk.inj (Option.some.inj h)) rfl
set_option maxHeartbeats 8000000 in
set_option maxRecDepth 100000 in
theorem c_X10_lay (l : Launch) (dC : Nat → ClassId) (dI : Nat → Nat → Nat) (cc : Nat → ClassId) (q0 q1 q2 q3 q4 q5 q6 q7 q8 q9 q10 q11 q12 q13 q14 q15 q16 q17 : Nat) (feetMany : Int32) (log_ : Int32) (block : Int32) (stocking : Int32) (acts : Int32) (keeps : Int32) (hears : Int32) (texted : Int32) (at_ : Int32) (readFeetMany : Int32) (readLog : Int32) (readBlock : Int32) (readStocking : Int32) (lefts_ : Int32) (rights_ : Int32) (feet : (Nat → Int32)) (knot : (Nat → Int32)) (st : (Nat → Int32)) (text : (Nat → Int32)) (told : (Nat → Int32)) (read_ : (Nat → Int32)) (readFeet : (Nat → Int32)) (readKnot : (Nat → Int32)) (sz : Nat) (ret : Int32) (o_feetMany : Int32) (o_feet : (Nat → Int32)) (o_log_ : Int32) (o_block : Int32) (o_knot : (Nat → Int32)) (o_stocking : Int32) (o_st : (Nat → Int32)) (o_acts : Int32) (o_keeps : Int32) (o_hears : Int32) (o_at_ : Int32) (o_told : (Nat → Int32)) (o_read_ : (Nat → Int32)) (o_readFeetMany : Int32) (o_readFeet : (Nat → Int32)) (o_readLog : Int32) (o_readBlock : Int32) (o_readKnot : (Nat → Int32)) (o_readStocking : Int32) (hu : f_X10_lay feetMany log_ block stocking acts keeps hears texted feet knot st text told read_ readFeet readKnot = some (ret, o_feetMany, o_feet, o_log_, o_block, o_knot, o_stocking, o_st, o_acts, o_keeps, o_hears, o_at_, o_told, o_read_, o_readFeetMany, o_readFeet, o_readLog, o_readBlock, o_readKnot, o_readStocking)) : Met l yX10_lay (mw yX10_lay cX10_lay 1 (some .int)) ({ frames := 6, cells := 0, slots := 0, locals := 126 } : Room) (va_Pc [.ref q0] (mP (dC, dI) (ts cc) sz [(q0, .inr (10, [.int feetMany, .ref q1, .int log_, .int block, .ref q2, .int stocking, .ref q3, .int acts, .ref q4, .int keeps, .ref q5, .int hears, .ref q6, .ref q7, .int texted, .int at_, .ref q8, .ref q9, .int readFeetMany, .ref q10, .int readLog, .int readBlock, .ref q11, .int readStocking, .ref q12, .int lefts_, .int rights_, .ref q13, .ref q14, .ref q15, .ref q16, .ref q17])), (q1, .inl (cc 0, 10, .inl feet)), (q2, .inl (cc 2, 40, .inl knot)), (q3, .inl (cc 0, 52, .inl st)), (q7, .inl (cc 0, 200, .inl text)), (q8, .inl (cc 0, 4, .inl told)), (q9, .inl (cc 0, 52, .inl read_)), (q10, .inl (cc 0, 10, .inl readFeet)), (q11, .inl (cc 2, 40, .inl readKnot))])) ((fun A => va_Qi (fun (r : Int32) (w : Int32 × (Nat → Int32) × Int32 × Int32 × (Nat → Int32) × Int32 × (Nat → Int32) × Int32 × Int32 × Int32 × Int32 × (Nat → Int32) × (Nat → Int32) × Int32 × (Nat → Int32) × Int32 × Int32 × (Nat → Int32) × Int32) => r = ret ∧ w = (o_feetMany, o_feet, o_log_, o_block, o_knot, o_stocking, o_st, o_acts, o_keeps, o_hears, o_at_, o_told, o_read_, o_readFeetMany, o_readFeet, o_readLog, o_readBlock, o_readKnot, o_readStocking)) (fun (w : Int32 × (Nat → Int32) × Int32 × Int32 × (Nat → Int32) × Int32 × (Nat → Int32) × Int32 × Int32 × Int32 × Int32 × (Nat → Int32) × (Nat → Int32) × Int32 × (Nat → Int32) × Int32 × Int32 × (Nat → Int32) × Int32) t => va_P (dC, dI) classes [(q0, .inr (10, [.int w.1, .ref q1, .int w.2.2.1, .int w.2.2.2.1, .ref q2, .int w.2.2.2.2.2.1, .ref q3, .int w.2.2.2.2.2.2.2.1, .ref q4, .int w.2.2.2.2.2.2.2.2.1, .ref q5, .int w.2.2.2.2.2.2.2.2.2.1, .ref q6, .ref q7, .int texted, .int w.2.2.2.2.2.2.2.2.2.2.1, .ref q8, .ref q9, .int w.2.2.2.2.2.2.2.2.2.2.2.2.2.1, .ref q10, .int w.2.2.2.2.2.2.2.2.2.2.2.2.2.2.2.1, .int w.2.2.2.2.2.2.2.2.2.2.2.2.2.2.2.2.1, .ref q11, .int w.2.2.2.2.2.2.2.2.2.2.2.2.2.2.2.2.2.2, .ref q12, .int lefts_, .int rights_, .ref q13, .ref q14, .ref q15, .ref q16, .ref q17])), (q1, .inl (cc 0, 10, .inl w.2.1)), (q2, .inl (cc 2, 40, .inl w.2.2.2.2.1)), (q3, .inl (cc 0, 52, .inl w.2.2.2.2.2.2.1)), (q7, .inl (cc 0, 200, .inl text)), (q8, .inl (cc 0, 4, .inl w.2.2.2.2.2.2.2.2.2.2.2.1)), (q9, .inl (cc 0, 52, .inl w.2.2.2.2.2.2.2.2.2.2.2.2.1)), (q10, .inl (cc 0, 10, .inl w.2.2.2.2.2.2.2.2.2.2.2.2.2.2.1)), (q11, .inl (cc 2, 40, .inl w.2.2.2.2.2.2.2.2.2.2.2.2.2.2.2.2.2.1))] t.heap) A) (va_A [(q0, .inr (10, [.int feetMany, .ref q1, .int log_, .int block, .ref q2, .int stocking, .ref q3, .int acts, .ref q4, .int keeps, .ref q5, .int hears, .ref q6, .ref q7, .int texted, .int at_, .ref q8, .ref q9, .int readFeetMany, .ref q10, .int readLog, .int readBlock, .ref q11, .int readStocking, .ref q12, .int lefts_, .int rights_, .ref q13, .ref q14, .ref q15, .ref q16, .ref q17])), (q1, .inl (cc 0, 10, .inl feet)), (q2, .inl (cc 2, 40, .inl knot)), (q3, .inl (cc 0, 52, .inl st)), (q7, .inl (cc 0, 200, .inl text)), (q8, .inl (cc 0, 4, .inl told)), (q9, .inl (cc 0, 52, .inl read_)), (q10, .inl (cc 0, 10, .inl readFeet)), (q11, .inl (cc 2, 40, .inl readKnot))] sz)) 0 0 (va_A [(q0, .inr (10, [.int feetMany, .ref q1, .int log_, .int block, .ref q2, .int stocking, .ref q3, .int acts, .ref q4, .int keeps, .ref q5, .int hears, .ref q6, .ref q7, .int texted, .int at_, .ref q8, .ref q9, .int readFeetMany, .ref q10, .int readLog, .int readBlock, .ref q11, .int readStocking, .ref q12, .int lefts_, .int rights_, .ref q13, .ref q14, .ref q15, .ref q16, .ref q17])), (q1, .inl (cc 0, 10, .inl feet)), (q2, .inl (cc 2, 40, .inl knot)), (q3, .inl (cc 0, 52, .inl st)), (q7, .inl (cc 0, 200, .inl text)), (q8, .inl (cc 0, 4, .inl told)), (q9, .inl (cc 0, 52, .inl read_)), (q10, .inl (cc 0, 10, .inl readFeet)), (q11, .inl (cc 2, 40, .inl readKnot))] sz) := by
  refine met_go (Qc := fun A => va_Qi (fun (r : Int32) (w : Int32 × (Nat → Int32) × Int32 × Int32 × (Nat → Int32) × Int32 × (Nat → Int32) × Int32 × Int32 × Int32 × Int32 × (Nat → Int32) × (Nat → Int32) × Int32 × (Nat → Int32) × Int32 × Int32 × (Nat → Int32) × Int32) => r = ret ∧ w = (o_feetMany, o_feet, o_log_, o_block, o_knot, o_stocking, o_st, o_acts, o_keeps, o_hears, o_at_, o_told, o_read_, o_readFeetMany, o_readFeet, o_readLog, o_readBlock, o_readKnot, o_readStocking)) (fun (w : Int32 × (Nat → Int32) × Int32 × Int32 × (Nat → Int32) × Int32 × (Nat → Int32) × Int32 × Int32 × Int32 × Int32 × (Nat → Int32) × (Nat → Int32) × Int32 × (Nat → Int32) × Int32 × Int32 × (Nat → Int32) × Int32) t => va_P (dC, dI) classes [(q0, .inr (10, [.int w.1, .ref q1, .int w.2.2.1, .int w.2.2.2.1, .ref q2, .int w.2.2.2.2.2.1, .ref q3, .int w.2.2.2.2.2.2.2.1, .ref q4, .int w.2.2.2.2.2.2.2.2.1, .ref q5, .int w.2.2.2.2.2.2.2.2.2.1, .ref q6, .ref q7, .int texted, .int w.2.2.2.2.2.2.2.2.2.2.1, .ref q8, .ref q9, .int w.2.2.2.2.2.2.2.2.2.2.2.2.2.1, .ref q10, .int w.2.2.2.2.2.2.2.2.2.2.2.2.2.2.2.1, .int w.2.2.2.2.2.2.2.2.2.2.2.2.2.2.2.2.1, .ref q11, .int w.2.2.2.2.2.2.2.2.2.2.2.2.2.2.2.2.2.2, .ref q12, .int lefts_, .int rights_, .ref q13, .ref q14, .ref q15, .ref q16, .ref q17])), (q1, .inl (cc 0, 10, .inl w.2.1)), (q2, .inl (cc 2, 40, .inl w.2.2.2.2.1)), (q3, .inl (cc 0, 52, .inl w.2.2.2.2.2.2.1)), (q7, .inl (cc 0, 200, .inl text)), (q8, .inl (cc 0, 4, .inl w.2.2.2.2.2.2.2.2.2.2.2.1)), (q9, .inl (cc 0, 52, .inl w.2.2.2.2.2.2.2.2.2.2.2.2.1)), (q10, .inl (cc 0, 10, .inl w.2.2.2.2.2.2.2.2.2.2.2.2.2.2.1)), (q11, .inl (cc 2, 40, .inl w.2.2.2.2.2.2.2.2.2.2.2.2.2.2.2.2.2.1))] t.heap) A) (by decide) (Nat.le_of_ble_eq_true rfl) ?_
  intro p e s m below meth c A ls H locs hC hr hlk hin hA hP hl _
  have hC : CX p m c cX10_lay 1 s ([.ref q0] : List Value).toArray RX10 (dC, dI) (ts cc) := hC
  have hx := hC.1.1
  have hb := hC.1.2
  have h := hu
  have hu0 := hu
  unfold f_X10_lay at h
  have hl : lv_has ls 1 [(0, .ref q0)] := hl
  refine lv_aload_n hx hb dX10_lay_0 rfl (lv_at hl 0 rfl) ?_
  obtain ⟨⟨r1, w2, w3, w4, w5, w6, w7, w8, w9, w10⟩, hu, h⟩ := bnd_h h
  refine kc_i (kV hC (c_X10_fault l dC dI cc q0 q1 q2 q3 q4 q5 q6 q7 q8 q9 q10 q11 q12 q13 q14 q15 q16 q17 feetMany log_ block stocking acts keeps hears texted at_ readFeetMany readLog readBlock readStocking lefts_ rights_ text told read_ readFeet readKnot H.size r1 w2 w3 w4 w5 w6 w7 w8 w9 w10 hu) cv_X10_140 kw920 rfl rfl ⟨(Nat.le_of_ble_eq_true rfl), (Nat.le_of_ble_eq_true rfl)⟩ hP [0, 4, 5, 6, 7, 8] rfl rfl rfl (q0 := 0) rfl (As := []) (rest := []) rfl rfl hl.1 (Nat.le_of_ble_eq_true rfl) dX10_lay_1 ⟨Nat.zero_le _, Nat.zero_le _⟩) hP hA [0, 4, 5, 6, 7, 8] rfl rfl (fun H locs hP => ?_)
  have hP : PD (dC, dI) A s.heap [(q0, .inr (10, [.int feetMany, .ref q1, .int log_, .int block, .ref q2, .int stocking, .ref q3, .int acts, .ref q4, .int keeps, .ref q5, .int hears, .ref q6, .ref q7, .int texted, .int w2, .ref q8, .ref q9, .int w5, .ref q10, .int w7, .int w8, .ref q11, .int w10, .ref q12, .int lefts_, .int rights_, .ref q13, .ref q14, .ref q15, .ref q16, .ref q17])), (q1, .inl (cc 0, 10, .inl feet)), (q2, .inl (cc 2, 40, .inl knot)), (q3, .inl (cc 0, 52, .inl st)), (q7, .inl (cc 0, 200, .inl text)), (q8, .inl (cc 0, 4, .inl w3)), (q9, .inl (cc 0, 52, .inl w4)), (q10, .inl (cc 0, 10, .inl w6)), (q11, .inl (cc 2, 40, .inl w9))] H locs := hP
  refine lv_bipush (v := -4) hx hb dX10_lay_4 (by decide) ?_
  refine lv_icmp_ne (tgt := 18) hx hb dX10_lay_6 (by decide) (fun c11 => ?_) (fun c11 => ?_)
  · have h := if_f c11 h
    refine lv_bipush (v := -2) hx hb dX10_lay_18 (by decide) ?_
    exact ret_i hC hr hlk hP dX10_lay_20 (feetMany, feet, log_, block, knot, stocking, st, acts, keeps, hears, w2, w3, w4, w5, w6, w7, w8, w9, w10) (Prod.mk.inj (Option.some.inj h)) rfl
  · have h := if_t c11 h
    refine lv_aload_n hx hb dX10_lay_9 rfl (lv_at hl 0 rfl) ?_
    refine g_get hC hP fg_X10_35 0 rfl rfl dX10_lay_10 ?_
    refine lv_iconst (v := 1) hx hb dX10_lay_13 (by decide) ?_
    obtain ⟨hin, h⟩ := rd_h h
    refine g_iald hC hP 6 0 rfl rfl hin dX10_lay_14 (fun v12 ev => ?_)
    have h := h v12 ev
    refine lv_if_ne (tgt := 21) hx hb dX10_lay_15 (by decide) (fun c13 => ?_) (fun c13 => ?_)
    · have h := if_f c13 h
      refine lv_aload_n hx hb dX10_lay_21 rfl (lv_at hl 0 rfl) ?_
      obtain ⟨⟨w14, w15, w16, w17, w18, w19, w20, w21, w22, w23⟩, hu, h⟩ := bnd_h h
      refine kc_v (kV hC (c_X10_settles l dC dI cc q0 q1 q2 q3 q4 q5 q6 q7 q8 q9 q10 q11 q12 q13 q14 q15 q16 q17 feetMany log_ block stocking acts keeps hears texted w2 w5 w7 w8 w10 lefts_ rights_ feet knot st w4 w6 w9 H.size w14 w15 w16 w17 w18 w19 w20 w21 w22 w23 hu) cv_X10_80 kw804 rfl rfl ⟨(Nat.le_of_ble_eq_true rfl), (Nat.le_of_ble_eq_true rfl)⟩ hP [0, 1, 2, 3, 6, 7, 8] rfl rfl rfl (q0 := 0) rfl (As := []) (rest := []) rfl rfl hl.1 (Nat.le_of_ble_eq_true rfl) dX10_lay_22 ⟨Nat.zero_le _, Nat.zero_le _⟩) hP hA [0, 1, 2, 3, 6, 7, 8] rfl rfl (fun H locs hP => ?_)
      have hP : PD (dC, dI) A s.heap [(q0, .inr (10, [.int w14, .ref q1, .int w16, .int w17, .ref q2, .int w19, .ref q3, .int w21, .ref q4, .int w22, .ref q5, .int w23, .ref q6, .ref q7, .int texted, .int w2, .ref q8, .ref q9, .int w5, .ref q10, .int w7, .int w8, .ref q11, .int w10, .ref q12, .int lefts_, .int rights_, .ref q13, .ref q14, .ref q15, .ref q16, .ref q17])), (q1, .inl (cc 0, 10, .inl w15)), (q2, .inl (cc 2, 40, .inl w18)), (q3, .inl (cc 0, 52, .inl w20)), (q7, .inl (cc 0, 200, .inl text)), (q8, .inl (cc 0, 4, .inl w3)), (q9, .inl (cc 0, 52, .inl w4)), (q10, .inl (cc 0, 10, .inl w6)), (q11, .inl (cc 2, 40, .inl w9))] H locs := hP
      refine lv_aload_n hx hb dX10_lay_25 rfl (lv_at hl 0 rfl) ?_
      refine g_get hC hP fg_X10_17 0 rfl rfl dX10_lay_26 ?_
      refine lv_iconst (v := 1) hx hb dX10_lay_29 (by decide) ?_
      obtain ⟨hin, h⟩ := rd_h h
      refine g_iald hC hP 3 0 rfl rfl hin dX10_lay_30 (fun v24 ev => ?_)
      have h := h v24 ev
      exact ret_i hC hr hlk hP dX10_lay_31 (w14, w15, w16, w17, w18, w19, w20, w21, w22, w23, w2, w3, w4, w5, w6, w7, w8, w9, w10) (Prod.mk.inj (Option.some.inj h)) rfl
    · have h := if_t c13 h
      refine lv_bipush (v := -2) hx hb dX10_lay_18 (by decide) ?_
      exact ret_i hC hr hlk hP dX10_lay_20 (feetMany, feet, log_, block, knot, stocking, st, acts, keeps, hears, w2, w3, w4, w5, w6, w7, w8, w9, w10) (Prod.mk.inj (Option.some.inj h)) rfl
