set_option maxHeartbeats 8000000 in
set_option maxRecDepth 100000 in
theorem c_X10_asItIs (l : Launch) (dC : Nat → ClassId) (dI : Nat → Nat → Nat) (cc : Nat → ClassId) (q0 q1 q2 q3 q4 q5 q6 q7 q8 q9 q10 q11 q12 q13 q14 q15 q16 q17 : Nat) (feetMany : Int32) (log_ : Int32) (block : Int32) (stocking : Int32) (acts : Int32) (keeps : Int32) (hears : Int32) (texted : Int32) (at_ : Int32) (readFeetMany : Int32) (readLog : Int32) (readBlock : Int32) (readStocking : Int32) (lefts_ : Int32) (rights_ : Int32) (st : (Nat → Int32)) (now_ : (Nat → Int32)) (sz : Nat) (o_now_ : (Nat → Int32)) (hu : f_X10_asItIs st now_ = some o_now_) : Met l yX10_asItIs (mw yX10_asItIs cX10_asItIs 1 none) ({ frames := 1, cells := 0, slots := 0, locals := 25 } : Room) (va_Pc [.ref q0] (mP (dC, dI) (ts cc) sz [(q0, .inr (10, [.int feetMany, .ref q1, .int log_, .int block, .ref q2, .int stocking, .ref q3, .int acts, .ref q4, .int keeps, .ref q5, .int hears, .ref q6, .ref q7, .int texted, .int at_, .ref q8, .ref q9, .int readFeetMany, .ref q10, .int readLog, .int readBlock, .ref q11, .int readStocking, .ref q12, .int lefts_, .int rights_, .ref q13, .ref q14, .ref q15, .ref q16, .ref q17])), (q3, .inl (cc 0, 52, .inl st)), (q12, .inl (cc 0, 52, .inl now_))])) ((fun A => va_Qv (fun (w : (Nat → Int32)) => w = o_now_) (fun (w : (Nat → Int32)) t => va_P (dC, dI) classes [(q0, .inr (10, [.int feetMany, .ref q1, .int log_, .int block, .ref q2, .int stocking, .ref q3, .int acts, .ref q4, .int keeps, .ref q5, .int hears, .ref q6, .ref q7, .int texted, .int at_, .ref q8, .ref q9, .int readFeetMany, .ref q10, .int readLog, .int readBlock, .ref q11, .int readStocking, .ref q12, .int lefts_, .int rights_, .ref q13, .ref q14, .ref q15, .ref q16, .ref q17])), (q3, .inl (cc 0, 52, .inl st)), (q12, .inl (cc 0, 52, .inl w))] t.heap) A) (va_A [(q0, .inr (10, [.int feetMany, .ref q1, .int log_, .int block, .ref q2, .int stocking, .ref q3, .int acts, .ref q4, .int keeps, .ref q5, .int hears, .ref q6, .ref q7, .int texted, .int at_, .ref q8, .ref q9, .int readFeetMany, .ref q10, .int readLog, .int readBlock, .ref q11, .int readStocking, .ref q12, .int lefts_, .int rights_, .ref q13, .ref q14, .ref q15, .ref q16, .ref q17])), (q3, .inl (cc 0, 52, .inl st)), (q12, .inl (cc 0, 52, .inl now_))] sz)) 0 0 (va_A [(q0, .inr (10, [.int feetMany, .ref q1, .int log_, .int block, .ref q2, .int stocking, .ref q3, .int acts, .ref q4, .int keeps, .ref q5, .int hears, .ref q6, .ref q7, .int texted, .int at_, .ref q8, .ref q9, .int readFeetMany, .ref q10, .int readLog, .int readBlock, .ref q11, .int readStocking, .ref q12, .int lefts_, .int rights_, .ref q13, .ref q14, .ref q15, .ref q16, .ref q17])), (q3, .inl (cc 0, 52, .inl st)), (q12, .inl (cc 0, 52, .inl now_))] sz) := by
  refine met_go (Qc := fun A => va_Qv (fun (w : (Nat → Int32)) => w = o_now_) (fun (w : (Nat → Int32)) t => va_P (dC, dI) classes [(q0, .inr (10, [.int feetMany, .ref q1, .int log_, .int block, .ref q2, .int stocking, .ref q3, .int acts, .ref q4, .int keeps, .ref q5, .int hears, .ref q6, .ref q7, .int texted, .int at_, .ref q8, .ref q9, .int readFeetMany, .ref q10, .int readLog, .int readBlock, .ref q11, .int readStocking, .ref q12, .int lefts_, .int rights_, .ref q13, .ref q14, .ref q15, .ref q16, .ref q17])), (q3, .inl (cc 0, 52, .inl st)), (q12, .inl (cc 0, 52, .inl w))] t.heap) A) (by decide) (Nat.le_of_ble_eq_true rfl) ?_
  intro p e s m below meth c A ls H locs hC hr hlk hin hA hP hl _
  have hC : CX p m c cX10_asItIs 1 s ([.ref q0] : List Value).toArray RX10 (dC, dI) (ts cc) := hC
  have hx := hC.1.1
  have hb := hC.1.2
  have h := hu
  have hu0 := hu
  unfold f_X10_asItIs at h
  have hl : lv_has ls 1 [(0, .ref q0)] := hl
  refine lv_aload_n hx hb dX10_asItIs_0 rfl (lv_at hl 0 rfl) ?_
  refine g_get hC hP fg_X10_44 0 rfl rfl dX10_asItIs_1 ?_
  refine lv_iconst (v := 0) hx hb dX10_asItIs_4 (by decide) ?_
  refine lv_aload_n hx hb dX10_asItIs_5 rfl (lv_at hl 0 rfl) ?_
  refine g_get hC hP fg_X10_17 0 rfl rfl dX10_asItIs_6 ?_
  refine lv_iconst (v := 0) hx hb dX10_asItIs_9 (by decide) ?_
  refine lv_bipush (v := 52) hx hb dX10_asItIs_10 (by decide) ?_
  obtain ⟨w1, hu, h⟩ := bnd_h h
  refine kc_v (kS hC (c_X10_copies l dC dI cc q12 q3 52 52 now_ st 0 0 52 H.size w1 hu) cs_X10_144 kw807 rfl rfl ⟨(Nat.le_of_ble_eq_true rfl), (Nat.le_of_ble_eq_true rfl)⟩ hP [2, 1] rfl rfl (As := [.ref q12, .int 0, .ref q3, .int 0, .int 52]) (rest := []) rfl rfl hl.1 (Nat.le_of_ble_eq_true rfl) dX10_asItIs_12 ⟨Nat.zero_le _, Nat.zero_le _⟩) hP hA [2, 1] rfl rfl (fun H locs hP => ?_)
  have hP : PD (dC, dI) A s.heap [(q0, .inr (10, [.int feetMany, .ref q1, .int log_, .int block, .ref q2, .int stocking, .ref q3, .int acts, .ref q4, .int keeps, .ref q5, .int hears, .ref q6, .ref q7, .int texted, .int at_, .ref q8, .ref q9, .int readFeetMany, .ref q10, .int readLog, .int readBlock, .ref q11, .int readStocking, .ref q12, .int lefts_, .int rights_, .ref q13, .ref q14, .ref q15, .ref q16, .ref q17])), (q3, .inl (cc 0, 52, .inl st)), (q12, .inl (cc 0, 52, .inl w1))] H locs := hP
  exact ret_v hC hr hlk hP dX10_asItIs_15 w1 (Option.some.inj h) rfl
set_option maxHeartbeats 8000000 in
set_option maxRecDepth 100000 in
theorem c_X10_kindOf (l : Launch) (dC : Nat → ClassId) (dI : Nat → Nat → Nat) (cc : Nat → ClassId) (q0 q1 q2 q3 q4 q5 q6 q7 q8 q9 q10 q11 q12 q13 q14 q15 q16 q17 : Nat) (feetMany : Int32) (log_ : Int32) (block : Int32) (stocking : Int32) (acts : Int32) (keeps : Int32) (hears : Int32) (texted : Int32) (at_ : Int32) (readFeetMany : Int32) (readLog : Int32) (readBlock : Int32) (readStocking : Int32) (lefts_ : Int32) (rights_ : Int32) (now_ : (Nat → Int32)) (x1 : Int32) (sz : Nat) (ret : Int32) (hu : f_X10_kindOf x1 now_ = some ret) : Met l yX10_kindOf (mw yX10_kindOf cX10_kindOf 2 (some .int)) ({ frames := 0, cells := 0, slots := 0, locals := 0 } : Room) (va_Pc [.ref q0, .int x1] (mP (dC, dI) (ts cc) sz [(q0, .inr (10, [.int feetMany, .ref q1, .int log_, .int block, .ref q2, .int stocking, .ref q3, .int acts, .ref q4, .int keeps, .ref q5, .int hears, .ref q6, .ref q7, .int texted, .int at_, .ref q8, .ref q9, .int readFeetMany, .ref q10, .int readLog, .int readBlock, .ref q11, .int readStocking, .ref q12, .int lefts_, .int rights_, .ref q13, .ref q14, .ref q15, .ref q16, .ref q17])), (q12, .inl (cc 0, 52, .inl now_))])) ((fun A => va_Qi (fun (r : Int32) (w : Unit) => r = ret ∧ w = ()) (fun (w : Unit) t => va_P (dC, dI) classes [(q0, .inr (10, [.int feetMany, .ref q1, .int log_, .int block, .ref q2, .int stocking, .ref q3, .int acts, .ref q4, .int keeps, .ref q5, .int hears, .ref q6, .ref q7, .int texted, .int at_, .ref q8, .ref q9, .int readFeetMany, .ref q10, .int readLog, .int readBlock, .ref q11, .int readStocking, .ref q12, .int lefts_, .int rights_, .ref q13, .ref q14, .ref q15, .ref q16, .ref q17])), (q12, .inl (cc 0, 52, .inl now_))] t.heap) A) (va_A [(q0, .inr (10, [.int feetMany, .ref q1, .int log_, .int block, .ref q2, .int stocking, .ref q3, .int acts, .ref q4, .int keeps, .ref q5, .int hears, .ref q6, .ref q7, .int texted, .int at_, .ref q8, .ref q9, .int readFeetMany, .ref q10, .int readLog, .int readBlock, .ref q11, .int readStocking, .ref q12, .int lefts_, .int rights_, .ref q13, .ref q14, .ref q15, .ref q16, .ref q17])), (q12, .inl (cc 0, 52, .inl now_))] sz)) 0 0 (va_A [(q0, .inr (10, [.int feetMany, .ref q1, .int log_, .int block, .ref q2, .int stocking, .ref q3, .int acts, .ref q4, .int keeps, .ref q5, .int hears, .ref q6, .ref q7, .int texted, .int at_, .ref q8, .ref q9, .int readFeetMany, .ref q10, .int readLog, .int readBlock, .ref q11, .int readStocking, .ref q12, .int lefts_, .int rights_, .ref q13, .ref q14, .ref q15, .ref q16, .ref q17])), (q12, .inl (cc 0, 52, .inl now_))] sz) := by
  refine met_go (Qc := fun A => va_Qi (fun (r : Int32) (w : Unit) => r = ret ∧ w = ()) (fun (w : Unit) t => va_P (dC, dI) classes [(q0, .inr (10, [.int feetMany, .ref q1, .int log_, .int block, .ref q2, .int stocking, .ref q3, .int acts, .ref q4, .int keeps, .ref q5, .int hears, .ref q6, .ref q7, .int texted, .int at_, .ref q8, .ref q9, .int readFeetMany, .ref q10, .int readLog, .int readBlock, .ref q11, .int readStocking, .ref q12, .int lefts_, .int rights_, .ref q13, .ref q14, .ref q15, .ref q16, .ref q17])), (q12, .inl (cc 0, 52, .inl now_))] t.heap) A) (by decide) (Nat.le_of_ble_eq_true rfl) ?_
  intro p e s m below meth c A ls H locs hC hr hlk hin hA hP hl _
  have hC : CX p m c cX10_kindOf 2 s ([.ref q0, .int x1] : List Value).toArray RX10 (dC, dI) (ts cc) := hC
  have hx := hC.1.1
  have hb := hC.1.2
  have h := hu
  have hu0 := hu
  unfold f_X10_kindOf at h
  have hl : lv_has ls 2 [(0, .ref q0), (1, .int x1)] := hl
  refine lv_aload_n hx hb dX10_kindOf_0 rfl (lv_at hl 0 rfl) ?_
  refine g_get hC hP fg_X10_44 0 rfl rfl dX10_kindOf_1 ?_
  refine lv_iconst (v := 2) hx hb dX10_kindOf_4 (by decide) ?_
  refine lv_iconst (v := 5) hx hb dX10_kindOf_5 (by decide) ?_
  refine lv_iload_n hx hb dX10_kindOf_6 rfl (lv_at hl 1 rfl) ?_
  refine lv_imul hx hb dX10_kindOf_7 ?_
  refine lv_iadd hx hb dX10_kindOf_8 ?_
  obtain ⟨hin, h⟩ := rd_h h
  refine g_iald hC hP 1 0 rfl rfl hin dX10_kindOf_9 (fun v1 ev => ?_)
  have h := h v1 ev
  exact ret_i hC hr hlk hP dX10_kindOf_10 () (⟨Option.some.inj h, rfl⟩) rfl
set_option maxHeartbeats 8000000 in
set_option maxRecDepth 100000 in
theorem c_X10_sideOf (l : Launch) (dC : Nat → ClassId) (dI : Nat → Nat → Nat) (cc : Nat → ClassId) (q0 q1 q2 q3 q4 q5 q6 q7 q8 q9 q10 q11 q12 q13 q14 q15 q16 q17 : Nat) (feetMany : Int32) (log_ : Int32) (block : Int32) (stocking : Int32) (acts : Int32) (keeps : Int32) (hears : Int32) (texted : Int32) (at_ : Int32) (readFeetMany : Int32) (readLog : Int32) (readBlock : Int32) (readStocking : Int32) (lefts_ : Int32) (rights_ : Int32) (now_ : (Nat → Int32)) (x1 : Int32) (sz : Nat) (ret : Int32) (hu : f_X10_sideOf x1 now_ = some ret) : Met l yX10_sideOf (mw yX10_sideOf cX10_sideOf 2 (some .int)) ({ frames := 0, cells := 0, slots := 0, locals := 0 } : Room) (va_Pc [.ref q0, .int x1] (mP (dC, dI) (ts cc) sz [(q0, .inr (10, [.int feetMany, .ref q1, .int log_, .int block, .ref q2, .int stocking, .ref q3, .int acts, .ref q4, .int keeps, .ref q5, .int hears, .ref q6, .ref q7, .int texted, .int at_, .ref q8, .ref q9, .int readFeetMany, .ref q10, .int readLog, .int readBlock, .ref q11, .int readStocking, .ref q12, .int lefts_, .int rights_, .ref q13, .ref q14, .ref q15, .ref q16, .ref q17])), (q12, .inl (cc 0, 52, .inl now_))])) ((fun A => va_Qi (fun (r : Int32) (w : Unit) => r = ret ∧ w = ()) (fun (w : Unit) t => va_P (dC, dI) classes [(q0, .inr (10, [.int feetMany, .ref q1, .int log_, .int block, .ref q2, .int stocking, .ref q3, .int acts, .ref q4, .int keeps, .ref q5, .int hears, .ref q6, .ref q7, .int texted, .int at_, .ref q8, .ref q9, .int readFeetMany, .ref q10, .int readLog, .int readBlock, .ref q11, .int readStocking, .ref q12, .int lefts_, .int rights_, .ref q13, .ref q14, .ref q15, .ref q16, .ref q17])), (q12, .inl (cc 0, 52, .inl now_))] t.heap) A) (va_A [(q0, .inr (10, [.int feetMany, .ref q1, .int log_, .int block, .ref q2, .int stocking, .ref q3, .int acts, .ref q4, .int keeps, .ref q5, .int hears, .ref q6, .ref q7, .int texted, .int at_, .ref q8, .ref q9, .int readFeetMany, .ref q10, .int readLog, .int readBlock, .ref q11, .int readStocking, .ref q12, .int lefts_, .int rights_, .ref q13, .ref q14, .ref q15, .ref q16, .ref q17])), (q12, .inl (cc 0, 52, .inl now_))] sz)) 0 0 (va_A [(q0, .inr (10, [.int feetMany, .ref q1, .int log_, .int block, .ref q2, .int stocking, .ref q3, .int acts, .ref q4, .int keeps, .ref q5, .int hears, .ref q6, .ref q7, .int texted, .int at_, .ref q8, .ref q9, .int readFeetMany, .ref q10, .int readLog, .int readBlock, .ref q11, .int readStocking, .ref q12, .int lefts_, .int rights_, .ref q13, .ref q14, .ref q15, .ref q16, .ref q17])), (q12, .inl (cc 0, 52, .inl now_))] sz) := by
  refine met_go (Qc := fun A => va_Qi (fun (r : Int32) (w : Unit) => r = ret ∧ w = ()) (fun (w : Unit) t => va_P (dC, dI) classes [(q0, .inr (10, [.int feetMany, .ref q1, .int log_, .int block, .ref q2, .int stocking, .ref q3, .int acts, .ref q4, .int keeps, .ref q5, .int hears, .ref q6, .ref q7, .int texted, .int at_, .ref q8, .ref q9, .int readFeetMany, .ref q10, .int readLog, .int readBlock, .ref q11, .int readStocking, .ref q12, .int lefts_, .int rights_, .ref q13, .ref q14, .ref q15, .ref q16, .ref q17])), (q12, .inl (cc 0, 52, .inl now_))] t.heap) A) (by decide) (Nat.le_of_ble_eq_true rfl) ?_
  intro p e s m below meth c A ls H locs hC hr hlk hin hA hP hl _
  have hC : CX p m c cX10_sideOf 2 s ([.ref q0, .int x1] : List Value).toArray RX10 (dC, dI) (ts cc) := hC
  have hx := hC.1.1
  have hb := hC.1.2
  have h := hu
  have hu0 := hu
  unfold f_X10_sideOf at h
  have hl : lv_has ls 2 [(0, .ref q0), (1, .int x1)] := hl
  refine lv_aload_n hx hb dX10_sideOf_0 rfl (lv_at hl 0 rfl) ?_
  refine g_get hC hP fg_X10_44 0 rfl rfl dX10_sideOf_1 ?_
  refine lv_iconst (v := 2) hx hb dX10_sideOf_4 (by decide) ?_
  refine lv_iconst (v := 5) hx hb dX10_sideOf_5 (by decide) ?_
  refine lv_iload_n hx hb dX10_sideOf_6 rfl (lv_at hl 1 rfl) ?_
  refine lv_imul hx hb dX10_sideOf_7 ?_
  refine lv_iadd hx hb dX10_sideOf_8 ?_
  refine lv_iconst (v := 1) hx hb dX10_sideOf_9 (by decide) ?_
  refine lv_iadd hx hb dX10_sideOf_10 ?_
  obtain ⟨hin, h⟩ := rd_h h
  refine g_iald hC hP 1 0 rfl rfl hin dX10_sideOf_11 (fun v1 ev => ?_)
  have h := h v1 ev
  exact ret_i hC hr hlk hP dX10_sideOf_12 () (⟨Option.some.inj h, rfl⟩) rfl
set_option maxHeartbeats 8000000 in
set_option maxRecDepth 100000 in
theorem c_X10_driedFor (l : Launch) (dC : Nat → ClassId) (dI : Nat → Nat → Nat) (cc : Nat → ClassId) (q0 q1 q2 q3 q4 q5 q6 q7 q8 q9 q10 q11 q12 q13 q14 q15 q16 q17 : Nat) (feetMany : Int32) (log_ : Int32) (block : Int32) (stocking : Int32) (acts : Int32) (keeps : Int32) (hears : Int32) (texted : Int32) (at_ : Int32) (readFeetMany : Int32) (readLog : Int32) (readBlock : Int32) (readStocking : Int32) (lefts_ : Int32) (rights_ : Int32) (now_ : (Nat → Int32)) (x1 : Int32) (sz : Nat) (ret : Int32) (hu : f_X10_driedFor x1 now_ = some ret) : Met l yX10_driedFor (mw yX10_driedFor cX10_driedFor 3 (some .int)) ({ frames := 0, cells := 0, slots := 0, locals := 0 } : Room) (va_Pc [.ref q0, .int x1] (mP (dC, dI) (ts cc) sz [(q0, .inr (10, [.int feetMany, .ref q1, .int log_, .int block, .ref q2, .int stocking, .ref q3, .int acts, .ref q4, .int keeps, .ref q5, .int hears, .ref q6, .ref q7, .int texted, .int at_, .ref q8, .ref q9, .int readFeetMany, .ref q10, .int readLog, .int readBlock, .ref q11, .int readStocking, .ref q12, .int lefts_, .int rights_, .ref q13, .ref q14, .ref q15, .ref q16, .ref q17])), (q12, .inl (cc 0, 52, .inl now_))])) ((fun A => va_Qi (fun (r : Int32) (w : Unit) => r = ret ∧ w = ()) (fun (w : Unit) t => va_P (dC, dI) classes [(q0, .inr (10, [.int feetMany, .ref q1, .int log_, .int block, .ref q2, .int stocking, .ref q3, .int acts, .ref q4, .int keeps, .ref q5, .int hears, .ref q6, .ref q7, .int texted, .int at_, .ref q8, .ref q9, .int readFeetMany, .ref q10, .int readLog, .int readBlock, .ref q11, .int readStocking, .ref q12, .int lefts_, .int rights_, .ref q13, .ref q14, .ref q15, .ref q16, .ref q17])), (q12, .inl (cc 0, 52, .inl now_))] t.heap) A) (va_A [(q0, .inr (10, [.int feetMany, .ref q1, .int log_, .int block, .ref q2, .int stocking, .ref q3, .int acts, .ref q4, .int keeps, .ref q5, .int hears, .ref q6, .ref q7, .int texted, .int at_, .ref q8, .ref q9, .int readFeetMany, .ref q10, .int readLog, .int readBlock, .ref q11, .int readStocking, .ref q12, .int lefts_, .int rights_, .ref q13, .ref q14, .ref q15, .ref q16, .ref q17])), (q12, .inl (cc 0, 52, .inl now_))] sz)) 0 0 (va_A [(q0, .inr (10, [.int feetMany, .ref q1, .int log_, .int block, .ref q2, .int stocking, .ref q3, .int acts, .ref q4, .int keeps, .ref q5, .int hears, .ref q6, .ref q7, .int texted, .int at_, .ref q8, .ref q9, .int readFeetMany, .ref q10, .int readLog, .int readBlock, .ref q11, .int readStocking, .ref q12, .int lefts_, .int rights_, .ref q13, .ref q14, .ref q15, .ref q16, .ref q17])), (q12, .inl (cc 0, 52, .inl now_))] sz) := by
  refine met_go (Qc := fun A => va_Qi (fun (r : Int32) (w : Unit) => r = ret ∧ w = ()) (fun (w : Unit) t => va_P (dC, dI) classes [(q0, .inr (10, [.int feetMany, .ref q1, .int log_, .int block, .ref q2, .int stocking, .ref q3, .int acts, .ref q4, .int keeps, .ref q5, .int hears, .ref q6, .ref q7, .int texted, .int at_, .ref q8, .ref q9, .int readFeetMany, .ref q10, .int readLog, .int readBlock, .ref q11, .int readStocking, .ref q12, .int lefts_, .int rights_, .ref q13, .ref q14, .ref q15, .ref q16, .ref q17])), (q12, .inl (cc 0, 52, .inl now_))] t.heap) A) (by decide) (Nat.le_of_ble_eq_true rfl) ?_
  intro p e s m below meth c A ls H locs hC hr hlk hin hA hP hl _
  have hC : CX p m c cX10_driedFor 3 s ([.ref q0, .int x1] : List Value).toArray RX10 (dC, dI) (ts cc) := hC
  have hx := hC.1.1
  have hb := hC.1.2
  have h := hu
  have hu0 := hu
  unfold f_X10_driedFor at h
  have hl : lv_has ls 3 [(0, .ref q0), (1, .int x1)] := hl
  refine lv_aload_n hx hb dX10_driedFor_0 rfl (lv_at hl 0 rfl) ?_
  refine g_get hC hP fg_X10_44 0 rfl rfl dX10_driedFor_1 ?_
  refine lv_iconst (v := 0) hx hb dX10_driedFor_4 (by decide) ?_
  obtain ⟨hin, h⟩ := rd_h h
  refine g_iald hC hP 1 0 rfl rfl hin dX10_driedFor_5 (fun v1 ev => ?_)
  have h := h v1 ev
  refine lv_aload_n hx hb dX10_driedFor_6 rfl (lv_at hl 0 rfl) ?_
  refine g_get hC hP fg_X10_44 0 rfl rfl dX10_driedFor_7 ?_
  refine lv_iconst (v := 2) hx hb dX10_driedFor_10 (by decide) ?_
  refine lv_iconst (v := 5) hx hb dX10_driedFor_11 (by decide) ?_
  refine lv_iload_n hx hb dX10_driedFor_12 rfl (lv_at hl 1 rfl) ?_
  refine lv_imul hx hb dX10_driedFor_13 ?_
  refine lv_iadd hx hb dX10_driedFor_14 ?_
  refine lv_iconst (v := 4) hx hb dX10_driedFor_15 (by decide) ?_
  refine lv_iadd hx hb dX10_driedFor_16 ?_
  obtain ⟨hin, h⟩ := rd_h h
  refine g_iald hC hP 1 0 rfl rfl hin dX10_driedFor_17 (fun v2 ev => ?_)
  have h := h v2 ev
  refine lv_isub hx hb dX10_driedFor_18 ?_
  refine lv_istore_n (lv' := [(2, .int (v1 - v2)), (0, .ref q0), (1, .int x1)]) hx hb dX10_driedFor_19 rfl hl (by decide) rfl (fun ls hl => ?_)
  refine lv_iload_n hx hb dX10_driedFor_20 rfl (lv_at hl 0 rfl) ?_
  refine lv_bipush (v := 30) hx hb dX10_driedFor_21 (by decide) ?_
  refine lv_icmp_ge (tgt := 30) hx hb dX10_driedFor_23 (by decide) (fun c3 => ?_) (fun c3 => ?_)
  · have h := if_t c3 h
    refine lv_bipush (v := 30) hx hb dX10_driedFor_30 (by decide) ?_
    exact ret_i hC hr hlk hP dX10_driedFor_32 () (⟨Option.some.inj h, rfl⟩) rfl
  · have h := if_f c3 h
    refine lv_iload_n hx hb dX10_driedFor_26 rfl (lv_at hl 0 rfl) ?_
    refine lv_goto (tgt := 32) hx hb dX10_driedFor_27 (by decide) ?_
    exact ret_i hC hr hlk hP dX10_driedFor_32 () (⟨Option.some.inj h, rfl⟩) rfl
set_option maxHeartbeats 8000000 in
set_option maxRecDepth 100000 in
theorem c_X10_sizeOf (l : Launch) (dC : Nat → ClassId) (dI : Nat → Nat → Nat) (cc : Nat → ClassId) (q0 q1 q2 q3 q4 q5 q6 q7 q8 q9 q10 q11 q12 q13 q14 q15 q16 q17 : Nat) (feetMany : Int32) (log_ : Int32) (block : Int32) (stocking : Int32) (acts : Int32) (keeps : Int32) (hears : Int32) (texted : Int32) (at_ : Int32) (readFeetMany : Int32) (readLog : Int32) (readBlock : Int32) (readStocking : Int32) (lefts_ : Int32) (rights_ : Int32) (now_ : (Nat → Int32)) (x1 : Int32) (sz : Nat) (ret : Int32) (hu : f_X10_sizeOf x1 now_ = some ret) : Met l yX10_sizeOf (mw yX10_sizeOf cX10_sizeOf 3 (some .int)) ({ frames := 1, cells := 0, slots := 0, locals := 22 } : Room) (va_Pc [.ref q0, .int x1] (mP (dC, dI) (ts cc) sz [(q0, .inr (10, [.int feetMany, .ref q1, .int log_, .int block, .ref q2, .int stocking, .ref q3, .int acts, .ref q4, .int keeps, .ref q5, .int hears, .ref q6, .ref q7, .int texted, .int at_, .ref q8, .ref q9, .int readFeetMany, .ref q10, .int readLog, .int readBlock, .ref q11, .int readStocking, .ref q12, .int lefts_, .int rights_, .ref q13, .ref q14, .ref q15, .ref q16, .ref q17])), (q12, .inl (cc 0, 52, .inl now_))])) ((fun A => va_Qi (fun (r : Int32) (w : Unit) => r = ret ∧ w = ()) (fun (w : Unit) t => va_P (dC, dI) classes [(q0, .inr (10, [.int feetMany, .ref q1, .int log_, .int block, .ref q2, .int stocking, .ref q3, .int acts, .ref q4, .int keeps, .ref q5, .int hears, .ref q6, .ref q7, .int texted, .int at_, .ref q8, .ref q9, .int readFeetMany, .ref q10, .int readLog, .int readBlock, .ref q11, .int readStocking, .ref q12, .int lefts_, .int rights_, .ref q13, .ref q14, .ref q15, .ref q16, .ref q17])), (q12, .inl (cc 0, 52, .inl now_))] t.heap) A) (va_A [(q0, .inr (10, [.int feetMany, .ref q1, .int log_, .int block, .ref q2, .int stocking, .ref q3, .int acts, .ref q4, .int keeps, .ref q5, .int hears, .ref q6, .ref q7, .int texted, .int at_, .ref q8, .ref q9, .int readFeetMany, .ref q10, .int readLog, .int readBlock, .ref q11, .int readStocking, .ref q12, .int lefts_, .int rights_, .ref q13, .ref q14, .ref q15, .ref q16, .ref q17])), (q12, .inl (cc 0, 52, .inl now_))] sz)) 0 0 (va_A [(q0, .inr (10, [.int feetMany, .ref q1, .int log_, .int block, .ref q2, .int stocking, .ref q3, .int acts, .ref q4, .int keeps, .ref q5, .int hears, .ref q6, .ref q7, .int texted, .int at_, .ref q8, .ref q9, .int readFeetMany, .ref q10, .int readLog, .int readBlock, .ref q11, .int readStocking, .ref q12, .int lefts_, .int rights_, .ref q13, .ref q14, .ref q15, .ref q16, .ref q17])), (q12, .inl (cc 0, 52, .inl now_))] sz) := by
  refine met_go (Qc := fun A => va_Qi (fun (r : Int32) (w : Unit) => r = ret ∧ w = ()) (fun (w : Unit) t => va_P (dC, dI) classes [(q0, .inr (10, [.int feetMany, .ref q1, .int log_, .int block, .ref q2, .int stocking, .ref q3, .int acts, .ref q4, .int keeps, .ref q5, .int hears, .ref q6, .ref q7, .int texted, .int at_, .ref q8, .ref q9, .int readFeetMany, .ref q10, .int readLog, .int readBlock, .ref q11, .int readStocking, .ref q12, .int lefts_, .int rights_, .ref q13, .ref q14, .ref q15, .ref q16, .ref q17])), (q12, .inl (cc 0, 52, .inl now_))] t.heap) A) (by decide) (Nat.le_of_ble_eq_true rfl) ?_
  intro p e s m below meth c A ls H locs hC hr hlk hin hA hP hl _
  have hC : CX p m c cX10_sizeOf 3 s ([.ref q0, .int x1] : List Value).toArray RX10 (dC, dI) (ts cc) := hC
  have hx := hC.1.1
  have hb := hC.1.2
  have h := hu
  have hu0 := hu
  unfold f_X10_sizeOf at h
  have hl : lv_has ls 3 [(0, .ref q0), (1, .int x1)] := hl
  refine lv_aload_n hx hb dX10_sizeOf_0 rfl (lv_at hl 0 rfl) ?_
  refine g_get hC hP fg_X10_44 0 rfl rfl dX10_sizeOf_1 ?_
  refine lv_iconst (v := 2) hx hb dX10_sizeOf_4 (by decide) ?_
  refine lv_iconst (v := 5) hx hb dX10_sizeOf_5 (by decide) ?_
  refine lv_iload_n hx hb dX10_sizeOf_6 rfl (lv_at hl 1 rfl) ?_
  refine lv_imul hx hb dX10_sizeOf_7 ?_
  refine lv_iadd hx hb dX10_sizeOf_8 ?_
  refine lv_iconst (v := 2) hx hb dX10_sizeOf_9 (by decide) ?_
  refine lv_iadd hx hb dX10_sizeOf_10 ?_
  obtain ⟨hin, h⟩ := rd_h h
  refine g_iald hC hP 1 0 rfl rfl hin dX10_sizeOf_11 (fun v1 ev => ?_)
  have h := h v1 ev
  refine lv_istore_n (lv' := [(2, .int v1), (0, .ref q0), (1, .int x1)]) hx hb dX10_sizeOf_12 rfl hl (by decide) rfl (fun ls hl => ?_)
  refine lv_aload_n hx hb dX10_sizeOf_13 rfl (lv_at hl 1 rfl) ?_
  refine lv_iload_n hx hb dX10_sizeOf_14 rfl (lv_at hl 2 rfl) ?_
  obtain ⟨r2, hu, h⟩ := bnd_h h
  refine kc_i (kV hC (c_X10_kindOf l dC dI cc q0 q1 q2 q3 q4 q5 q6 q7 q8 q9 q10 q11 q12 q13 q14 q15 q16 q17 feetMany log_ block stocking acts keeps hears texted at_ readFeetMany readLog readBlock readStocking lefts_ rights_ now_ x1 H.size r2 hu) cv_X10_169 kw983 rfl rfl ⟨(Nat.le_of_ble_eq_true rfl), (Nat.le_of_ble_eq_true rfl)⟩ hP [0, 1] rfl rfl rfl (q0 := 0) rfl (As := [.int x1]) (rest := []) rfl rfl hl.1 (Nat.le_of_ble_eq_true rfl) dX10_sizeOf_15 ⟨Nat.zero_le _, Nat.zero_le _⟩) hP hA [0, 1] rfl rfl (fun H locs hP => ?_)
  have hP : PD (dC, dI) A s.heap [(q0, .inr (10, [.int feetMany, .ref q1, .int log_, .int block, .ref q2, .int stocking, .ref q3, .int acts, .ref q4, .int keeps, .ref q5, .int hears, .ref q6, .ref q7, .int texted, .int at_, .ref q8, .ref q9, .int readFeetMany, .ref q10, .int readLog, .int readBlock, .ref q11, .int readStocking, .ref q12, .int lefts_, .int rights_, .ref q13, .ref q14, .ref q15, .ref q16, .ref q17])), (q12, .inl (cc 0, 52, .inl now_))] H locs := hP
  refine lv_iconst (v := 1) hx hb dX10_sizeOf_18 (by decide) ?_
  refine lv_icmp_ne (tgt := 38) hx hb dX10_sizeOf_19 (by decide) (fun c3 => ?_) (fun c3 => ?_)
  · have h := if_f c3 h
    refine lv_iload_n hx hb dX10_sizeOf_38 rfl (lv_at hl 0 rfl) ?_
    exact ret_i hC hr hlk hP dX10_sizeOf_39 () (⟨Option.some.inj h, rfl⟩) rfl
  · have h := if_t c3 h
    refine lv_iload_n hx hb dX10_sizeOf_22 rfl (lv_at hl 0 rfl) ?_
    refine lv_iload_n hx hb dX10_sizeOf_23 rfl (lv_at hl 0 rfl) ?_
    refine lv_aload_n hx hb dX10_sizeOf_24 rfl (lv_at hl 1 rfl) ?_
    refine lv_iload_n hx hb dX10_sizeOf_25 rfl (lv_at hl 2 rfl) ?_
    obtain ⟨r4, hu, h⟩ := bnd_h h
    refine kc_i (kV hC (c_X10_driedFor l dC dI cc q0 q1 q2 q3 q4 q5 q6 q7 q8 q9 q10 q11 q12 q13 q14 q15 q16 q17 feetMany log_ block stocking acts keeps hears texted at_ readFeetMany readLog readBlock readStocking lefts_ rights_ now_ x1 H.size r4 hu) cv_X10_172 kw995 rfl rfl ⟨(Nat.le_of_ble_eq_true rfl), (Nat.le_of_ble_eq_true rfl)⟩ hP [0, 1] rfl rfl rfl (q0 := 0) rfl (As := [.int x1]) (rest := [.int v1, .int v1]) rfl rfl hl.1 (Nat.le_of_ble_eq_true rfl) dX10_sizeOf_26 ⟨Nat.zero_le _, Nat.zero_le _⟩) hP hA [0, 1] rfl rfl (fun H locs hP => ?_)
    have hP : PD (dC, dI) A s.heap [(q0, .inr (10, [.int feetMany, .ref q1, .int log_, .int block, .ref q2, .int stocking, .ref q3, .int acts, .ref q4, .int keeps, .ref q5, .int hears, .ref q6, .ref q7, .int texted, .int at_, .ref q8, .ref q9, .int readFeetMany, .ref q10, .int readLog, .int readBlock, .ref q11, .int readStocking, .ref q12, .int lefts_, .int rights_, .ref q13, .ref q14, .ref q15, .ref q16, .ref q17])), (q12, .inl (cc 0, 52, .inl now_))] H locs := hP
    refine lv_imul hx hb dX10_sizeOf_29 ?_
    refine lv_sipush (v := 360) hx hb dX10_sizeOf_30 (by decide) ?_
    refine lv_idiv hx hb dX10_sizeOf_33 (by decide) ?_
    refine lv_isub hx hb dX10_sizeOf_34 ?_
    refine lv_goto (tgt := 39) hx hb dX10_sizeOf_35 (by decide) ?_
    exact ret_i hC hr hlk hP dX10_sizeOf_39 () (⟨Option.some.inj h, rfl⟩) rfl
set_option maxHeartbeats 8000000 in
set_option maxRecDepth 100000 in
theorem c_X10_weightOf (l : Launch) (dC : Nat → ClassId) (dI : Nat → Nat → Nat) (cc : Nat → ClassId) (q0 q1 q2 q3 q4 q5 q6 q7 q8 q9 q10 q11 q12 q13 q14 q15 q16 q17 : Nat) (feetMany : Int32) (log_ : Int32) (block : Int32) (stocking : Int32) (acts : Int32) (keeps : Int32) (hears : Int32) (texted : Int32) (at_ : Int32) (readFeetMany : Int32) (readLog : Int32) (readBlock : Int32) (readStocking : Int32) (lefts_ : Int32) (rights_ : Int32) (now_ : (Nat → Int32)) (x1 : Int32) (sz : Nat) (ret : Int32) (hu : f_X10_weightOf x1 now_ = some ret) : Met l yX10_weightOf (mw yX10_weightOf cX10_weightOf 3 (some .int)) ({ frames := 1, cells := 0, slots := 0, locals := 22 } : Room) (va_Pc [.ref q0, .int x1] (mP (dC, dI) (ts cc) sz [(q0, .inr (10, [.int feetMany, .ref q1, .int log_, .int block, .ref q2, .int stocking, .ref q3, .int acts, .ref q4, .int keeps, .ref q5, .int hears, .ref q6, .ref q7, .int texted, .int at_, .ref q8, .ref q9, .int readFeetMany, .ref q10, .int readLog, .int readBlock, .ref q11, .int readStocking, .ref q12, .int lefts_, .int rights_, .ref q13, .ref q14, .ref q15, .ref q16, .ref q17])), (q12, .inl (cc 0, 52, .inl now_))])) ((fun A => va_Qi (fun (r : Int32) (w : Unit) => r = ret ∧ w = ()) (fun (w : Unit) t => va_P (dC, dI) classes [(q0, .inr (10, [.int feetMany, .ref q1, .int log_, .int block, .ref q2, .int stocking, .ref q3, .int acts, .ref q4, .int keeps, .ref q5, .int hears, .ref q6, .ref q7, .int texted, .int at_, .ref q8, .ref q9, .int readFeetMany, .ref q10, .int readLog, .int readBlock, .ref q11, .int readStocking, .ref q12, .int lefts_, .int rights_, .ref q13, .ref q14, .ref q15, .ref q16, .ref q17])), (q12, .inl (cc 0, 52, .inl now_))] t.heap) A) (va_A [(q0, .inr (10, [.int feetMany, .ref q1, .int log_, .int block, .ref q2, .int stocking, .ref q3, .int acts, .ref q4, .int keeps, .ref q5, .int hears, .ref q6, .ref q7, .int texted, .int at_, .ref q8, .ref q9, .int readFeetMany, .ref q10, .int readLog, .int readBlock, .ref q11, .int readStocking, .ref q12, .int lefts_, .int rights_, .ref q13, .ref q14, .ref q15, .ref q16, .ref q17])), (q12, .inl (cc 0, 52, .inl now_))] sz)) 0 0 (va_A [(q0, .inr (10, [.int feetMany, .ref q1, .int log_, .int block, .ref q2, .int stocking, .ref q3, .int acts, .ref q4, .int keeps, .ref q5, .int hears, .ref q6, .ref q7, .int texted, .int at_, .ref q8, .ref q9, .int readFeetMany, .ref q10, .int readLog, .int readBlock, .ref q11, .int readStocking, .ref q12, .int lefts_, .int rights_, .ref q13, .ref q14, .ref q15, .ref q16, .ref q17])), (q12, .inl (cc 0, 52, .inl now_))] sz) := by
  refine met_go (Qc := fun A => va_Qi (fun (r : Int32) (w : Unit) => r = ret ∧ w = ()) (fun (w : Unit) t => va_P (dC, dI) classes [(q0, .inr (10, [.int feetMany, .ref q1, .int log_, .int block, .ref q2, .int stocking, .ref q3, .int acts, .ref q4, .int keeps, .ref q5, .int hears, .ref q6, .ref q7, .int texted, .int at_, .ref q8, .ref q9, .int readFeetMany, .ref q10, .int readLog, .int readBlock, .ref q11, .int readStocking, .ref q12, .int lefts_, .int rights_, .ref q13, .ref q14, .ref q15, .ref q16, .ref q17])), (q12, .inl (cc 0, 52, .inl now_))] t.heap) A) (by decide) (Nat.le_of_ble_eq_true rfl) ?_
  intro p e s m below meth c A ls H locs hC hr hlk hin hA hP hl _
  have hC : CX p m c cX10_weightOf 3 s ([.ref q0, .int x1] : List Value).toArray RX10 (dC, dI) (ts cc) := hC
  have hx := hC.1.1
  have hb := hC.1.2
  have h := hu
  have hu0 := hu
  unfold f_X10_weightOf at h
  have hl : lv_has ls 3 [(0, .ref q0), (1, .int x1)] := hl
  refine lv_aload_n hx hb dX10_weightOf_0 rfl (lv_at hl 0 rfl) ?_
  refine g_get hC hP fg_X10_44 0 rfl rfl dX10_weightOf_1 ?_
  refine lv_iconst (v := 2) hx hb dX10_weightOf_4 (by decide) ?_
  refine lv_iconst (v := 5) hx hb dX10_weightOf_5 (by decide) ?_
  refine lv_iload_n hx hb dX10_weightOf_6 rfl (lv_at hl 1 rfl) ?_
  refine lv_imul hx hb dX10_weightOf_7 ?_
  refine lv_iadd hx hb dX10_weightOf_8 ?_
  refine lv_iconst (v := 3) hx hb dX10_weightOf_9 (by decide) ?_
  refine lv_iadd hx hb dX10_weightOf_10 ?_
  obtain ⟨hin, h⟩ := rd_h h
  refine g_iald hC hP 1 0 rfl rfl hin dX10_weightOf_11 (fun v1 ev => ?_)
  have h := h v1 ev
  refine lv_istore_n (lv' := [(2, .int v1), (0, .ref q0), (1, .int x1)]) hx hb dX10_weightOf_12 rfl hl (by decide) rfl (fun ls hl => ?_)
  refine lv_aload_n hx hb dX10_weightOf_13 rfl (lv_at hl 1 rfl) ?_
  refine lv_iload_n hx hb dX10_weightOf_14 rfl (lv_at hl 2 rfl) ?_
  obtain ⟨r2, hu, h⟩ := bnd_h h
  refine kc_i (kV hC (c_X10_kindOf l dC dI cc q0 q1 q2 q3 q4 q5 q6 q7 q8 q9 q10 q11 q12 q13 q14 q15 q16 q17 feetMany log_ block stocking acts keeps hears texted at_ readFeetMany readLog readBlock readStocking lefts_ rights_ now_ x1 H.size r2 hu) cv_X10_169 kw983 rfl rfl ⟨(Nat.le_of_ble_eq_true rfl), (Nat.le_of_ble_eq_true rfl)⟩ hP [0, 1] rfl rfl rfl (q0 := 0) rfl (As := [.int x1]) (rest := []) rfl rfl hl.1 (Nat.le_of_ble_eq_true rfl) dX10_weightOf_15 ⟨Nat.zero_le _, Nat.zero_le _⟩) hP hA [0, 1] rfl rfl (fun H locs hP => ?_)
  have hP : PD (dC, dI) A s.heap [(q0, .inr (10, [.int feetMany, .ref q1, .int log_, .int block, .ref q2, .int stocking, .ref q3, .int acts, .ref q4, .int keeps, .ref q5, .int hears, .ref q6, .ref q7, .int texted, .int at_, .ref q8, .ref q9, .int readFeetMany, .ref q10, .int readLog, .int readBlock, .ref q11, .int readStocking, .ref q12, .int lefts_, .int rights_, .ref q13, .ref q14, .ref q15, .ref q16, .ref q17])), (q12, .inl (cc 0, 52, .inl now_))] H locs := hP
  by_cases c3 : r2 = 1
  · have h := if_t c3 h
    refine lv_lookup (tgt := 44) hx hb dX10_weightOf_18 (by decide) (by first | (rw [c3]; done) | (rw [c3]; rfl)) (by decide) ?_
    refine lv_iload_n hx hb dX10_weightOf_44 rfl (lv_at hl 0 rfl) ?_
    refine lv_iload_n hx hb dX10_weightOf_45 rfl (lv_at hl 0 rfl) ?_
    refine lv_aload_n hx hb dX10_weightOf_46 rfl (lv_at hl 1 rfl) ?_
    refine lv_iload_n hx hb dX10_weightOf_47 rfl (lv_at hl 2 rfl) ?_
    obtain ⟨r4, hu, h⟩ := bnd_h h
    refine kc_i (kV hC (c_X10_driedFor l dC dI cc q0 q1 q2 q3 q4 q5 q6 q7 q8 q9 q10 q11 q12 q13 q14 q15 q16 q17 feetMany log_ block stocking acts keeps hears texted at_ readFeetMany readLog readBlock readStocking lefts_ rights_ now_ x1 H.size r4 hu) cv_X10_172 kw995 rfl rfl ⟨(Nat.le_of_ble_eq_true rfl), (Nat.le_of_ble_eq_true rfl)⟩ hP [0, 1] rfl rfl rfl (q0 := 0) rfl (As := [.int x1]) (rest := [.int v1, .int v1]) rfl rfl hl.1 (Nat.le_of_ble_eq_true rfl) dX10_weightOf_48 ⟨Nat.zero_le _, Nat.zero_le _⟩) hP hA [0, 1] rfl rfl (fun H locs hP => ?_)
    have hP : PD (dC, dI) A s.heap [(q0, .inr (10, [.int feetMany, .ref q1, .int log_, .int block, .ref q2, .int stocking, .ref q3, .int acts, .ref q4, .int keeps, .ref q5, .int hears, .ref q6, .ref q7, .int texted, .int at_, .ref q8, .ref q9, .int readFeetMany, .ref q10, .int readLog, .int readBlock, .ref q11, .int readStocking, .ref q12, .int lefts_, .int rights_, .ref q13, .ref q14, .ref q15, .ref q16, .ref q17])), (q12, .inl (cc 0, 52, .inl now_))] H locs := hP
    refine lv_imul hx hb dX10_weightOf_51 ?_
    refine lv_bipush (v := 90) hx hb dX10_weightOf_52 (by decide) ?_
    refine lv_idiv hx hb dX10_weightOf_54 (by decide) ?_
    refine lv_isub hx hb dX10_weightOf_55 ?_
    exact ret_i hC hr hlk hP dX10_weightOf_56 () (⟨Option.some.inj h, rfl⟩) rfl
  · have h := if_f c3 h
    by_cases c5 : r2 = 3
    · have h := if_t c5 h
      refine lv_lookup (tgt := 57) hx hb dX10_weightOf_18 (by decide) (by first | (rw [c5]; done) | (rw [c5]; rfl)) (by decide) ?_
      refine lv_iload_n hx hb dX10_weightOf_57 rfl (lv_at hl 0 rfl) ?_
      refine lv_iconst (v := 2) hx hb dX10_weightOf_58 (by decide) ?_
      refine lv_iadd hx hb dX10_weightOf_59 ?_
      exact ret_i hC hr hlk hP dX10_weightOf_60 () (⟨Option.some.inj h, rfl⟩) rfl
    · have h := if_f c5 h
      refine lv_lookup (tgt := 61) hx hb dX10_weightOf_18 (by decide) (sw_out_X10_weightOf_18 c3 c5) (by decide) ?_
      refine lv_iload_n hx hb dX10_weightOf_61 rfl (lv_at hl 0 rfl) ?_
      exact ret_i hC hr hlk hP dX10_weightOf_62 () (⟨Option.some.inj h, rfl⟩) rfl
set_option maxHeartbeats 8000000 in
set_option maxRecDepth 100000 in
theorem c_X10_areAlike (l : Launch) (dC : Nat → ClassId) (dI : Nat → Nat → Nat) (cc : Nat → ClassId) (q0 q1 q2 q3 q4 q5 q6 q7 q8 q9 q10 q11 q12 q13 q14 q15 q16 q17 : Nat) (feetMany : Int32) (log_ : Int32) (block : Int32) (stocking : Int32) (acts : Int32) (keeps : Int32) (hears : Int32) (texted : Int32) (at_ : Int32) (readFeetMany : Int32) (readLog : Int32) (readBlock : Int32) (readStocking : Int32) (lefts_ : Int32) (rights_ : Int32) (now_ : (Nat → Int32)) (x1 : Int32) (x2 : Int32) (sz : Nat) (ret : Int32) (hu : f_X10_areAlike x1 x2 now_ = some ret) : Met l yX10_areAlike (mw yX10_areAlike cX10_areAlike 3 (some .boolean)) ({ frames := 2, cells := 0, slots := 0, locals := 44 } : Room) (va_Pc [.ref q0, .int x1, .int x2] (mP (dC, dI) (ts cc) sz [(q0, .inr (10, [.int feetMany, .ref q1, .int log_, .int block, .ref q2, .int stocking, .ref q3, .int acts, .ref q4, .int keeps, .ref q5, .int hears, .ref q6, .ref q7, .int texted, .int at_, .ref q8, .ref q9, .int readFeetMany, .ref q10, .int readLog, .int readBlock, .ref q11, .int readStocking, .ref q12, .int lefts_, .int rights_, .ref q13, .ref q14, .ref q15, .ref q16, .ref q17])), (q12, .inl (cc 0, 52, .inl now_))])) ((fun A => va_Qi (fun (r : Int32) (w : Unit) => narrow .boolean (.int r) = .int r ∧ (r = ret ∧ w = ())) (fun (w : Unit) t => va_P (dC, dI) classes [(q0, .inr (10, [.int feetMany, .ref q1, .int log_, .int block, .ref q2, .int stocking, .ref q3, .int acts, .ref q4, .int keeps, .ref q5, .int hears, .ref q6, .ref q7, .int texted, .int at_, .ref q8, .ref q9, .int readFeetMany, .ref q10, .int readLog, .int readBlock, .ref q11, .int readStocking, .ref q12, .int lefts_, .int rights_, .ref q13, .ref q14, .ref q15, .ref q16, .ref q17])), (q12, .inl (cc 0, 52, .inl now_))] t.heap) A) (va_A [(q0, .inr (10, [.int feetMany, .ref q1, .int log_, .int block, .ref q2, .int stocking, .ref q3, .int acts, .ref q4, .int keeps, .ref q5, .int hears, .ref q6, .ref q7, .int texted, .int at_, .ref q8, .ref q9, .int readFeetMany, .ref q10, .int readLog, .int readBlock, .ref q11, .int readStocking, .ref q12, .int lefts_, .int rights_, .ref q13, .ref q14, .ref q15, .ref q16, .ref q17])), (q12, .inl (cc 0, 52, .inl now_))] sz)) 0 0 (va_A [(q0, .inr (10, [.int feetMany, .ref q1, .int log_, .int block, .ref q2, .int stocking, .ref q3, .int acts, .ref q4, .int keeps, .ref q5, .int hears, .ref q6, .ref q7, .int texted, .int at_, .ref q8, .ref q9, .int readFeetMany, .ref q10, .int readLog, .int readBlock, .ref q11, .int readStocking, .ref q12, .int lefts_, .int rights_, .ref q13, .ref q14, .ref q15, .ref q16, .ref q17])), (q12, .inl (cc 0, 52, .inl now_))] sz) := by
  refine met_go (Qc := fun A => va_Qi (fun (r : Int32) (w : Unit) => narrow .boolean (.int r) = .int r ∧ (r = ret ∧ w = ())) (fun (w : Unit) t => va_P (dC, dI) classes [(q0, .inr (10, [.int feetMany, .ref q1, .int log_, .int block, .ref q2, .int stocking, .ref q3, .int acts, .ref q4, .int keeps, .ref q5, .int hears, .ref q6, .ref q7, .int texted, .int at_, .ref q8, .ref q9, .int readFeetMany, .ref q10, .int readLog, .int readBlock, .ref q11, .int readStocking, .ref q12, .int lefts_, .int rights_, .ref q13, .ref q14, .ref q15, .ref q16, .ref q17])), (q12, .inl (cc 0, 52, .inl now_))] t.heap) A) (by decide) (Nat.le_of_ble_eq_true rfl) ?_
  intro p e s m below meth c A ls H locs hC hr hlk hin hA hP hl _
  have hC : CX p m c cX10_areAlike 3 s ([.ref q0, .int x1, .int x2] : List Value).toArray RX10 (dC, dI) (ts cc) := hC
  have hx := hC.1.1
  have hb := hC.1.2
  have h := hu
  have hu0 := hu
  unfold f_X10_areAlike at h
  have hl : lv_has ls 3 [(0, .ref q0), (1, .int x1), (2, .int x2)] := hl
  refine lv_aload_n hx hb dX10_areAlike_0 rfl (lv_at hl 0 rfl) ?_
  refine lv_iload_n hx hb dX10_areAlike_1 rfl (lv_at hl 1 rfl) ?_
  obtain ⟨r1, hu, h⟩ := bnd_h h
  refine kc_i (kV hC (c_X10_sideOf l dC dI cc q0 q1 q2 q3 q4 q5 q6 q7 q8 q9 q10 q11 q12 q13 q14 q15 q16 q17 feetMany log_ block stocking acts keeps hears texted at_ readFeetMany readLog readBlock readStocking lefts_ rights_ now_ x1 H.size r1 hu) cv_X10_175 kw987 rfl rfl ⟨(Nat.le_of_ble_eq_true rfl), (Nat.le_of_ble_eq_true rfl)⟩ hP [0, 1] rfl rfl rfl (q0 := 0) rfl (As := [.int x1]) (rest := []) rfl rfl hl.1 (Nat.le_of_ble_eq_true rfl) dX10_areAlike_2 ⟨Nat.zero_le _, Nat.zero_le _⟩) hP hA [0, 1] rfl rfl (fun H locs hP => ?_)
  have hP : PD (dC, dI) A s.heap [(q0, .inr (10, [.int feetMany, .ref q1, .int log_, .int block, .ref q2, .int stocking, .ref q3, .int acts, .ref q4, .int keeps, .ref q5, .int hears, .ref q6, .ref q7, .int texted, .int at_, .ref q8, .ref q9, .int readFeetMany, .ref q10, .int readLog, .int readBlock, .ref q11, .int readStocking, .ref q12, .int lefts_, .int rights_, .ref q13, .ref q14, .ref q15, .ref q16, .ref q17])), (q12, .inl (cc 0, 52, .inl now_))] H locs := hP
  refine lv_aload_n hx hb dX10_areAlike_5 rfl (lv_at hl 0 rfl) ?_
  refine lv_iload_n hx hb dX10_areAlike_6 rfl (lv_at hl 2 rfl) ?_
  obtain ⟨r2, hu, h⟩ := bnd_h h
  refine kc_i (kV hC (c_X10_sideOf l dC dI cc q0 q1 q2 q3 q4 q5 q6 q7 q8 q9 q10 q11 q12 q13 q14 q15 q16 q17 feetMany log_ block stocking acts keeps hears texted at_ readFeetMany readLog readBlock readStocking lefts_ rights_ now_ x2 H.size r2 hu) cv_X10_175 kw987 rfl rfl ⟨(Nat.le_of_ble_eq_true rfl), (Nat.le_of_ble_eq_true rfl)⟩ hP [0, 1] rfl rfl rfl (q0 := 0) rfl (As := [.int x2]) (rest := [.int r1]) rfl rfl hl.1 (Nat.le_of_ble_eq_true rfl) dX10_areAlike_7 ⟨Nat.zero_le _, Nat.zero_le _⟩) hP hA [0, 1] rfl rfl (fun H locs hP => ?_)
  have hP : PD (dC, dI) A s.heap [(q0, .inr (10, [.int feetMany, .ref q1, .int log_, .int block, .ref q2, .int stocking, .ref q3, .int acts, .ref q4, .int keeps, .ref q5, .int hears, .ref q6, .ref q7, .int texted, .int at_, .ref q8, .ref q9, .int readFeetMany, .ref q10, .int readLog, .int readBlock, .ref q11, .int readStocking, .ref q12, .int lefts_, .int rights_, .ref q13, .ref q14, .ref q15, .ref q16, .ref q17])), (q12, .inl (cc 0, 52, .inl now_))] H locs := hP
  refine lv_icmp_eq (tgt := 69) hx hb dX10_areAlike_10 (by decide) (fun c3 => ?_) (fun c3 => ?_)
  · have h := if_t c3 h
    refine lv_iconst (v := 0) hx hb dX10_areAlike_69 (by decide) ?_
    exact ret_z hC hr rfl hlk hP dX10_areAlike_70 () (⟨Option.some.inj h, rfl⟩) rfl
  · have h := if_f c3 h
    refine lv_aload_n hx hb dX10_areAlike_13 rfl (lv_at hl 0 rfl) ?_
    refine lv_iload_n hx hb dX10_areAlike_14 rfl (lv_at hl 1 rfl) ?_
    obtain ⟨r4, hu, h⟩ := bnd_h h
    refine kc_i (kV hC (c_X10_kindOf l dC dI cc q0 q1 q2 q3 q4 q5 q6 q7 q8 q9 q10 q11 q12 q13 q14 q15 q16 q17 feetMany log_ block stocking acts keeps hears texted at_ readFeetMany readLog readBlock readStocking lefts_ rights_ now_ x1 H.size r4 hu) cv_X10_169 kw983 rfl rfl ⟨(Nat.le_of_ble_eq_true rfl), (Nat.le_of_ble_eq_true rfl)⟩ hP [0, 1] rfl rfl rfl (q0 := 0) rfl (As := [.int x1]) (rest := []) rfl rfl hl.1 (Nat.le_of_ble_eq_true rfl) dX10_areAlike_15 ⟨Nat.zero_le _, Nat.zero_le _⟩) hP hA [0, 1] rfl rfl (fun H locs hP => ?_)
    have hP : PD (dC, dI) A s.heap [(q0, .inr (10, [.int feetMany, .ref q1, .int log_, .int block, .ref q2, .int stocking, .ref q3, .int acts, .ref q4, .int keeps, .ref q5, .int hears, .ref q6, .ref q7, .int texted, .int at_, .ref q8, .ref q9, .int readFeetMany, .ref q10, .int readLog, .int readBlock, .ref q11, .int readStocking, .ref q12, .int lefts_, .int rights_, .ref q13, .ref q14, .ref q15, .ref q16, .ref q17])), (q12, .inl (cc 0, 52, .inl now_))] H locs := hP
    refine lv_iconst (v := 2) hx hb dX10_areAlike_18 (by decide) ?_
    refine lv_icmp_eq (tgt := 69) hx hb dX10_areAlike_19 (by decide) (fun c5 => ?_) (fun c5 => ?_)
    · have h := if_t c5 h
      refine lv_iconst (v := 0) hx hb dX10_areAlike_69 (by decide) ?_
      exact ret_z hC hr rfl hlk hP dX10_areAlike_70 () (⟨Option.some.inj h, rfl⟩) rfl
    · have h := if_f c5 h
      refine lv_aload_n hx hb dX10_areAlike_22 rfl (lv_at hl 0 rfl) ?_
      refine lv_iload_n hx hb dX10_areAlike_23 rfl (lv_at hl 2 rfl) ?_
      obtain ⟨r6, hu, h⟩ := bnd_h h
      refine kc_i (kV hC (c_X10_kindOf l dC dI cc q0 q1 q2 q3 q4 q5 q6 q7 q8 q9 q10 q11 q12 q13 q14 q15 q16 q17 feetMany log_ block stocking acts keeps hears texted at_ readFeetMany readLog readBlock readStocking lefts_ rights_ now_ x2 H.size r6 hu) cv_X10_169 kw983 rfl rfl ⟨(Nat.le_of_ble_eq_true rfl), (Nat.le_of_ble_eq_true rfl)⟩ hP [0, 1] rfl rfl rfl (q0 := 0) rfl (As := [.int x2]) (rest := []) rfl rfl hl.1 (Nat.le_of_ble_eq_true rfl) dX10_areAlike_24 ⟨Nat.zero_le _, Nat.zero_le _⟩) hP hA [0, 1] rfl rfl (fun H locs hP => ?_)
      have hP : PD (dC, dI) A s.heap [(q0, .inr (10, [.int feetMany, .ref q1, .int log_, .int block, .ref q2, .int stocking, .ref q3, .int acts, .ref q4, .int keeps, .ref q5, .int hears, .ref q6, .ref q7, .int texted, .int at_, .ref q8, .ref q9, .int readFeetMany, .ref q10, .int readLog, .int readBlock, .ref q11, .int readStocking, .ref q12, .int lefts_, .int rights_, .ref q13, .ref q14, .ref q15, .ref q16, .ref q17])), (q12, .inl (cc 0, 52, .inl now_))] H locs := hP
      refine lv_iconst (v := 2) hx hb dX10_areAlike_27 (by decide) ?_
      refine lv_icmp_eq (tgt := 69) hx hb dX10_areAlike_28 (by decide) (fun c7 => ?_) (fun c7 => ?_)
      · have h := if_t c7 h
        refine lv_iconst (v := 0) hx hb dX10_areAlike_69 (by decide) ?_
        exact ret_z hC hr rfl hlk hP dX10_areAlike_70 () (⟨Option.some.inj h, rfl⟩) rfl
      · have h := if_f c7 h
        refine lv_aload_n hx hb dX10_areAlike_31 rfl (lv_at hl 0 rfl) ?_
        refine lv_iload_n hx hb dX10_areAlike_32 rfl (lv_at hl 1 rfl) ?_
        obtain ⟨r8, hu, h⟩ := bnd_h h
        refine kc_i (kV hC (c_X10_sizeOf l dC dI cc q0 q1 q2 q3 q4 q5 q6 q7 q8 q9 q10 q11 q12 q13 q14 q15 q16 q17 feetMany log_ block stocking acts keeps hears texted at_ readFeetMany readLog readBlock readStocking lefts_ rights_ now_ x1 H.size r8 hu) cv_X10_178 kw991 rfl rfl ⟨(Nat.le_of_ble_eq_true rfl), (Nat.le_of_ble_eq_true rfl)⟩ hP [0, 1] rfl rfl rfl (q0 := 0) rfl (As := [.int x1]) (rest := []) rfl rfl hl.1 (Nat.le_of_ble_eq_true rfl) dX10_areAlike_33 ⟨Nat.zero_le _, Nat.zero_le _⟩) hP hA [0, 1] rfl rfl (fun H locs hP => ?_)
        have hP : PD (dC, dI) A s.heap [(q0, .inr (10, [.int feetMany, .ref q1, .int log_, .int block, .ref q2, .int stocking, .ref q3, .int acts, .ref q4, .int keeps, .ref q5, .int hears, .ref q6, .ref q7, .int texted, .int at_, .ref q8, .ref q9, .int readFeetMany, .ref q10, .int readLog, .int readBlock, .ref q11, .int readStocking, .ref q12, .int lefts_, .int rights_, .ref q13, .ref q14, .ref q15, .ref q16, .ref q17])), (q12, .inl (cc 0, 52, .inl now_))] H locs := hP
        refine lv_aload_n hx hb dX10_areAlike_36 rfl (lv_at hl 0 rfl) ?_
        refine lv_iload_n hx hb dX10_areAlike_37 rfl (lv_at hl 2 rfl) ?_
        obtain ⟨r9, hu, h⟩ := bnd_h h
        refine kc_i (kV hC (c_X10_sizeOf l dC dI cc q0 q1 q2 q3 q4 q5 q6 q7 q8 q9 q10 q11 q12 q13 q14 q15 q16 q17 feetMany log_ block stocking acts keeps hears texted at_ readFeetMany readLog readBlock readStocking lefts_ rights_ now_ x2 H.size r9 hu) cv_X10_178 kw991 rfl rfl ⟨(Nat.le_of_ble_eq_true rfl), (Nat.le_of_ble_eq_true rfl)⟩ hP [0, 1] rfl rfl rfl (q0 := 0) rfl (As := [.int x2]) (rest := [.int r8]) rfl rfl hl.1 (Nat.le_of_ble_eq_true rfl) dX10_areAlike_38 ⟨Nat.zero_le _, Nat.zero_le _⟩) hP hA [0, 1] rfl rfl (fun H locs hP => ?_)
        have hP : PD (dC, dI) A s.heap [(q0, .inr (10, [.int feetMany, .ref q1, .int log_, .int block, .ref q2, .int stocking, .ref q3, .int acts, .ref q4, .int keeps, .ref q5, .int hears, .ref q6, .ref q7, .int texted, .int at_, .ref q8, .ref q9, .int readFeetMany, .ref q10, .int readLog, .int readBlock, .ref q11, .int readStocking, .ref q12, .int lefts_, .int rights_, .ref q13, .ref q14, .ref q15, .ref q16, .ref q17])), (q12, .inl (cc 0, 52, .inl now_))] H locs := hP
        obtain ⟨r10, hu, h⟩ := bnd_h h
        refine kc_i (kS hC (c_X10_apart l dC dI cc r8 r9 H.size r10 hu) cs_X10_181 kw1026 rfl rfl ⟨(Nat.le_of_ble_eq_true rfl), (Nat.le_of_ble_eq_true rfl)⟩ hP [] rfl rfl (As := [.int r8, .int r9]) (rest := []) rfl rfl hl.1 (Nat.le_of_ble_eq_true rfl) dX10_areAlike_41 ⟨Nat.zero_le _, Nat.zero_le _⟩) hP hA [] rfl rfl (fun H locs hP => ?_)
        have hP : PD (dC, dI) A s.heap [(q0, .inr (10, [.int feetMany, .ref q1, .int log_, .int block, .ref q2, .int stocking, .ref q3, .int acts, .ref q4, .int keeps, .ref q5, .int hears, .ref q6, .ref q7, .int texted, .int at_, .ref q8, .ref q9, .int readFeetMany, .ref q10, .int readLog, .int readBlock, .ref q11, .int readStocking, .ref q12, .int lefts_, .int rights_, .ref q13, .ref q14, .ref q15, .ref q16, .ref q17])), (q12, .inl (cc 0, 52, .inl now_))] H locs := hP
        refine lv_iconst (v := 2) hx hb dX10_areAlike_44 (by decide) ?_
        refine lv_icmp_ge (tgt := 69) hx hb dX10_areAlike_45 (by decide) (fun c11 => ?_) (fun c11 => ?_)
        · have h := if_t c11 h
          refine lv_iconst (v := 0) hx hb dX10_areAlike_69 (by decide) ?_
          exact ret_z hC hr rfl hlk hP dX10_areAlike_70 () (⟨Option.some.inj h, rfl⟩) rfl
        · have h := if_f c11 h
          refine lv_aload_n hx hb dX10_areAlike_48 rfl (lv_at hl 0 rfl) ?_
          refine lv_iload_n hx hb dX10_areAlike_49 rfl (lv_at hl 1 rfl) ?_
          obtain ⟨r12, hu, h⟩ := bnd_h h
          refine kc_i (kV hC (c_X10_weightOf l dC dI cc q0 q1 q2 q3 q4 q5 q6 q7 q8 q9 q10 q11 q12 q13 q14 q15 q16 q17 feetMany log_ block stocking acts keeps hears texted at_ readFeetMany readLog readBlock readStocking lefts_ rights_ now_ x1 H.size r12 hu) cv_X10_185 kw999 rfl rfl ⟨(Nat.le_of_ble_eq_true rfl), (Nat.le_of_ble_eq_true rfl)⟩ hP [0, 1] rfl rfl rfl (q0 := 0) rfl (As := [.int x1]) (rest := []) rfl rfl hl.1 (Nat.le_of_ble_eq_true rfl) dX10_areAlike_50 ⟨Nat.zero_le _, Nat.zero_le _⟩) hP hA [0, 1] rfl rfl (fun H locs hP => ?_)
          have hP : PD (dC, dI) A s.heap [(q0, .inr (10, [.int feetMany, .ref q1, .int log_, .int block, .ref q2, .int stocking, .ref q3, .int acts, .ref q4, .int keeps, .ref q5, .int hears, .ref q6, .ref q7, .int texted, .int at_, .ref q8, .ref q9, .int readFeetMany, .ref q10, .int readLog, .int readBlock, .ref q11, .int readStocking, .ref q12, .int lefts_, .int rights_, .ref q13, .ref q14, .ref q15, .ref q16, .ref q17])), (q12, .inl (cc 0, 52, .inl now_))] H locs := hP
          refine lv_aload_n hx hb dX10_areAlike_53 rfl (lv_at hl 0 rfl) ?_
          refine lv_iload_n hx hb dX10_areAlike_54 rfl (lv_at hl 2 rfl) ?_
          obtain ⟨r13, hu, h⟩ := bnd_h h
          refine kc_i (kV hC (c_X10_weightOf l dC dI cc q0 q1 q2 q3 q4 q5 q6 q7 q8 q9 q10 q11 q12 q13 q14 q15 q16 q17 feetMany log_ block stocking acts keeps hears texted at_ readFeetMany readLog readBlock readStocking lefts_ rights_ now_ x2 H.size r13 hu) cv_X10_185 kw999 rfl rfl ⟨(Nat.le_of_ble_eq_true rfl), (Nat.le_of_ble_eq_true rfl)⟩ hP [0, 1] rfl rfl rfl (q0 := 0) rfl (As := [.int x2]) (rest := [.int r12]) rfl rfl hl.1 (Nat.le_of_ble_eq_true rfl) dX10_areAlike_55 ⟨Nat.zero_le _, Nat.zero_le _⟩) hP hA [0, 1] rfl rfl (fun H locs hP => ?_)
          have hP : PD (dC, dI) A s.heap [(q0, .inr (10, [.int feetMany, .ref q1, .int log_, .int block, .ref q2, .int stocking, .ref q3, .int acts, .ref q4, .int keeps, .ref q5, .int hears, .ref q6, .ref q7, .int texted, .int at_, .ref q8, .ref q9, .int readFeetMany, .ref q10, .int readLog, .int readBlock, .ref q11, .int readStocking, .ref q12, .int lefts_, .int rights_, .ref q13, .ref q14, .ref q15, .ref q16, .ref q17])), (q12, .inl (cc 0, 52, .inl now_))] H locs := hP
          obtain ⟨r14, hu, h⟩ := bnd_h h
          refine kc_i (kS hC (c_X10_apart l dC dI cc r12 r13 H.size r14 hu) cs_X10_181 kw1026 rfl rfl ⟨(Nat.le_of_ble_eq_true rfl), (Nat.le_of_ble_eq_true rfl)⟩ hP [] rfl rfl (As := [.int r12, .int r13]) (rest := []) rfl rfl hl.1 (Nat.le_of_ble_eq_true rfl) dX10_areAlike_58 ⟨Nat.zero_le _, Nat.zero_le _⟩) hP hA [] rfl rfl (fun H locs hP => ?_)
          have hP : PD (dC, dI) A s.heap [(q0, .inr (10, [.int feetMany, .ref q1, .int log_, .int block, .ref q2, .int stocking, .ref q3, .int acts, .ref q4, .int keeps, .ref q5, .int hears, .ref q6, .ref q7, .int texted, .int at_, .ref q8, .ref q9, .int readFeetMany, .ref q10, .int readLog, .int readBlock, .ref q11, .int readStocking, .ref q12, .int lefts_, .int rights_, .ref q13, .ref q14, .ref q15, .ref q16, .ref q17])), (q12, .inl (cc 0, 52, .inl now_))] H locs := hP
          refine lv_iconst (v := 4) hx hb dX10_areAlike_61 (by decide) ?_
          refine lv_icmp_ge (tgt := 69) hx hb dX10_areAlike_62 (by decide) (fun c15 => ?_) (fun c15 => ?_)
          · have h := if_t c15 h
            refine lv_iconst (v := 0) hx hb dX10_areAlike_69 (by decide) ?_
            exact ret_z hC hr rfl hlk hP dX10_areAlike_70 () (⟨Option.some.inj h, rfl⟩) rfl
          · have h := if_f c15 h
            refine lv_iconst (v := 1) hx hb dX10_areAlike_65 (by decide) ?_
            refine lv_goto (tgt := 70) hx hb dX10_areAlike_66 (by decide) ?_
            exact ret_z hC hr rfl hlk hP dX10_areAlike_70 () (⟨Option.some.inj h, rfl⟩) rfl
set_option maxHeartbeats 8000000 in
set_option maxRecDepth 100000 in
theorem c_X10_clog (l : Launch) (dC : Nat → ClassId) (dI : Nat → Nat → Nat) (cc : Nat → ClassId) (q0 q1 q2 q3 q4 q5 q6 q7 q8 q9 q10 q11 q12 q13 q14 q15 q16 q17 : Nat) (feetMany : Int32) (log_ : Int32) (block : Int32) (stocking : Int32) (acts : Int32) (keeps : Int32) (hears : Int32) (texted : Int32) (at_ : Int32) (readFeetMany : Int32) (readLog : Int32) (readBlock : Int32) (readStocking : Int32) (lefts_ : Int32) (rights_ : Int32) (st : (Nat → Int32)) (now_ : (Nat → Int32)) (x1 : Int32) (x2 : Int32) (sz : Nat) (ret : Int32) (o_now_ : (Nat → Int32)) (hu : f_X10_clog x1 x2 st now_ = some (ret, o_now_)) : Met l yX10_clog (mw yX10_clog cX10_clog 3 (some .int)) ({ frames := 2, cells := 0, slots := 0, locals := 45 } : Room) (va_Pc [.ref q0, .int x1, .int x2] (mP (dC, dI) (ts cc) sz [(q0, .inr (10, [.int feetMany, .ref q1, .int log_, .int block, .ref q2, .int stocking, .ref q3, .int acts, .ref q4, .int keeps, .ref q5, .int hears, .ref q6, .ref q7, .int texted, .int at_, .ref q8, .ref q9, .int readFeetMany, .ref q10, .int readLog, .int readBlock, .ref q11, .int readStocking, .ref q12, .int lefts_, .int rights_, .ref q13, .ref q14, .ref q15, .ref q16, .ref q17])), (q3, .inl (cc 0, 52, .inl st)), (q12, .inl (cc 0, 52, .inl now_))])) ((fun A => va_Qi (fun (r : Int32) (w : (Nat → Int32)) => r = ret ∧ w = o_now_) (fun (w : (Nat → Int32)) t => va_P (dC, dI) classes [(q0, .inr (10, [.int feetMany, .ref q1, .int log_, .int block, .ref q2, .int stocking, .ref q3, .int acts, .ref q4, .int keeps, .ref q5, .int hears, .ref q6, .ref q7, .int texted, .int at_, .ref q8, .ref q9, .int readFeetMany, .ref q10, .int readLog, .int readBlock, .ref q11, .int readStocking, .ref q12, .int lefts_, .int rights_, .ref q13, .ref q14, .ref q15, .ref q16, .ref q17])), (q3, .inl (cc 0, 52, .inl st)), (q12, .inl (cc 0, 52, .inl w))] t.heap) A) (va_A [(q0, .inr (10, [.int feetMany, .ref q1, .int log_, .int block, .ref q2, .int stocking, .ref q3, .int acts, .ref q4, .int keeps, .ref q5, .int hears, .ref q6, .ref q7, .int texted, .int at_, .ref q8, .ref q9, .int readFeetMany, .ref q10, .int readLog, .int readBlock, .ref q11, .int readStocking, .ref q12, .int lefts_, .int rights_, .ref q13, .ref q14, .ref q15, .ref q16, .ref q17])), (q3, .inl (cc 0, 52, .inl st)), (q12, .inl (cc 0, 52, .inl now_))] sz)) 0 0 (va_A [(q0, .inr (10, [.int feetMany, .ref q1, .int log_, .int block, .ref q2, .int stocking, .ref q3, .int acts, .ref q4, .int keeps, .ref q5, .int hears, .ref q6, .ref q7, .int texted, .int at_, .ref q8, .ref q9, .int readFeetMany, .ref q10, .int readLog, .int readBlock, .ref q11, .int readStocking, .ref q12, .int lefts_, .int rights_, .ref q13, .ref q14, .ref q15, .ref q16, .ref q17])), (q3, .inl (cc 0, 52, .inl st)), (q12, .inl (cc 0, 52, .inl now_))] sz) := by
  refine met_go (Qc := fun A => va_Qi (fun (r : Int32) (w : (Nat → Int32)) => r = ret ∧ w = o_now_) (fun (w : (Nat → Int32)) t => va_P (dC, dI) classes [(q0, .inr (10, [.int feetMany, .ref q1, .int log_, .int block, .ref q2, .int stocking, .ref q3, .int acts, .ref q4, .int keeps, .ref q5, .int hears, .ref q6, .ref q7, .int texted, .int at_, .ref q8, .ref q9, .int readFeetMany, .ref q10, .int readLog, .int readBlock, .ref q11, .int readStocking, .ref q12, .int lefts_, .int rights_, .ref q13, .ref q14, .ref q15, .ref q16, .ref q17])), (q3, .inl (cc 0, 52, .inl st)), (q12, .inl (cc 0, 52, .inl w))] t.heap) A) (by decide) (Nat.le_of_ble_eq_true rfl) ?_
  intro p e s m below meth c A ls H locs hC hr hlk hin hA hP hl _
  have hC : CX p m c cX10_clog 3 s ([.ref q0, .int x1, .int x2] : List Value).toArray RX10 (dC, dI) (ts cc) := hC
  have hx := hC.1.1
  have hb := hC.1.2
  have h := hu
  have hu0 := hu
  unfold f_X10_clog at h
  have hl : lv_has ls 3 [(0, .ref q0), (1, .int x1), (2, .int x2)] := hl
  refine lv_aload_n hx hb dX10_clog_0 rfl (lv_at hl 0 rfl) ?_
  refine lv_iload_n hx hb dX10_clog_1 rfl (lv_at hl 1 rfl) ?_
  obtain ⟨r1, hu, h⟩ := bnd_h h
  refine kc_z (kV hC (c_X10_isClog l dC dI cc q0 q1 q2 q3 q4 q5 q6 q7 q8 q9 q10 q11 q12 q13 q14 q15 q16 q17 feetMany log_ block stocking acts keeps hears texted at_ readFeetMany readLog readBlock readStocking lefts_ rights_ st x1 H.size r1 hu) cv_X10_188 kw975 rfl rfl ⟨(Nat.le_of_ble_eq_true rfl), (Nat.le_of_ble_eq_true rfl)⟩ hP [0, 1] rfl rfl rfl (q0 := 0) rfl (As := [.int x1]) (rest := []) rfl rfl hl.1 (Nat.le_of_ble_eq_true rfl) dX10_clog_2 ⟨Nat.zero_le _, Nat.zero_le _⟩) hP hA [0, 1] rfl rfl (fun hz_r1 H locs hP => ?_)
  have hP : PD (dC, dI) A s.heap [(q0, .inr (10, [.int feetMany, .ref q1, .int log_, .int block, .ref q2, .int stocking, .ref q3, .int acts, .ref q4, .int keeps, .ref q5, .int hears, .ref q6, .ref q7, .int texted, .int at_, .ref q8, .ref q9, .int readFeetMany, .ref q10, .int readLog, .int readBlock, .ref q11, .int readStocking, .ref q12, .int lefts_, .int rights_, .ref q13, .ref q14, .ref q15, .ref q16, .ref q17])), (q3, .inl (cc 0, 52, .inl st)), (q12, .inl (cc 0, 52, .inl now_))] H locs := hP
  refine lv_if_ne (tgt := 10) hx hb dX10_clog_5 (by decide) (fun c2 => ?_) (fun c2 => ?_)
  · have h := if_f c2 h
    refine lv_aload_n hx hb dX10_clog_10 rfl (lv_at hl 0 rfl) ?_
    obtain ⟨w3, hu, h⟩ := bnd_h h
    refine kc_v (kV hC (c_X10_asItIs l dC dI cc q0 q1 q2 q3 q4 q5 q6 q7 q8 q9 q10 q11 q12 q13 q14 q15 q16 q17 feetMany log_ block stocking acts keeps hears texted at_ readFeetMany readLog readBlock readStocking lefts_ rights_ st now_ H.size w3 hu) cv_X10_191 kw979 rfl rfl ⟨(Nat.le_of_ble_eq_true rfl), (Nat.le_of_ble_eq_true rfl)⟩ hP [0, 1, 2] rfl rfl rfl (q0 := 0) rfl (As := []) (rest := []) rfl rfl hl.1 (Nat.le_of_ble_eq_true rfl) dX10_clog_11 ⟨Nat.zero_le _, Nat.zero_le _⟩) hP hA [0, 1, 2] rfl rfl (fun H locs hP => ?_)
    have hP : PD (dC, dI) A s.heap [(q0, .inr (10, [.int feetMany, .ref q1, .int log_, .int block, .ref q2, .int stocking, .ref q3, .int acts, .ref q4, .int keeps, .ref q5, .int hears, .ref q6, .ref q7, .int texted, .int at_, .ref q8, .ref q9, .int readFeetMany, .ref q10, .int readLog, .int readBlock, .ref q11, .int readStocking, .ref q12, .int lefts_, .int rights_, .ref q13, .ref q14, .ref q15, .ref q16, .ref q17])), (q3, .inl (cc 0, 52, .inl st)), (q12, .inl (cc 0, 52, .inl w3))] H locs := hP
    refine lv_iload_n hx hb dX10_clog_14 rfl (lv_at hl 2 rfl) ?_
    by_cases c4 : x2 = 0
    · have h := if_t c4 h
      refine lv_tableIn (tgt := 48) hx hb dX10_clog_15 (by rw [c4]; decide) (by rw [c4]; decide) (by first | (rw [c4]; done) | (rw [c4]; rfl)) (by decide) ?_
      refine lv_aload_n hx hb dX10_clog_48 rfl (lv_at hl 0 rfl) ?_
      refine lv_iload_n hx hb dX10_clog_49 rfl (lv_at hl 1 rfl) ?_
      obtain ⟨r5, hu, h⟩ := bnd_h h
      refine kc_i (kV hC (c_X10_kindOf l dC dI cc q0 q1 q2 q3 q4 q5 q6 q7 q8 q9 q10 q11 q12 q13 q14 q15 q16 q17 feetMany log_ block stocking acts keeps hears texted at_ readFeetMany readLog readBlock readStocking lefts_ rights_ w3 x1 H.size r5 hu) cv_X10_169 kw983 rfl rfl ⟨(Nat.le_of_ble_eq_true rfl), (Nat.le_of_ble_eq_true rfl)⟩ hP [0, 2] rfl rfl rfl (q0 := 0) rfl (As := [.int x1]) (rest := []) rfl rfl hl.1 (Nat.le_of_ble_eq_true rfl) dX10_clog_50 ⟨Nat.zero_le _, Nat.zero_le _⟩) hP hA [0, 2] rfl rfl (fun H locs hP => ?_)
      have hP : PD (dC, dI) A s.heap [(q0, .inr (10, [.int feetMany, .ref q1, .int log_, .int block, .ref q2, .int stocking, .ref q3, .int acts, .ref q4, .int keeps, .ref q5, .int hears, .ref q6, .ref q7, .int texted, .int at_, .ref q8, .ref q9, .int readFeetMany, .ref q10, .int readLog, .int readBlock, .ref q11, .int readStocking, .ref q12, .int lefts_, .int rights_, .ref q13, .ref q14, .ref q15, .ref q16, .ref q17])), (q3, .inl (cc 0, 52, .inl st)), (q12, .inl (cc 0, 52, .inl w3))] H locs := hP
      exact ret_i hC hr hlk hP dX10_clog_53 w3 (Prod.mk.inj (Option.some.inj h)) rfl
    · have h := if_f c4 h
      by_cases c6 : x2 = 1
      · have h := if_t c6 h
        refine lv_tableIn (tgt := 54) hx hb dX10_clog_15 (by rw [c6]; decide) (by rw [c6]; decide) (by first | (rw [c6]; done) | (rw [c6]; rfl)) (by decide) ?_
        refine lv_aload_n hx hb dX10_clog_54 rfl (lv_at hl 0 rfl) ?_
        refine lv_iload_n hx hb dX10_clog_55 rfl (lv_at hl 1 rfl) ?_
        obtain ⟨r7, hu, h⟩ := bnd_h h
        refine kc_i (kV hC (c_X10_sideOf l dC dI cc q0 q1 q2 q3 q4 q5 q6 q7 q8 q9 q10 q11 q12 q13 q14 q15 q16 q17 feetMany log_ block stocking acts keeps hears texted at_ readFeetMany readLog readBlock readStocking lefts_ rights_ w3 x1 H.size r7 hu) cv_X10_175 kw987 rfl rfl ⟨(Nat.le_of_ble_eq_true rfl), (Nat.le_of_ble_eq_true rfl)⟩ hP [0, 2] rfl rfl rfl (q0 := 0) rfl (As := [.int x1]) (rest := []) rfl rfl hl.1 (Nat.le_of_ble_eq_true rfl) dX10_clog_56 ⟨Nat.zero_le _, Nat.zero_le _⟩) hP hA [0, 2] rfl rfl (fun H locs hP => ?_)
        have hP : PD (dC, dI) A s.heap [(q0, .inr (10, [.int feetMany, .ref q1, .int log_, .int block, .ref q2, .int stocking, .ref q3, .int acts, .ref q4, .int keeps, .ref q5, .int hears, .ref q6, .ref q7, .int texted, .int at_, .ref q8, .ref q9, .int readFeetMany, .ref q10, .int readLog, .int readBlock, .ref q11, .int readStocking, .ref q12, .int lefts_, .int rights_, .ref q13, .ref q14, .ref q15, .ref q16, .ref q17])), (q3, .inl (cc 0, 52, .inl st)), (q12, .inl (cc 0, 52, .inl w3))] H locs := hP
        exact ret_i hC hr hlk hP dX10_clog_59 w3 (Prod.mk.inj (Option.some.inj h)) rfl
      · have h := if_f c6 h
        by_cases c8 : x2 = 2
        · have h := if_t c8 h
          refine lv_tableIn (tgt := 60) hx hb dX10_clog_15 (by rw [c8]; decide) (by rw [c8]; decide) (by first | (rw [c8]; done) | (rw [c8]; rfl)) (by decide) ?_
          refine lv_aload_n hx hb dX10_clog_60 rfl (lv_at hl 0 rfl) ?_
          refine lv_iload_n hx hb dX10_clog_61 rfl (lv_at hl 1 rfl) ?_
          obtain ⟨r9, hu, h⟩ := bnd_h h
          refine kc_i (kV hC (c_X10_sizeOf l dC dI cc q0 q1 q2 q3 q4 q5 q6 q7 q8 q9 q10 q11 q12 q13 q14 q15 q16 q17 feetMany log_ block stocking acts keeps hears texted at_ readFeetMany readLog readBlock readStocking lefts_ rights_ w3 x1 H.size r9 hu) cv_X10_178 kw991 rfl rfl ⟨(Nat.le_of_ble_eq_true rfl), (Nat.le_of_ble_eq_true rfl)⟩ hP [0, 2] rfl rfl rfl (q0 := 0) rfl (As := [.int x1]) (rest := []) rfl rfl hl.1 (Nat.le_of_ble_eq_true rfl) dX10_clog_62 ⟨Nat.zero_le _, Nat.zero_le _⟩) hP hA [0, 2] rfl rfl (fun H locs hP => ?_)
          have hP : PD (dC, dI) A s.heap [(q0, .inr (10, [.int feetMany, .ref q1, .int log_, .int block, .ref q2, .int stocking, .ref q3, .int acts, .ref q4, .int keeps, .ref q5, .int hears, .ref q6, .ref q7, .int texted, .int at_, .ref q8, .ref q9, .int readFeetMany, .ref q10, .int readLog, .int readBlock, .ref q11, .int readStocking, .ref q12, .int lefts_, .int rights_, .ref q13, .ref q14, .ref q15, .ref q16, .ref q17])), (q3, .inl (cc 0, 52, .inl st)), (q12, .inl (cc 0, 52, .inl w3))] H locs := hP
          exact ret_i hC hr hlk hP dX10_clog_65 w3 (Prod.mk.inj (Option.some.inj h)) rfl
        · have h := if_f c8 h
          by_cases c10 : x2 = 3
          · have h := if_t c10 h
            refine lv_tableIn (tgt := 66) hx hb dX10_clog_15 (by rw [c10]; decide) (by rw [c10]; decide) (by first | (rw [c10]; done) | (rw [c10]; rfl)) (by decide) ?_
            refine lv_aload_n hx hb dX10_clog_66 rfl (lv_at hl 0 rfl) ?_
            refine lv_iload_n hx hb dX10_clog_67 rfl (lv_at hl 1 rfl) ?_
            obtain ⟨r11, hu, h⟩ := bnd_h h
            refine kc_i (kV hC (c_X10_weightOf l dC dI cc q0 q1 q2 q3 q4 q5 q6 q7 q8 q9 q10 q11 q12 q13 q14 q15 q16 q17 feetMany log_ block stocking acts keeps hears texted at_ readFeetMany readLog readBlock readStocking lefts_ rights_ w3 x1 H.size r11 hu) cv_X10_185 kw999 rfl rfl ⟨(Nat.le_of_ble_eq_true rfl), (Nat.le_of_ble_eq_true rfl)⟩ hP [0, 2] rfl rfl rfl (q0 := 0) rfl (As := [.int x1]) (rest := []) rfl rfl hl.1 (Nat.le_of_ble_eq_true rfl) dX10_clog_68 ⟨Nat.zero_le _, Nat.zero_le _⟩) hP hA [0, 2] rfl rfl (fun H locs hP => ?_)
            have hP : PD (dC, dI) A s.heap [(q0, .inr (10, [.int feetMany, .ref q1, .int log_, .int block, .ref q2, .int stocking, .ref q3, .int acts, .ref q4, .int keeps, .ref q5, .int hears, .ref q6, .ref q7, .int texted, .int at_, .ref q8, .ref q9, .int readFeetMany, .ref q10, .int readLog, .int readBlock, .ref q11, .int readStocking, .ref q12, .int lefts_, .int rights_, .ref q13, .ref q14, .ref q15, .ref q16, .ref q17])), (q3, .inl (cc 0, 52, .inl st)), (q12, .inl (cc 0, 52, .inl w3))] H locs := hP
            exact ret_i hC hr hlk hP dX10_clog_71 w3 (Prod.mk.inj (Option.some.inj h)) rfl
          · have h := if_f c10 h
            by_cases c12 : x2 = 4
            · have h := if_t c12 h
              refine lv_tableIn (tgt := 72) hx hb dX10_clog_15 (by rw [c12]; decide) (by rw [c12]; decide) (by first | (rw [c12]; done) | (rw [c12]; rfl)) (by decide) ?_
              refine lv_aload_n hx hb dX10_clog_72 rfl (lv_at hl 0 rfl) ?_
              refine g_get hC hP fg_X10_17 0 rfl rfl dX10_clog_73 ?_
              refine lv_iconst (v := 2) hx hb dX10_clog_76 (by decide) ?_
              refine lv_iconst (v := 5) hx hb dX10_clog_77 (by decide) ?_
              refine lv_iload_n hx hb dX10_clog_78 rfl (lv_at hl 1 rfl) ?_
              refine lv_imul hx hb dX10_clog_79 ?_
              refine lv_iadd hx hb dX10_clog_80 ?_
              refine lv_iconst (v := 4) hx hb dX10_clog_81 (by decide) ?_
              refine lv_iadd hx hb dX10_clog_82 ?_
              obtain ⟨hin, h⟩ := rd_h h
              refine g_iald hC hP 1 0 rfl rfl hin dX10_clog_83 (fun v13 ev => ?_)
              have h := h v13 ev
              exact ret_i hC hr hlk hP dX10_clog_84 w3 (Prod.mk.inj (Option.some.inj h)) rfl
            · have h := if_f c12 h
              refine lv_tableOut (tgt := 85) hx hb dX10_clog_15 (sw_out_X10_clog_15 c4 c6 c8 c10 c12) (by decide) ?_
              refine lv_iconst (v := -1) hx hb dX10_clog_85 (by decide) ?_
              exact ret_i hC hr hlk hP dX10_clog_86 w3 (Prod.mk.inj (Option.some.inj h)) rfl
  · have h := if_t c2 h
    refine lv_iconst (v := -1) hx hb dX10_clog_8 (by decide) ?_
    exact ret_i hC hr hlk hP dX10_clog_9 now_ (Prod.mk.inj (Option.some.inj h)) rfl
set_option maxHeartbeats 8000000 in
set_option maxRecDepth 100000 in
theorem c_X10_feet (l : Launch) (dC : Nat → ClassId) (dI : Nat → Nat → Nat) (cc : Nat → ClassId) (q0 q1 q2 q3 q4 q5 q6 q7 q8 q9 q10 q11 q12 q13 q14 q15 q16 q17 : Nat) (feetMany : Int32) (log_ : Int32) (block : Int32) (stocking : Int32) (acts : Int32) (keeps : Int32) (hears : Int32) (texted : Int32) (at_ : Int32) (readFeetMany : Int32) (readLog : Int32) (readBlock : Int32) (readStocking : Int32) (lefts_ : Int32) (rights_ : Int32) (feet : (Nat → Int32)) (x1 : Int32) (x2 : Int32) (sz : Nat) (ret : Int32) (hu : f_X10_feet x1 x2 feetMany feet = some ret) : Met l yX10_feet (mw yX10_feet cX10_feet 3 (some .int)) ({ frames := 1, cells := 0, slots := 0, locals := 22 } : Room) (va_Pc [.ref q0, .int x1, .int x2] (mP (dC, dI) (ts cc) sz [(q0, .inr (10, [.int feetMany, .ref q1, .int log_, .int block, .ref q2, .int stocking, .ref q3, .int acts, .ref q4, .int keeps, .ref q5, .int hears, .ref q6, .ref q7, .int texted, .int at_, .ref q8, .ref q9, .int readFeetMany, .ref q10, .int readLog, .int readBlock, .ref q11, .int readStocking, .ref q12, .int lefts_, .int rights_, .ref q13, .ref q14, .ref q15, .ref q16, .ref q17])), (q1, .inl (cc 0, 10, .inl feet))])) ((fun A => va_Qi (fun (r : Int32) (w : Unit) => r = ret ∧ w = ()) (fun (w : Unit) t => va_P (dC, dI) classes [(q0, .inr (10, [.int feetMany, .ref q1, .int log_, .int block, .ref q2, .int stocking, .ref q3, .int acts, .ref q4, .int keeps, .ref q5, .int hears, .ref q6, .ref q7, .int texted, .int at_, .ref q8, .ref q9, .int readFeetMany, .ref q10, .int readLog, .int readBlock, .ref q11, .int readStocking, .ref q12, .int lefts_, .int rights_, .ref q13, .ref q14, .ref q15, .ref q16, .ref q17])), (q1, .inl (cc 0, 10, .inl feet))] t.heap) A) (va_A [(q0, .inr (10, [.int feetMany, .ref q1, .int log_, .int block, .ref q2, .int stocking, .ref q3, .int acts, .ref q4, .int keeps, .ref q5, .int hears, .ref q6, .ref q7, .int texted, .int at_, .ref q8, .ref q9, .int readFeetMany, .ref q10, .int readLog, .int readBlock, .ref q11, .int readStocking, .ref q12, .int lefts_, .int rights_, .ref q13, .ref q14, .ref q15, .ref q16, .ref q17])), (q1, .inl (cc 0, 10, .inl feet))] sz)) 0 0 (va_A [(q0, .inr (10, [.int feetMany, .ref q1, .int log_, .int block, .ref q2, .int stocking, .ref q3, .int acts, .ref q4, .int keeps, .ref q5, .int hears, .ref q6, .ref q7, .int texted, .int at_, .ref q8, .ref q9, .int readFeetMany, .ref q10, .int readLog, .int readBlock, .ref q11, .int readStocking, .ref q12, .int lefts_, .int rights_, .ref q13, .ref q14, .ref q15, .ref q16, .ref q17])), (q1, .inl (cc 0, 10, .inl feet))] sz) := by
  refine met_go (Qc := fun A => va_Qi (fun (r : Int32) (w : Unit) => r = ret ∧ w = ()) (fun (w : Unit) t => va_P (dC, dI) classes [(q0, .inr (10, [.int feetMany, .ref q1, .int log_, .int block, .ref q2, .int stocking, .ref q3, .int acts, .ref q4, .int keeps, .ref q5, .int hears, .ref q6, .ref q7, .int texted, .int at_, .ref q8, .ref q9, .int readFeetMany, .ref q10, .int readLog, .int readBlock, .ref q11, .int readStocking, .ref q12, .int lefts_, .int rights_, .ref q13, .ref q14, .ref q15, .ref q16, .ref q17])), (q1, .inl (cc 0, 10, .inl feet))] t.heap) A) (by decide) (Nat.le_of_ble_eq_true rfl) ?_
  intro p e s m below meth c A ls H locs hC hr hlk hin hA hP hl _
  have hC : CX p m c cX10_feet 3 s ([.ref q0, .int x1, .int x2] : List Value).toArray RX10 (dC, dI) (ts cc) := hC
  have hx := hC.1.1
  have hb := hC.1.2
  have h := hu
  have hu0 := hu
  unfold f_X10_feet at h
  have hl : lv_has ls 3 [(0, .ref q0), (1, .int x1), (2, .int x2)] := hl
  refine lv_iload_n hx hb dX10_feet_0 rfl (lv_at hl 1 rfl) ?_
  refine lv_iconst (v := 0) hx hb dX10_feet_1 (by decide) ?_
  refine lv_aload_n hx hb dX10_feet_2 rfl (lv_at hl 0 rfl) ?_
  refine g_get hC hP fg_X10_148 0 rfl rfl dX10_feet_3 ?_
  refine lv_iconst (v := 1) hx hb dX10_feet_6 (by decide) ?_
  refine lv_isub hx hb dX10_feet_7 ?_
  obtain ⟨r1, hu, h⟩ := bnd_h h
  refine kc_z (kS hC (c_X10_in l dC dI cc x1 0 (feetMany - 1) H.size r1 hu) cs_X10_90 kw912 rfl rfl ⟨(Nat.le_of_ble_eq_true rfl), (Nat.le_of_ble_eq_true rfl)⟩ hP [] rfl rfl (As := [.int x1, .int 0, .int (feetMany - 1)]) (rest := []) rfl rfl hl.1 (Nat.le_of_ble_eq_true rfl) dX10_feet_8 ⟨Nat.zero_le _, Nat.zero_le _⟩) hP hA [] rfl rfl (fun hz_r1 H locs hP => ?_)
  have hP : PD (dC, dI) A s.heap [(q0, .inr (10, [.int feetMany, .ref q1, .int log_, .int block, .ref q2, .int stocking, .ref q3, .int acts, .ref q4, .int keeps, .ref q5, .int hears, .ref q6, .ref q7, .int texted, .int at_, .ref q8, .ref q9, .int readFeetMany, .ref q10, .int readLog, .int readBlock, .ref q11, .int readStocking, .ref q12, .int lefts_, .int rights_, .ref q13, .ref q14, .ref q15, .ref q16, .ref q17])), (q1, .inl (cc 0, 10, .inl feet))] H locs := hP
  refine lv_if_eq (tgt := 36) hx hb dX10_feet_11 (by decide) (fun c2 => ?_) (fun c2 => ?_)
  · have h := if_t c2 h
    refine lv_iconst (v := -1) hx hb dX10_feet_36 (by decide) ?_
    exact ret_i hC hr hlk hP dX10_feet_37 () (⟨Option.some.inj h, rfl⟩) rfl
  · have h := if_f c2 h
    refine lv_iload_n hx hb dX10_feet_14 rfl (lv_at hl 2 rfl) ?_
    refine lv_iconst (v := 0) hx hb dX10_feet_15 (by decide) ?_
    refine lv_iconst (v := 1) hx hb dX10_feet_16 (by decide) ?_
    obtain ⟨r3, hu, h⟩ := bnd_h h
    refine kc_z (kS hC (c_X10_in l dC dI cc x2 0 1 H.size r3 hu) cs_X10_90 kw912 rfl rfl ⟨(Nat.le_of_ble_eq_true rfl), (Nat.le_of_ble_eq_true rfl)⟩ hP [] rfl rfl (As := [.int x2, .int 0, .int 1]) (rest := []) rfl rfl hl.1 (Nat.le_of_ble_eq_true rfl) dX10_feet_17 ⟨Nat.zero_le _, Nat.zero_le _⟩) hP hA [] rfl rfl (fun hz_r3 H locs hP => ?_)
    have hP : PD (dC, dI) A s.heap [(q0, .inr (10, [.int feetMany, .ref q1, .int log_, .int block, .ref q2, .int stocking, .ref q3, .int acts, .ref q4, .int keeps, .ref q5, .int hears, .ref q6, .ref q7, .int texted, .int at_, .ref q8, .ref q9, .int readFeetMany, .ref q10, .int readLog, .int readBlock, .ref q11, .int readStocking, .ref q12, .int lefts_, .int rights_, .ref q13, .ref q14, .ref q15, .ref q16, .ref q17])), (q1, .inl (cc 0, 10, .inl feet))] H locs := hP
    refine lv_if_eq (tgt := 36) hx hb dX10_feet_20 (by decide) (fun c4 => ?_) (fun c4 => ?_)
    · have h := if_t c4 h
      refine lv_iconst (v := -1) hx hb dX10_feet_36 (by decide) ?_
      exact ret_i hC hr hlk hP dX10_feet_37 () (⟨Option.some.inj h, rfl⟩) rfl
    · have h := if_f c4 h
      refine lv_aload_n hx hb dX10_feet_23 rfl (lv_at hl 0 rfl) ?_
      refine g_get hC hP fg_X10_7 0 rfl rfl dX10_feet_24 ?_
      refine lv_iconst (v := 2) hx hb dX10_feet_27 (by decide) ?_
      refine lv_iload_n hx hb dX10_feet_28 rfl (lv_at hl 1 rfl) ?_
      refine lv_imul hx hb dX10_feet_29 ?_
      refine lv_iload_n hx hb dX10_feet_30 rfl (lv_at hl 2 rfl) ?_
      refine lv_iadd hx hb dX10_feet_31 ?_
      obtain ⟨hin, h⟩ := rd_h h
      refine g_iald hC hP 1 0 rfl rfl hin dX10_feet_32 (fun v5 ev => ?_)
      have h := h v5 ev
      refine lv_goto (tgt := 37) hx hb dX10_feet_33 (by decide) ?_
      exact ret_i hC hr hlk hP dX10_feet_37 () (⟨Option.some.inj h, rfl⟩) rfl
set_option maxHeartbeats 8000000 in
set_option maxRecDepth 100000 in
theorem c_X10_remembers (l : Launch) (dC : Nat → ClassId) (dI : Nat → Nat → Nat) (cc : Nat → ClassId) (q0 q1 q2 q3 q4 q5 q6 q7 q8 q9 q10 q11 q12 q13 q14 q15 q16 q17 : Nat) (feetMany : Int32) (log_ : Int32) (block : Int32) (stocking : Int32) (acts : Int32) (keeps : Int32) (hears : Int32) (texted : Int32) (at_ : Int32) (readFeetMany : Int32) (readLog : Int32) (readBlock : Int32) (readStocking : Int32) (lefts_ : Int32) (rights_ : Int32) (st : (Nat → Int32)) (was : (Nat → Int32)) (sz : Nat) (o_acts : Int32) (o_was : (Nat → Int32)) (hu : f_X10_remembers acts st was = some (o_acts, o_was)) : Met l yX10_remembers (mw yX10_remembers cX10_remembers 2 none) ({ frames := 1, cells := 0, slots := 0, locals := 25 } : Room) (va_Pc [.ref q0] (mP (dC, dI) (ts cc) sz [(q0, .inr (10, [.int feetMany, .ref q1, .int log_, .int block, .ref q2, .int stocking, .ref q3, .int acts, .ref q4, .int keeps, .ref q5, .int hears, .ref q6, .ref q7, .int texted, .int at_, .ref q8, .ref q9, .int readFeetMany, .ref q10, .int readLog, .int readBlock, .ref q11, .int readStocking, .ref q12, .int lefts_, .int rights_, .ref q13, .ref q14, .ref q15, .ref q16, .ref q17])), (q3, .inl (cc 0, 52, .inl st)), (q4, .inl (cc 0, 416, .inl was))])) ((fun A => va_Qv (fun (w : Int32 × (Nat → Int32)) => w = (o_acts, o_was)) (fun (w : Int32 × (Nat → Int32)) t => va_P (dC, dI) classes [(q0, .inr (10, [.int feetMany, .ref q1, .int log_, .int block, .ref q2, .int stocking, .ref q3, .int w.1, .ref q4, .int keeps, .ref q5, .int hears, .ref q6, .ref q7, .int texted, .int at_, .ref q8, .ref q9, .int readFeetMany, .ref q10, .int readLog, .int readBlock, .ref q11, .int readStocking, .ref q12, .int lefts_, .int rights_, .ref q13, .ref q14, .ref q15, .ref q16, .ref q17])), (q3, .inl (cc 0, 52, .inl st)), (q4, .inl (cc 0, 416, .inl w.2))] t.heap) A) (va_A [(q0, .inr (10, [.int feetMany, .ref q1, .int log_, .int block, .ref q2, .int stocking, .ref q3, .int acts, .ref q4, .int keeps, .ref q5, .int hears, .ref q6, .ref q7, .int texted, .int at_, .ref q8, .ref q9, .int readFeetMany, .ref q10, .int readLog, .int readBlock, .ref q11, .int readStocking, .ref q12, .int lefts_, .int rights_, .ref q13, .ref q14, .ref q15, .ref q16, .ref q17])), (q3, .inl (cc 0, 52, .inl st)), (q4, .inl (cc 0, 416, .inl was))] sz)) 0 0 (va_A [(q0, .inr (10, [.int feetMany, .ref q1, .int log_, .int block, .ref q2, .int stocking, .ref q3, .int acts, .ref q4, .int keeps, .ref q5, .int hears, .ref q6, .ref q7, .int texted, .int at_, .ref q8, .ref q9, .int readFeetMany, .ref q10, .int readLog, .int readBlock, .ref q11, .int readStocking, .ref q12, .int lefts_, .int rights_, .ref q13, .ref q14, .ref q15, .ref q16, .ref q17])), (q3, .inl (cc 0, 52, .inl st)), (q4, .inl (cc 0, 416, .inl was))] sz) := by
  refine met_go (Qc := fun A => va_Qv (fun (w : Int32 × (Nat → Int32)) => w = (o_acts, o_was)) (fun (w : Int32 × (Nat → Int32)) t => va_P (dC, dI) classes [(q0, .inr (10, [.int feetMany, .ref q1, .int log_, .int block, .ref q2, .int stocking, .ref q3, .int w.1, .ref q4, .int keeps, .ref q5, .int hears, .ref q6, .ref q7, .int texted, .int at_, .ref q8, .ref q9, .int readFeetMany, .ref q10, .int readLog, .int readBlock, .ref q11, .int readStocking, .ref q12, .int lefts_, .int rights_, .ref q13, .ref q14, .ref q15, .ref q16, .ref q17])), (q3, .inl (cc 0, 52, .inl st)), (q4, .inl (cc 0, 416, .inl w.2))] t.heap) A) (by decide) (Nat.le_of_ble_eq_true rfl) ?_
  intro p e s m below meth c A ls H locs hC hr hlk hin hA hP hl _
  have hC : CX p m c cX10_remembers 2 s ([.ref q0] : List Value).toArray RX10 (dC, dI) (ts cc) := hC
  have hx := hC.1.1
  have hb := hC.1.2
  have h := hu
  have hu0 := hu
  unfold f_X10_remembers at h
  have hl : lv_has ls 2 [(0, .ref q0)] := hl
  refine W_abs (fun Z eZ => ?_)
  refine lv_aload_n hx hb dX10_remembers_0 rfl (lv_at hl 0 rfl) ?_
  refine g_get hC hP fg_X10_160 0 rfl rfl dX10_remembers_1 ?_
  refine lv_bipush (v := 8) hx hb dX10_remembers_4 (by decide) ?_
  refine lv_icmp_ne (tgt := 49) hx hb dX10_remembers_6 (by decide) (fun c1 => ?_) (fun c1 => ?_)
  · have h := if_f c1 h
    refine lv_aload_n hx hb dX10_remembers_49 rfl (lv_at hl 0 rfl) ?_
    refine g_get hC hP fg_X10_20 0 rfl rfl dX10_remembers_50 ?_
    refine lv_bipush (v := 52) hx hb dX10_remembers_53 (by decide) ?_
    refine lv_aload_n hx hb dX10_remembers_55 rfl (lv_at hl 0 rfl) ?_
    refine g_get hC hP fg_X10_160 0 rfl rfl dX10_remembers_56 ?_
    refine lv_imul hx hb dX10_remembers_59 ?_
    refine lv_aload_n hx hb dX10_remembers_60 rfl (lv_at hl 0 rfl) ?_
    refine g_get hC hP fg_X10_17 0 rfl rfl dX10_remembers_61 ?_
    refine lv_iconst (v := 0) hx hb dX10_remembers_64 (by decide) ?_
    refine lv_bipush (v := 52) hx hb dX10_remembers_65 (by decide) ?_
    obtain ⟨w2, hu, h⟩ := bnd_h h
    refine kc_v (kS hC (c_X10_copies l dC dI cc q4 q3 416 52 was st (52 * acts) 0 52 H.size w2 hu) cs_X10_144 kw807 rfl rfl ⟨(Nat.le_of_ble_eq_true rfl), (Nat.le_of_ble_eq_true rfl)⟩ hP [2, 1] rfl rfl (As := [.ref q4, .int (52 * acts), .ref q3, .int 0, .int 52]) (rest := []) rfl rfl hl.1 (Nat.le_of_ble_eq_true rfl) dX10_remembers_67 ⟨Nat.zero_le _, Nat.zero_le _⟩) hP hA [2, 1] rfl rfl (fun H locs hP => ?_)
    have hP : PD (dC, dI) A s.heap [(q0, .inr (10, [.int feetMany, .ref q1, .int log_, .int block, .ref q2, .int stocking, .ref q3, .int acts, .ref q4, .int keeps, .ref q5, .int hears, .ref q6, .ref q7, .int texted, .int at_, .ref q8, .ref q9, .int readFeetMany, .ref q10, .int readLog, .int readBlock, .ref q11, .int readStocking, .ref q12, .int lefts_, .int rights_, .ref q13, .ref q14, .ref q15, .ref q16, .ref q17])), (q3, .inl (cc 0, 52, .inl st)), (q4, .inl (cc 0, 416, .inl w2))] H locs := hP
    refine lv_aload_n hx hb dX10_remembers_70 rfl (lv_at hl 0 rfl) ?_
    refine lv_dup hx hb dX10_remembers_71 rfl ?_
    refine g_get hC hP fg_X10_160 0 rfl rfl dX10_remembers_72 ?_
    refine lv_iconst (v := 1) hx hb dX10_remembers_75 (by decide) ?_
    refine lv_iadd hx hb dX10_remembers_76 ?_
    refine g_put hC hP fg_X10_160 0 rfl rfl rfl (Nat.le_of_ble_eq_true rfl) dX10_remembers_77 (fun H locs hP => ?_)
    have hP : PD (dC, dI) A s.heap [(q0, .inr (10, [.int feetMany, .ref q1, .int log_, .int block, .ref q2, .int stocking, .ref q3, .int (acts + 1), .ref q4, .int keeps, .ref q5, .int hears, .ref q6, .ref q7, .int texted, .int at_, .ref q8, .ref q9, .int readFeetMany, .ref q10, .int readLog, .int readBlock, .ref q11, .int readStocking, .ref q12, .int lefts_, .int rights_, .ref q13, .ref q14, .ref q15, .ref q16, .ref q17])), (q3, .inl (cc 0, 52, .inl st)), (q4, .inl (cc 0, 416, .inl w2))] H locs := hP
    rw [eZ]
    exact ret_v hC hr hlk hP dX10_remembers_80 ((acts + 1), w2) (Option.some.inj h) rfl
  · have h := if_t c1 h
    refine lv_iconst (v := 0) hx hb dX10_remembers_9 (by decide) ?_
    refine lv_istore_n (lv' := [(1, .int 0), (0, .ref q0)]) hx hb dX10_remembers_10 rfl hl (by decide) rfl (fun ls hl => ?_)
    obtain ⟨⟨j3x, w4x⟩, hlp, h⟩ := bnd_h h
    have L1 : ∀ (n : Nat) (j3 : Int32) (w4 : (Nat → Int32)) (j3x : Int32) (w4x : (Nat → Int32)), lp (u2 b_X10_remembers_1) n (j3, w4) = some (j3x, w4x) → ∀ (H : Heap) (locs : List Loc) (ls : Array Slot), PD (dC, dI) A s.heap [(q0, .inr (10, [.int feetMany, .ref q1, .int log_, .int block, .ref q2, .int stocking, .ref q3, .int acts, .ref q4, .int keeps, .ref q5, .int hears, .ref q6, .ref q7, .int texted, .int at_, .ref q8, .ref q9, .int readFeetMany, .ref q10, .int readLog, .int readBlock, .ref q11, .int readStocking, .ref q12, .int lefts_, .int rights_, .ref q13, .ref q14, .ref q15, .ref q16, .ref q17])), (q3, .inl (cc 0, 52, .inl st)), (q4, .inl (cc 0, 416, .inl w4))] H locs → lv_has ls 2 [(0, .ref q0), (1, .int j3)] → (∀ (H : Heap) (locs : List Loc) (ls : Array Slot), PD (dC, dI) A s.heap [(q0, .inr (10, [.int feetMany, .ref q1, .int log_, .int block, .ref q2, .int stocking, .ref q3, .int acts, .ref q4, .int keeps, .ref q5, .int hears, .ref q6, .ref q7, .int texted, .int at_, .ref q8, .ref q9, .int readFeetMany, .ref q10, .int readLog, .int readBlock, .ref q11, .int readStocking, .ref q12, .int lefts_, .int rights_, .ref q13, .ref q14, .ref q15, .ref q16, .ref q17])), (q3, .inl (cc 0, 52, .inl st)), (q4, .inl (cc 0, 416, .inl w4x))] H locs → lv_has ls 2 [(0, .ref q0), (1, .int j3x)] → W p l e ({ frames := 1, cells := 0, slots := 0, locals := 25 } : Room) s m ([.ref q0] : List Value).toArray below meth c H locs 0 0 Z (F0 m 39 ls [])) → W p l e ({ frames := 1, cells := 0, slots := 0, locals := 25 } : Room) s m ([.ref q0] : List Value).toArray below meth c H locs 0 0 Z (F0 m 11 ls []) := by
      intro n
      induction n with
      | zero => intro j3 w4 j3x w4x h; exact (lp_0 h).elim
      | succ n ih =>
        intro j3 w4 j3x w4x h H locs ls hP hl KK
        obtain ⟨y, h, hz⟩ := lp_h h
        refine lv_iload_n hx hb dX10_remembers_11 rfl (lv_at hl 1 rfl) ?_
        refine lv_sipush (v := 364) hx hb dX10_remembers_12 (by decide) ?_
        refine lv_icmp_ge (tgt := 39) hx hb dX10_remembers_15 (by decide) (fun c5 => ?_) (fun c5 => ?_)
        · have h := if_t c5 h
          cases lp_e h hz
          exact KK H locs ls hP (lv_sub hl [0, 1] rfl)
        · have h := if_f c5 h
          refine lv_aload_n hx hb dX10_remembers_18 rfl (lv_at hl 0 rfl) ?_
          refine g_get hC hP fg_X10_20 0 rfl rfl dX10_remembers_19 ?_
          refine lv_iload_n hx hb dX10_remembers_22 rfl (lv_at hl 1 rfl) ?_
          refine lv_aload_n hx hb dX10_remembers_23 rfl (lv_at hl 0 rfl) ?_
          refine g_get hC hP fg_X10_20 0 rfl rfl dX10_remembers_24 ?_
          refine lv_iload_n hx hb dX10_remembers_27 rfl (lv_at hl 1 rfl) ?_
          refine lv_bipush (v := 52) hx hb dX10_remembers_28 (by decide) ?_
          refine lv_iadd hx hb dX10_remembers_30 ?_
          obtain ⟨hin, h⟩ := rd_h h
          refine g_iald hC hP 2 0 rfl rfl hin dX10_remembers_31 (fun v6 ev => ?_)
          have h := h v6 ev
          obtain ⟨hin, h⟩ := wr_h h
          refine g_iast hC hP 2 0 rfl rfl hin dX10_remembers_32 (fun a7 ev H locs hP => ?_)
          have hP : PD (dC, dI) A s.heap [(q0, .inr (10, [.int feetMany, .ref q1, .int log_, .int block, .ref q2, .int stocking, .ref q3, .int acts, .ref q4, .int keeps, .ref q5, .int hears, .ref q6, .ref q7, .int texted, .int at_, .ref q8, .ref q9, .int readFeetMany, .ref q10, .int readLog, .int readBlock, .ref q11, .int readStocking, .ref q12, .int lefts_, .int rights_, .ref q13, .ref q14, .ref q15, .ref q16, .ref q17])), (q3, .inl (cc 0, 52, .inl st)), (q4, .inl (cc 0, 416, .inl a7))] H locs := hP
          have h := h a7 ev
          refine lv_iinc (v := (j3 + 1)) (lv' := [(1, .int (j3 + 1)), (0, .ref q0)]) hx hb dX10_remembers_33 hl (k := 1) rfl rfl (by decide) rfl (fun ls hl => ?_)
          refine lv_goto (tgt := 11) hx hb dX10_remembers_36 (by decide) ?_
          exact ih _ _ _ _ (lp_n h hz) H locs ls hP (lv_sub hl [1, 0] rfl) KK
    refine L1 FU _ _ j3x w4x hlp H locs ls hP (lv_sub hl [1, 0] rfl) (fun H locs ls hP hl => ?_)
    refine lv_aload_n hx hb dX10_remembers_39 rfl (lv_at hl 0 rfl) ?_
    refine lv_dup hx hb dX10_remembers_40 rfl ?_
    refine g_get hC hP fg_X10_160 0 rfl rfl dX10_remembers_41 ?_
    refine lv_iconst (v := 1) hx hb dX10_remembers_44 (by decide) ?_
    refine lv_isub hx hb dX10_remembers_45 ?_
    refine g_put hC hP fg_X10_160 0 rfl rfl rfl (Nat.le_of_ble_eq_true rfl) dX10_remembers_46 (fun H locs hP => ?_)
    have hP : PD (dC, dI) A s.heap [(q0, .inr (10, [.int feetMany, .ref q1, .int log_, .int block, .ref q2, .int stocking, .ref q3, .int (acts - 1), .ref q4, .int keeps, .ref q5, .int hears, .ref q6, .ref q7, .int texted, .int at_, .ref q8, .ref q9, .int readFeetMany, .ref q10, .int readLog, .int readBlock, .ref q11, .int readStocking, .ref q12, .int lefts_, .int rights_, .ref q13, .ref q14, .ref q15, .ref q16, .ref q17])), (q3, .inl (cc 0, 52, .inl st)), (q4, .inl (cc 0, 416, .inl w4x))] H locs := hP
    refine lv_aload_n hx hb dX10_remembers_49 rfl (lv_at hl 0 rfl) ?_
    refine g_get hC hP fg_X10_20 0 rfl rfl dX10_remembers_50 ?_
    refine lv_bipush (v := 52) hx hb dX10_remembers_53 (by decide) ?_
    refine lv_aload_n hx hb dX10_remembers_55 rfl (lv_at hl 0 rfl) ?_
    refine g_get hC hP fg_X10_160 0 rfl rfl dX10_remembers_56 ?_
    refine lv_imul hx hb dX10_remembers_59 ?_
    refine lv_aload_n hx hb dX10_remembers_60 rfl (lv_at hl 0 rfl) ?_
    refine g_get hC hP fg_X10_17 0 rfl rfl dX10_remembers_61 ?_
    refine lv_iconst (v := 0) hx hb dX10_remembers_64 (by decide) ?_
    refine lv_bipush (v := 52) hx hb dX10_remembers_65 (by decide) ?_
    obtain ⟨w8, hu, h⟩ := bnd_h h
    refine kc_v (kS hC (c_X10_copies l dC dI cc q4 q3 416 52 w4x st (52 * (acts - 1)) 0 52 H.size w8 hu) cs_X10_144 kw807 rfl rfl ⟨(Nat.le_of_ble_eq_true rfl), (Nat.le_of_ble_eq_true rfl)⟩ hP [2, 1] rfl rfl (As := [.ref q4, .int (52 * (acts - 1)), .ref q3, .int 0, .int 52]) (rest := []) rfl rfl hl.1 (Nat.le_of_ble_eq_true rfl) dX10_remembers_67 ⟨Nat.zero_le _, Nat.zero_le _⟩) hP hA [2, 1] rfl rfl (fun H locs hP => ?_)
    have hP : PD (dC, dI) A s.heap [(q0, .inr (10, [.int feetMany, .ref q1, .int log_, .int block, .ref q2, .int stocking, .ref q3, .int (acts - 1), .ref q4, .int keeps, .ref q5, .int hears, .ref q6, .ref q7, .int texted, .int at_, .ref q8, .ref q9, .int readFeetMany, .ref q10, .int readLog, .int readBlock, .ref q11, .int readStocking, .ref q12, .int lefts_, .int rights_, .ref q13, .ref q14, .ref q15, .ref q16, .ref q17])), (q3, .inl (cc 0, 52, .inl st)), (q4, .inl (cc 0, 416, .inl w8))] H locs := hP
    refine lv_aload_n hx hb dX10_remembers_70 rfl (lv_at hl 0 rfl) ?_
    refine lv_dup hx hb dX10_remembers_71 rfl ?_
    refine g_get hC hP fg_X10_160 0 rfl rfl dX10_remembers_72 ?_
    refine lv_iconst (v := 1) hx hb dX10_remembers_75 (by decide) ?_
    refine lv_iadd hx hb dX10_remembers_76 ?_
    refine g_put hC hP fg_X10_160 0 rfl rfl rfl (Nat.le_of_ble_eq_true rfl) dX10_remembers_77 (fun H locs hP => ?_)
    have hP : PD (dC, dI) A s.heap [(q0, .inr (10, [.int feetMany, .ref q1, .int log_, .int block, .ref q2, .int stocking, .ref q3, .int ((acts - 1) + 1), .ref q4, .int keeps, .ref q5, .int hears, .ref q6, .ref q7, .int texted, .int at_, .ref q8, .ref q9, .int readFeetMany, .ref q10, .int readLog, .int readBlock, .ref q11, .int readStocking, .ref q12, .int lefts_, .int rights_, .ref q13, .ref q14, .ref q15, .ref q16, .ref q17])), (q3, .inl (cc 0, 52, .inl st)), (q4, .inl (cc 0, 416, .inl w8))] H locs := hP
    rw [eZ]
    exact ret_v hC hr hlk hP dX10_remembers_80 (((acts - 1) + 1), w8) (Option.some.inj h) rfl
set_option maxHeartbeats 8000000 in
set_option maxRecDepth 100000 in
theorem c_X10_pass (l : Launch) (dC : Nat → ClassId) (dI : Nat → Nat → Nat) (cc : Nat → ClassId) (q0 q1 q2 q3 q4 q5 q6 q7 q8 q9 q10 q11 q12 q13 q14 q15 q16 q17 : Nat) (feetMany : Int32) (log_ : Int32) (block : Int32) (stocking : Int32) (acts : Int32) (keeps : Int32) (hears : Int32) (texted : Int32) (at_ : Int32) (readFeetMany : Int32) (readLog : Int32) (readBlock : Int32) (readStocking : Int32) (lefts_ : Int32) (rights_ : Int32) (st : (Nat → Int32)) (was : (Nat → Int32)) (x1 : Int32) (sz : Nat) (ret : Int32) (o_st : (Nat → Int32)) (o_acts : Int32) (o_was : (Nat → Int32)) (hu : f_X10_pass x1 acts st was = some (ret, o_st, o_acts, o_was)) : Met l yX10_pass (mw yX10_pass cX10_pass 2 (some .int)) ({ frames := 2, cells := 0, slots := 0, locals := 46 } : Room) (va_Pc [.ref q0, .int x1] (mP (dC, dI) (ts cc) sz [(q0, .inr (10, [.int feetMany, .ref q1, .int log_, .int block, .ref q2, .int stocking, .ref q3, .int acts, .ref q4, .int keeps, .ref q5, .int hears, .ref q6, .ref q7, .int texted, .int at_, .ref q8, .ref q9, .int readFeetMany, .ref q10, .int readLog, .int readBlock, .ref q11, .int readStocking, .ref q12, .int lefts_, .int rights_, .ref q13, .ref q14, .ref q15, .ref q16, .ref q17])), (q3, .inl (cc 0, 52, .inl st)), (q4, .inl (cc 0, 416, .inl was))])) ((fun A => va_Qi (fun (r : Int32) (w : (Nat → Int32) × Int32 × (Nat → Int32)) => r = ret ∧ w = (o_st, o_acts, o_was)) (fun (w : (Nat → Int32) × Int32 × (Nat → Int32)) t => va_P (dC, dI) classes [(q0, .inr (10, [.int feetMany, .ref q1, .int log_, .int block, .ref q2, .int stocking, .ref q3, .int w.2.1, .ref q4, .int keeps, .ref q5, .int hears, .ref q6, .ref q7, .int texted, .int at_, .ref q8, .ref q9, .int readFeetMany, .ref q10, .int readLog, .int readBlock, .ref q11, .int readStocking, .ref q12, .int lefts_, .int rights_, .ref q13, .ref q14, .ref q15, .ref q16, .ref q17])), (q3, .inl (cc 0, 52, .inl w.1)), (q4, .inl (cc 0, 416, .inl w.2.2))] t.heap) A) (va_A [(q0, .inr (10, [.int feetMany, .ref q1, .int log_, .int block, .ref q2, .int stocking, .ref q3, .int acts, .ref q4, .int keeps, .ref q5, .int hears, .ref q6, .ref q7, .int texted, .int at_, .ref q8, .ref q9, .int readFeetMany, .ref q10, .int readLog, .int readBlock, .ref q11, .int readStocking, .ref q12, .int lefts_, .int rights_, .ref q13, .ref q14, .ref q15, .ref q16, .ref q17])), (q3, .inl (cc 0, 52, .inl st)), (q4, .inl (cc 0, 416, .inl was))] sz)) 0 0 (va_A [(q0, .inr (10, [.int feetMany, .ref q1, .int log_, .int block, .ref q2, .int stocking, .ref q3, .int acts, .ref q4, .int keeps, .ref q5, .int hears, .ref q6, .ref q7, .int texted, .int at_, .ref q8, .ref q9, .int readFeetMany, .ref q10, .int readLog, .int readBlock, .ref q11, .int readStocking, .ref q12, .int lefts_, .int rights_, .ref q13, .ref q14, .ref q15, .ref q16, .ref q17])), (q3, .inl (cc 0, 52, .inl st)), (q4, .inl (cc 0, 416, .inl was))] sz) := by
  refine met_go (Qc := fun A => va_Qi (fun (r : Int32) (w : (Nat → Int32) × Int32 × (Nat → Int32)) => r = ret ∧ w = (o_st, o_acts, o_was)) (fun (w : (Nat → Int32) × Int32 × (Nat → Int32)) t => va_P (dC, dI) classes [(q0, .inr (10, [.int feetMany, .ref q1, .int log_, .int block, .ref q2, .int stocking, .ref q3, .int w.2.1, .ref q4, .int keeps, .ref q5, .int hears, .ref q6, .ref q7, .int texted, .int at_, .ref q8, .ref q9, .int readFeetMany, .ref q10, .int readLog, .int readBlock, .ref q11, .int readStocking, .ref q12, .int lefts_, .int rights_, .ref q13, .ref q14, .ref q15, .ref q16, .ref q17])), (q3, .inl (cc 0, 52, .inl w.1)), (q4, .inl (cc 0, 416, .inl w.2.2))] t.heap) A) (by decide) (Nat.le_of_ble_eq_true rfl) ?_
  intro p e s m below meth c A ls H locs hC hr hlk hin hA hP hl _
  have hC : CX p m c cX10_pass 2 s ([.ref q0, .int x1] : List Value).toArray RX10 (dC, dI) (ts cc) := hC
  have hx := hC.1.1
  have hb := hC.1.2
  have h := hu
  have hu0 := hu
  unfold f_X10_pass at h
  have hl : lv_has ls 2 [(0, .ref q0), (1, .int x1)] := hl
  refine lv_iload_n hx hb dX10_pass_0 rfl (lv_at hl 1 rfl) ?_
  refine lv_iconst (v := 1) hx hb dX10_pass_1 (by decide) ?_
  refine lv_bipush (v := 60) hx hb dX10_pass_2 (by decide) ?_
  obtain ⟨r1, hu, h⟩ := bnd_h h
  refine kc_z (kS hC (c_X10_in l dC dI cc x1 1 60 H.size r1 hu) cs_X10_90 kw912 rfl rfl ⟨(Nat.le_of_ble_eq_true rfl), (Nat.le_of_ble_eq_true rfl)⟩ hP [] rfl rfl (As := [.int x1, .int 1, .int 60]) (rest := []) rfl rfl hl.1 (Nat.le_of_ble_eq_true rfl) dX10_pass_4 ⟨Nat.zero_le _, Nat.zero_le _⟩) hP hA [] rfl rfl (fun hz_r1 H locs hP => ?_)
  have hP : PD (dC, dI) A s.heap [(q0, .inr (10, [.int feetMany, .ref q1, .int log_, .int block, .ref q2, .int stocking, .ref q3, .int acts, .ref q4, .int keeps, .ref q5, .int hears, .ref q6, .ref q7, .int texted, .int at_, .ref q8, .ref q9, .int readFeetMany, .ref q10, .int readLog, .int readBlock, .ref q11, .int readStocking, .ref q12, .int lefts_, .int rights_, .ref q13, .ref q14, .ref q15, .ref q16, .ref q17])), (q3, .inl (cc 0, 52, .inl st)), (q4, .inl (cc 0, 416, .inl was))] H locs := hP
  refine lv_if_ne (tgt := 12) hx hb dX10_pass_7 (by decide) (fun c2 => ?_) (fun c2 => ?_)
  · have h := if_f c2 h
    refine lv_aload_n hx hb dX10_pass_12 rfl (lv_at hl 0 rfl) ?_
    refine g_get hC hP fg_X10_17 0 rfl rfl dX10_pass_13 ?_
    refine lv_iconst (v := 0) hx hb dX10_pass_16 (by decide) ?_
    obtain ⟨hin, h⟩ := rd_h h
    refine g_iald hC hP 1 0 rfl rfl hin dX10_pass_17 (fun v3 ev => ?_)
    have h := h v3 ev
    refine lv_iload_n hx hb dX10_pass_18 rfl (lv_at hl 1 rfl) ?_
    refine lv_iadd hx hb dX10_pass_19 ?_
    refine lv_sipush (v := 999) hx hb dX10_pass_20 (by decide) ?_
    refine lv_icmp_le (tgt := 29) hx hb dX10_pass_23 (by decide) (fun c4 => ?_) (fun c4 => ?_)
    · have h := if_t c4 h
      refine lv_aload_n hx hb dX10_pass_29 rfl (lv_at hl 0 rfl) ?_
      obtain ⟨⟨w5, w6⟩, hu, h⟩ := bnd_h h
      refine kc_v (kV hC (c_X10_remembers l dC dI cc q0 q1 q2 q3 q4 q5 q6 q7 q8 q9 q10 q11 q12 q13 q14 q15 q16 q17 feetMany log_ block stocking acts keeps hears texted at_ readFeetMany readLog readBlock readStocking lefts_ rights_ st was H.size w5 w6 hu) cv_X10_194 kw1011 rfl rfl ⟨(Nat.le_of_ble_eq_true rfl), (Nat.le_of_ble_eq_true rfl)⟩ hP [0, 1, 2] rfl rfl rfl (q0 := 0) rfl (As := []) (rest := []) rfl rfl hl.1 (Nat.le_of_ble_eq_true rfl) dX10_pass_30 ⟨Nat.zero_le _, Nat.zero_le _⟩) hP hA [0, 1, 2] rfl rfl (fun H locs hP => ?_)
      have hP : PD (dC, dI) A s.heap [(q0, .inr (10, [.int feetMany, .ref q1, .int log_, .int block, .ref q2, .int stocking, .ref q3, .int w5, .ref q4, .int keeps, .ref q5, .int hears, .ref q6, .ref q7, .int texted, .int at_, .ref q8, .ref q9, .int readFeetMany, .ref q10, .int readLog, .int readBlock, .ref q11, .int readStocking, .ref q12, .int lefts_, .int rights_, .ref q13, .ref q14, .ref q15, .ref q16, .ref q17])), (q3, .inl (cc 0, 52, .inl st)), (q4, .inl (cc 0, 416, .inl w6))] H locs := hP
      refine lv_aload_n hx hb dX10_pass_33 rfl (lv_at hl 0 rfl) ?_
      refine g_get hC hP fg_X10_17 0 rfl rfl dX10_pass_34 ?_
      refine lv_iconst (v := 0) hx hb dX10_pass_37 (by decide) ?_
      refine lv_dup2_11 hx hb dX10_pass_38 rfl rfl ?_
      obtain ⟨hin, h⟩ := rd_h h
      refine g_iald hC hP 1 0 rfl rfl hin dX10_pass_39 (fun v7 ev => ?_)
      have h := h v7 ev
      refine lv_iload_n hx hb dX10_pass_40 rfl (lv_at hl 1 rfl) ?_
      refine lv_iadd hx hb dX10_pass_41 ?_
      obtain ⟨hin, h⟩ := wr_h h
      refine g_iast hC hP 1 0 rfl rfl hin dX10_pass_42 (fun a8 ev H locs hP => ?_)
      have hP : PD (dC, dI) A s.heap [(q0, .inr (10, [.int feetMany, .ref q1, .int log_, .int block, .ref q2, .int stocking, .ref q3, .int w5, .ref q4, .int keeps, .ref q5, .int hears, .ref q6, .ref q7, .int texted, .int at_, .ref q8, .ref q9, .int readFeetMany, .ref q10, .int readLog, .int readBlock, .ref q11, .int readStocking, .ref q12, .int lefts_, .int rights_, .ref q13, .ref q14, .ref q15, .ref q16, .ref q17])), (q3, .inl (cc 0, 52, .inl a8)), (q4, .inl (cc 0, 416, .inl w6))] H locs := hP
      have h := h a8 ev
      refine lv_aload_n hx hb dX10_pass_43 rfl (lv_at hl 0 rfl) ?_
      refine g_get hC hP fg_X10_17 0 rfl rfl dX10_pass_44 ?_
      refine lv_iconst (v := 0) hx hb dX10_pass_47 (by decide) ?_
      obtain ⟨hin, h⟩ := rd_h h
      refine g_iald hC hP 1 0 rfl rfl hin dX10_pass_48 (fun v9 ev => ?_)
      have h := h v9 ev
      exact ret_i hC hr hlk hP dX10_pass_49 (a8, w5, w6) (Prod.mk.inj (Option.some.inj h)) rfl
    · have h := if_f c4 h
      refine lv_bipush (v := -2) hx hb dX10_pass_26 (by decide) ?_
      exact ret_i hC hr hlk hP dX10_pass_28 (st, acts, was) (Prod.mk.inj (Option.some.inj h)) rfl
  · have h := if_t c2 h
    refine lv_iconst (v := -1) hx hb dX10_pass_10 (by decide) ?_
    exact ret_i hC hr hlk hP dX10_pass_11 (st, acts, was) (Prod.mk.inj (Option.some.inj h)) rfl
set_option maxHeartbeats 8000000 in
set_option maxRecDepth 100000 in
theorem c_X10_come (l : Launch) (dC : Nat → ClassId) (dI : Nat → Nat → Nat) (cc : Nat → ClassId) (q0 q1 q2 q3 q4 q5 q6 q7 q8 q9 q10 q11 q12 q13 q14 q15 q16 q17 : Nat) (feetMany : Int32) (log_ : Int32) (block : Int32) (stocking : Int32) (acts : Int32) (keeps : Int32) (hears : Int32) (texted : Int32) (at_ : Int32) (readFeetMany : Int32) (readLog : Int32) (readBlock : Int32) (readStocking : Int32) (lefts_ : Int32) (rights_ : Int32) (st : (Nat → Int32)) (was : (Nat → Int32)) (x1 : Int32) (x2 : Int32) (x3 : Int32) (x4 : Int32) (sz : Nat) (ret : Int32) (o_st : (Nat → Int32)) (o_acts : Int32) (o_was : (Nat → Int32)) (hu : f_X10_come x1 x2 x3 x4 acts st was = some (ret, o_st, o_acts, o_was)) : Met l yX10_come (mw yX10_come cX10_come 5 (some .int)) ({ frames := 2, cells := 0, slots := 0, locals := 46 } : Room) (va_Pc [.ref q0, .int x1, .int x2, .int x3, .int x4] (mP (dC, dI) (ts cc) sz [(q0, .inr (10, [.int feetMany, .ref q1, .int log_, .int block, .ref q2, .int stocking, .ref q3, .int acts, .ref q4, .int keeps, .ref q5, .int hears, .ref q6, .ref q7, .int texted, .int at_, .ref q8, .ref q9, .int readFeetMany, .ref q10, .int readLog, .int readBlock, .ref q11, .int readStocking, .ref q12, .int lefts_, .int rights_, .ref q13, .ref q14, .ref q15, .ref q16, .ref q17])), (q3, .inl (cc 0, 52, .inl st)), (q4, .inl (cc 0, 416, .inl was))])) ((fun A => va_Qi (fun (r : Int32) (w : (Nat → Int32) × Int32 × (Nat → Int32)) => r = ret ∧ w = (o_st, o_acts, o_was)) (fun (w : (Nat → Int32) × Int32 × (Nat → Int32)) t => va_P (dC, dI) classes [(q0, .inr (10, [.int feetMany, .ref q1, .int log_, .int block, .ref q2, .int stocking, .ref q3, .int w.2.1, .ref q4, .int keeps, .ref q5, .int hears, .ref q6, .ref q7, .int texted, .int at_, .ref q8, .ref q9, .int readFeetMany, .ref q10, .int readLog, .int readBlock, .ref q11, .int readStocking, .ref q12, .int lefts_, .int rights_, .ref q13, .ref q14, .ref q15, .ref q16, .ref q17])), (q3, .inl (cc 0, 52, .inl w.1)), (q4, .inl (cc 0, 416, .inl w.2.2))] t.heap) A) (va_A [(q0, .inr (10, [.int feetMany, .ref q1, .int log_, .int block, .ref q2, .int stocking, .ref q3, .int acts, .ref q4, .int keeps, .ref q5, .int hears, .ref q6, .ref q7, .int texted, .int at_, .ref q8, .ref q9, .int readFeetMany, .ref q10, .int readLog, .int readBlock, .ref q11, .int readStocking, .ref q12, .int lefts_, .int rights_, .ref q13, .ref q14, .ref q15, .ref q16, .ref q17])), (q3, .inl (cc 0, 52, .inl st)), (q4, .inl (cc 0, 416, .inl was))] sz)) 0 0 (va_A [(q0, .inr (10, [.int feetMany, .ref q1, .int log_, .int block, .ref q2, .int stocking, .ref q3, .int acts, .ref q4, .int keeps, .ref q5, .int hears, .ref q6, .ref q7, .int texted, .int at_, .ref q8, .ref q9, .int readFeetMany, .ref q10, .int readLog, .int readBlock, .ref q11, .int readStocking, .ref q12, .int lefts_, .int rights_, .ref q13, .ref q14, .ref q15, .ref q16, .ref q17])), (q3, .inl (cc 0, 52, .inl st)), (q4, .inl (cc 0, 416, .inl was))] sz) := by
  refine met_go (Qc := fun A => va_Qi (fun (r : Int32) (w : (Nat → Int32) × Int32 × (Nat → Int32)) => r = ret ∧ w = (o_st, o_acts, o_was)) (fun (w : (Nat → Int32) × Int32 × (Nat → Int32)) t => va_P (dC, dI) classes [(q0, .inr (10, [.int feetMany, .ref q1, .int log_, .int block, .ref q2, .int stocking, .ref q3, .int w.2.1, .ref q4, .int keeps, .ref q5, .int hears, .ref q6, .ref q7, .int texted, .int at_, .ref q8, .ref q9, .int readFeetMany, .ref q10, .int readLog, .int readBlock, .ref q11, .int readStocking, .ref q12, .int lefts_, .int rights_, .ref q13, .ref q14, .ref q15, .ref q16, .ref q17])), (q3, .inl (cc 0, 52, .inl w.1)), (q4, .inl (cc 0, 416, .inl w.2.2))] t.heap) A) (by decide) (Nat.le_of_ble_eq_true rfl) ?_
  intro p e s m below meth c A ls H locs hC hr hlk hin hA hP hl _
  have hC : CX p m c cX10_come 5 s ([.ref q0, .int x1, .int x2, .int x3, .int x4] : List Value).toArray RX10 (dC, dI) (ts cc) := hC
  have hx := hC.1.1
  have hb := hC.1.2
  have h := hu
  have hu0 := hu
  unfold f_X10_come at h
  have hl : lv_has ls 5 [(0, .ref q0), (1, .int x1), (2, .int x2), (3, .int x3), (4, .int x4)] := hl
  refine lv_iload_n hx hb dX10_come_0 rfl (lv_at hl 1 rfl) ?_
  refine lv_iload_n hx hb dX10_come_1 rfl (lv_at hl 2 rfl) ?_
  refine lv_iload_n hx hb dX10_come_2 rfl (lv_at hl 3 rfl) ?_
  refine lv_iload hx hb dX10_come_3 (lv_at hl 4 rfl) ?_
  obtain ⟨r1, hu, h⟩ := bnd_h h
  refine kc_z (kS hC (c_X10_isOne l dC dI cc x1 x2 x3 x4 H.size r1 hu) cs_X10_114 kw942 rfl rfl ⟨(Nat.le_of_ble_eq_true rfl), (Nat.le_of_ble_eq_true rfl)⟩ hP [] rfl rfl (As := [.int x1, .int x2, .int x3, .int x4]) (rest := []) rfl rfl hl.1 (Nat.le_of_ble_eq_true rfl) dX10_come_5 ⟨Nat.zero_le _, Nat.zero_le _⟩) hP hA [] rfl rfl (fun hz_r1 H locs hP => ?_)
  have hP : PD (dC, dI) A s.heap [(q0, .inr (10, [.int feetMany, .ref q1, .int log_, .int block, .ref q2, .int stocking, .ref q3, .int acts, .ref q4, .int keeps, .ref q5, .int hears, .ref q6, .ref q7, .int texted, .int at_, .ref q8, .ref q9, .int readFeetMany, .ref q10, .int readLog, .int readBlock, .ref q11, .int readStocking, .ref q12, .int lefts_, .int rights_, .ref q13, .ref q14, .ref q15, .ref q16, .ref q17])), (q3, .inl (cc 0, 52, .inl st)), (q4, .inl (cc 0, 416, .inl was))] H locs := hP
  refine lv_if_ne (tgt := 13) hx hb dX10_come_8 (by decide) (fun c2 => ?_) (fun c2 => ?_)
  · have h := if_f c2 h
    refine lv_aload_n hx hb dX10_come_13 rfl (lv_at hl 0 rfl) ?_
    refine g_get hC hP fg_X10_17 0 rfl rfl dX10_come_14 ?_
    refine lv_iconst (v := 1) hx hb dX10_come_17 (by decide) ?_
    obtain ⟨hin, h⟩ := rd_h h
    refine g_iald hC hP 1 0 rfl rfl hin dX10_come_18 (fun v3 ev => ?_)
    have h := h v3 ev
    refine lv_bipush (v := 10) hx hb dX10_come_19 (by decide) ?_
    refine lv_icmp_ne (tgt := 27) hx hb dX10_come_21 (by decide) (fun c4 => ?_) (fun c4 => ?_)
    · have h := if_f c4 h
      refine lv_aload_n hx hb dX10_come_27 rfl (lv_at hl 0 rfl) ?_
      obtain ⟨⟨w5, w6⟩, hu, h⟩ := bnd_h h
      refine kc_v (kV hC (c_X10_remembers l dC dI cc q0 q1 q2 q3 q4 q5 q6 q7 q8 q9 q10 q11 q12 q13 q14 q15 q16 q17 feetMany log_ block stocking acts keeps hears texted at_ readFeetMany readLog readBlock readStocking lefts_ rights_ st was H.size w5 w6 hu) cv_X10_194 kw1011 rfl rfl ⟨(Nat.le_of_ble_eq_true rfl), (Nat.le_of_ble_eq_true rfl)⟩ hP [0, 1, 2] rfl rfl rfl (q0 := 0) rfl (As := []) (rest := []) rfl rfl hl.1 (Nat.le_of_ble_eq_true rfl) dX10_come_28 ⟨Nat.zero_le _, Nat.zero_le _⟩) hP hA [0, 1, 2] rfl rfl (fun H locs hP => ?_)
      have hP : PD (dC, dI) A s.heap [(q0, .inr (10, [.int feetMany, .ref q1, .int log_, .int block, .ref q2, .int stocking, .ref q3, .int w5, .ref q4, .int keeps, .ref q5, .int hears, .ref q6, .ref q7, .int texted, .int at_, .ref q8, .ref q9, .int readFeetMany, .ref q10, .int readLog, .int readBlock, .ref q11, .int readStocking, .ref q12, .int lefts_, .int rights_, .ref q13, .ref q14, .ref q15, .ref q16, .ref q17])), (q3, .inl (cc 0, 52, .inl st)), (q4, .inl (cc 0, 416, .inl w6))] H locs := hP
      refine lv_aload_n hx hb dX10_come_31 rfl (lv_at hl 0 rfl) ?_
      refine g_get hC hP fg_X10_17 0 rfl rfl dX10_come_32 ?_
      refine lv_iload_n hx hb dX10_come_35 rfl (lv_at hl 1 rfl) ?_
      refine lv_iload_n hx hb dX10_come_36 rfl (lv_at hl 2 rfl) ?_
      refine lv_iload_n hx hb dX10_come_37 rfl (lv_at hl 3 rfl) ?_
      refine lv_iload hx hb dX10_come_38 (lv_at hl 4 rfl) ?_
      obtain ⟨w7, hu, h⟩ := bnd_h h
      refine kc_v (kS hC (c_X10_puts l dC dI cc q3 52 st x1 x2 x3 x4 H.size w7 hu) cs_X10_83 kw796 rfl rfl ⟨(Nat.le_of_ble_eq_true rfl), (Nat.le_of_ble_eq_true rfl)⟩ hP [1] rfl rfl (As := [.ref q3, .int x1, .int x2, .int x3, .int x4]) (rest := []) rfl rfl hl.1 (Nat.le_of_ble_eq_true rfl) dX10_come_40 ⟨Nat.zero_le _, Nat.zero_le _⟩) hP hA [1] rfl rfl (fun H locs hP => ?_)
      have hP : PD (dC, dI) A s.heap [(q0, .inr (10, [.int feetMany, .ref q1, .int log_, .int block, .ref q2, .int stocking, .ref q3, .int w5, .ref q4, .int keeps, .ref q5, .int hears, .ref q6, .ref q7, .int texted, .int at_, .ref q8, .ref q9, .int readFeetMany, .ref q10, .int readLog, .int readBlock, .ref q11, .int readStocking, .ref q12, .int lefts_, .int rights_, .ref q13, .ref q14, .ref q15, .ref q16, .ref q17])), (q3, .inl (cc 0, 52, .inl w7)), (q4, .inl (cc 0, 416, .inl w6))] H locs := hP
      refine lv_aload_n hx hb dX10_come_43 rfl (lv_at hl 0 rfl) ?_
      refine g_get hC hP fg_X10_17 0 rfl rfl dX10_come_44 ?_
      refine lv_iconst (v := 1) hx hb dX10_come_47 (by decide) ?_
      obtain ⟨hin, h⟩ := rd_h h
      refine g_iald hC hP 1 0 rfl rfl hin dX10_come_48 (fun v8 ev => ?_)
      have h := h v8 ev
      refine lv_iconst (v := 1) hx hb dX10_come_49 (by decide) ?_
      refine lv_isub hx hb dX10_come_50 ?_
      exact ret_i hC hr hlk hP dX10_come_51 (w7, w5, w6) (Prod.mk.inj (Option.some.inj h)) rfl
    · have h := if_t c4 h
      refine lv_bipush (v := -3) hx hb dX10_come_24 (by decide) ?_
      exact ret_i hC hr hlk hP dX10_come_26 (st, acts, was) (Prod.mk.inj (Option.some.inj h)) rfl
  · have h := if_t c2 h
    refine lv_iconst (v := -1) hx hb dX10_come_11 (by decide) ?_
    exact ret_i hC hr hlk hP dX10_come_12 (st, acts, was) (Prod.mk.inj (Option.some.inj h)) rfl
set_option maxHeartbeats 8000000 in
set_option maxRecDepth 100000 in
theorem c_X10_leaves (l : Launch) (dC : Nat → ClassId) (dI : Nat → Nat → Nat) (cc : Nat → ClassId) (q0 : Nat) (n1 : Nat) (f1 : (Nat → Int32)) (x2 : Int32) (sz : Nat) (o_f1 : (Nat → Int32)) (hu : f_X10_leaves x2 n1 f1 = some o_f1) : Met l yX10_leaves (mw yX10_leaves cX10_leaves 3 none) ({ frames := 0, cells := 0, slots := 0, locals := 0 } : Room) (va_Pc [.ref q0, .int x2] (mP (dC, dI) (ts cc) sz [(q0, .inl (cc 0, n1, .inl f1))])) ((fun A => va_Qv (fun (w : (Nat → Int32)) => w = o_f1) (fun (w : (Nat → Int32)) t => va_P (dC, dI) classes [(q0, .inl (cc 0, n1, .inl w))] t.heap) A) (va_A [(q0, .inl (cc 0, n1, .inl f1))] sz)) 0 0 (va_A [(q0, .inl (cc 0, n1, .inl f1))] sz) := by
  refine met_go (Qc := fun A => va_Qv (fun (w : (Nat → Int32)) => w = o_f1) (fun (w : (Nat → Int32)) t => va_P (dC, dI) classes [(q0, .inl (cc 0, n1, .inl w))] t.heap) A) (by decide) (Nat.le_of_ble_eq_true rfl) ?_
  intro p e s m below meth c A ls H locs hC hr hlk hin hA hP hl _
  have hC : CX p m c cX10_leaves 3 s ([.ref q0, .int x2] : List Value).toArray RX10 (dC, dI) (ts cc) := hC
  have hx := hC.1.1
  have hb := hC.1.2
  have h := hu
  have hu0 := hu
  unfold f_X10_leaves at h
  have hl : lv_has ls 3 [(0, .ref q0), (1, .int x2)] := hl
  refine W_abs (fun Z eZ => ?_)
  refine lv_iconst (v := 2) hx hb dX10_leaves_0 (by decide) ?_
  refine lv_iconst (v := 5) hx hb dX10_leaves_1 (by decide) ?_
  refine lv_iload_n hx hb dX10_leaves_2 rfl (lv_at hl 1 rfl) ?_
  refine lv_imul hx hb dX10_leaves_3 ?_
  refine lv_iadd hx hb dX10_leaves_4 ?_
  refine lv_istore_n (lv' := [(2, .int (2 + (5 * x2))), (0, .ref q0), (1, .int x2)]) hx hb dX10_leaves_5 rfl hl (by decide) rfl (fun ls hl => ?_)
  obtain ⟨⟨j1x, w2x⟩, hlp, h⟩ := bnd_h h
  have L1 : ∀ (n : Nat) (j1 : Int32) (w2 : (Nat → Int32)) (j1x : Int32) (w2x : (Nat → Int32)), lp (u2 (b_X10_leaves_1 n1)) n (j1, w2) = some (j1x, w2x) → ∀ (H : Heap) (locs : List Loc) (ls : Array Slot), PD (dC, dI) A s.heap [(q0, .inl (cc 0, n1, .inl w2))] H locs → lv_has ls 3 [(0, .ref q0), (2, .int j1)] → (∀ (H : Heap) (locs : List Loc) (ls : Array Slot), PD (dC, dI) A s.heap [(q0, .inl (cc 0, n1, .inl w2x))] H locs → lv_has ls 3 [(0, .ref q0), (2, .int j1x)] → W p l e ({ frames := 0, cells := 0, slots := 0, locals := 0 } : Room) s m ([.ref q0, .int x2] : List Value).toArray below meth c H locs 0 0 Z (F0 m 26 ls [])) → W p l e ({ frames := 0, cells := 0, slots := 0, locals := 0 } : Room) s m ([.ref q0, .int x2] : List Value).toArray below meth c H locs 0 0 Z (F0 m 6 ls []) := by
    intro n
    induction n with
    | zero => intro j1 w2 j1x w2x h; exact (lp_0 h).elim
    | succ n ih =>
      intro j1 w2 j1x w2x h H locs ls hP hl KK
      obtain ⟨y, h, hz⟩ := lp_h h
      refine lv_iload_n hx hb dX10_leaves_6 rfl (lv_at hl 1 rfl) ?_
      refine lv_bipush (v := 47) hx hb dX10_leaves_7 (by decide) ?_
      refine lv_icmp_ge (tgt := 26) hx hb dX10_leaves_9 (by decide) (fun c3 => ?_) (fun c3 => ?_)
      · have h := if_t c3 h
        cases lp_e h hz
        exact KK H locs ls hP (lv_sub hl [0, 1] rfl)
      · have h := if_f c3 h
        refine lv_aload_n hx hb dX10_leaves_12 rfl (lv_at hl 0 rfl) ?_
        refine lv_iload_n hx hb dX10_leaves_13 rfl (lv_at hl 1 rfl) ?_
        refine lv_aload_n hx hb dX10_leaves_14 rfl (lv_at hl 0 rfl) ?_
        refine lv_iload_n hx hb dX10_leaves_15 rfl (lv_at hl 1 rfl) ?_
        refine lv_iconst (v := 5) hx hb dX10_leaves_16 (by decide) ?_
        refine lv_iadd hx hb dX10_leaves_17 ?_
        obtain ⟨hin, h⟩ := rd_h h
        refine g_iald hC hP 0 0 rfl rfl hin dX10_leaves_18 (fun v4 ev => ?_)
        have h := h v4 ev
        obtain ⟨hin, h⟩ := wr_h h
        refine g_iast hC hP 0 0 rfl rfl hin dX10_leaves_19 (fun a5 ev H locs hP => ?_)
        have hP : PD (dC, dI) A s.heap [(q0, .inl (cc 0, n1, .inl a5))] H locs := hP
        have h := h a5 ev
        refine lv_iinc (v := (j1 + 1)) (lv' := [(2, .int (j1 + 1)), (0, .ref q0)]) hx hb dX10_leaves_20 hl (k := 1) rfl rfl (by decide) rfl (fun ls hl => ?_)
        refine lv_goto (tgt := 6) hx hb dX10_leaves_23 (by decide) ?_
        exact ih _ _ _ _ (lp_n h hz) H locs ls hP (lv_sub hl [1, 0] rfl) KK
  refine L1 FU _ _ j1x w2x hlp H locs ls hP (lv_sub hl [1, 0] rfl) (fun H locs ls hP hl => ?_)
  refine lv_aload_n hx hb dX10_leaves_26 rfl (lv_at hl 0 rfl) ?_
  refine lv_iconst (v := 1) hx hb dX10_leaves_27 (by decide) ?_
  refine lv_dup2_11 hx hb dX10_leaves_28 rfl rfl ?_
  obtain ⟨hin, h⟩ := rd_h h
  refine g_iald hC hP 0 0 rfl rfl hin dX10_leaves_29 (fun v6 ev => ?_)
  have h := h v6 ev
  refine lv_iconst (v := 1) hx hb dX10_leaves_30 (by decide) ?_
  refine lv_isub hx hb dX10_leaves_31 ?_
  obtain ⟨hin, h⟩ := wr_h h
  refine g_iast hC hP 0 0 rfl rfl hin dX10_leaves_32 (fun a7 ev H locs hP => ?_)
  have hP : PD (dC, dI) A s.heap [(q0, .inl (cc 0, n1, .inl a7))] H locs := hP
  have h := h a7 ev
  rw [eZ]
  exact ret_v hC hr hlk hP dX10_leaves_33 a7 (Option.some.inj h) rfl
set_option maxHeartbeats 8000000 in
set_option maxRecDepth 100000 in
theorem c_X10_go (l : Launch) (dC : Nat → ClassId) (dI : Nat → Nat → Nat) (cc : Nat → ClassId) (q0 q1 q2 q3 q4 q5 q6 q7 q8 q9 q10 q11 q12 q13 q14 q15 q16 q17 : Nat) (feetMany : Int32) (log_ : Int32) (block : Int32) (stocking : Int32) (acts : Int32) (keeps : Int32) (hears : Int32) (texted : Int32) (at_ : Int32) (readFeetMany : Int32) (readLog : Int32) (readBlock : Int32) (readStocking : Int32) (lefts_ : Int32) (rights_ : Int32) (st : (Nat → Int32)) (was : (Nat → Int32)) (now_ : (Nat → Int32)) (x1 : Int32) (x2 : Int32) (sz : Nat) (ret : Int32) (o_st : (Nat → Int32)) (o_acts : Int32) (o_was : (Nat → Int32)) (o_now_ : (Nat → Int32)) (hu : f_X10_go x1 x2 acts st was now_ = some (ret, o_st, o_acts, o_was, o_now_)) : Met l yX10_go (mw yX10_go cX10_go 3 (some .int)) ({ frames := 3, cells := 0, slots := 0, locals := 66 } : Room) (va_Pc [.ref q0, .int x1, .int x2] (mP (dC, dI) (ts cc) sz [(q0, .inr (10, [.int feetMany, .ref q1, .int log_, .int block, .ref q2, .int stocking, .ref q3, .int acts, .ref q4, .int keeps, .ref q5, .int hears, .ref q6, .ref q7, .int texted, .int at_, .ref q8, .ref q9, .int readFeetMany, .ref q10, .int readLog, .int readBlock, .ref q11, .int readStocking, .ref q12, .int lefts_, .int rights_, .ref q13, .ref q14, .ref q15, .ref q16, .ref q17])), (q3, .inl (cc 0, 52, .inl st)), (q4, .inl (cc 0, 416, .inl was)), (q12, .inl (cc 0, 52, .inl now_))])) ((fun A => va_Qi (fun (r : Int32) (w : (Nat → Int32) × Int32 × (Nat → Int32) × (Nat → Int32)) => r = ret ∧ w = (o_st, o_acts, o_was, o_now_)) (fun (w : (Nat → Int32) × Int32 × (Nat → Int32) × (Nat → Int32)) t => va_P (dC, dI) classes [(q0, .inr (10, [.int feetMany, .ref q1, .int log_, .int block, .ref q2, .int stocking, .ref q3, .int w.2.1, .ref q4, .int keeps, .ref q5, .int hears, .ref q6, .ref q7, .int texted, .int at_, .ref q8, .ref q9, .int readFeetMany, .ref q10, .int readLog, .int readBlock, .ref q11, .int readStocking, .ref q12, .int lefts_, .int rights_, .ref q13, .ref q14, .ref q15, .ref q16, .ref q17])), (q3, .inl (cc 0, 52, .inl w.1)), (q4, .inl (cc 0, 416, .inl w.2.2.1)), (q12, .inl (cc 0, 52, .inl w.2.2.2))] t.heap) A) (va_A [(q0, .inr (10, [.int feetMany, .ref q1, .int log_, .int block, .ref q2, .int stocking, .ref q3, .int acts, .ref q4, .int keeps, .ref q5, .int hears, .ref q6, .ref q7, .int texted, .int at_, .ref q8, .ref q9, .int readFeetMany, .ref q10, .int readLog, .int readBlock, .ref q11, .int readStocking, .ref q12, .int lefts_, .int rights_, .ref q13, .ref q14, .ref q15, .ref q16, .ref q17])), (q3, .inl (cc 0, 52, .inl st)), (q4, .inl (cc 0, 416, .inl was)), (q12, .inl (cc 0, 52, .inl now_))] sz)) 0 0 (va_A [(q0, .inr (10, [.int feetMany, .ref q1, .int log_, .int block, .ref q2, .int stocking, .ref q3, .int acts, .ref q4, .int keeps, .ref q5, .int hears, .ref q6, .ref q7, .int texted, .int at_, .ref q8, .ref q9, .int readFeetMany, .ref q10, .int readLog, .int readBlock, .ref q11, .int readStocking, .ref q12, .int lefts_, .int rights_, .ref q13, .ref q14, .ref q15, .ref q16, .ref q17])), (q3, .inl (cc 0, 52, .inl st)), (q4, .inl (cc 0, 416, .inl was)), (q12, .inl (cc 0, 52, .inl now_))] sz) := by
  refine met_go (Qc := fun A => va_Qi (fun (r : Int32) (w : (Nat → Int32) × Int32 × (Nat → Int32) × (Nat → Int32)) => r = ret ∧ w = (o_st, o_acts, o_was, o_now_)) (fun (w : (Nat → Int32) × Int32 × (Nat → Int32) × (Nat → Int32)) t => va_P (dC, dI) classes [(q0, .inr (10, [.int feetMany, .ref q1, .int log_, .int block, .ref q2, .int stocking, .ref q3, .int w.2.1, .ref q4, .int keeps, .ref q5, .int hears, .ref q6, .ref q7, .int texted, .int at_, .ref q8, .ref q9, .int readFeetMany, .ref q10, .int readLog, .int readBlock, .ref q11, .int readStocking, .ref q12, .int lefts_, .int rights_, .ref q13, .ref q14, .ref q15, .ref q16, .ref q17])), (q3, .inl (cc 0, 52, .inl w.1)), (q4, .inl (cc 0, 416, .inl w.2.2.1)), (q12, .inl (cc 0, 52, .inl w.2.2.2))] t.heap) A) (by decide) (Nat.le_of_ble_eq_true rfl) ?_
  intro p e s m below meth c A ls H locs hC hr hlk hin hA hP hl _
  have hC : CX p m c cX10_go 3 s ([.ref q0, .int x1, .int x2] : List Value).toArray RX10 (dC, dI) (ts cc) := hC
  have hx := hC.1.1
  have hb := hC.1.2
  have h := hu
  have hu0 := hu
  unfold f_X10_go at h
  have hl : lv_has ls 3 [(0, .ref q0), (1, .int x1), (2, .int x2)] := hl
  refine lv_aload_n hx hb dX10_go_0 rfl (lv_at hl 0 rfl) ?_
  refine lv_iload_n hx hb dX10_go_1 rfl (lv_at hl 1 rfl) ?_
  obtain ⟨r1, hu, h⟩ := bnd_h h
  refine kc_z (kV hC (c_X10_isClog l dC dI cc q0 q1 q2 q3 q4 q5 q6 q7 q8 q9 q10 q11 q12 q13 q14 q15 q16 q17 feetMany log_ block stocking acts keeps hears texted at_ readFeetMany readLog readBlock readStocking lefts_ rights_ st x1 H.size r1 hu) cv_X10_188 kw975 rfl rfl ⟨(Nat.le_of_ble_eq_true rfl), (Nat.le_of_ble_eq_true rfl)⟩ hP [0, 1] rfl rfl rfl (q0 := 0) rfl (As := [.int x1]) (rest := []) rfl rfl hl.1 (Nat.le_of_ble_eq_true rfl) dX10_go_2 ⟨Nat.zero_le _, Nat.zero_le _⟩) hP hA [0, 1] rfl rfl (fun hz_r1 H locs hP => ?_)
  have hP : PD (dC, dI) A s.heap [(q0, .inr (10, [.int feetMany, .ref q1, .int log_, .int block, .ref q2, .int stocking, .ref q3, .int acts, .ref q4, .int keeps, .ref q5, .int hears, .ref q6, .ref q7, .int texted, .int at_, .ref q8, .ref q9, .int readFeetMany, .ref q10, .int readLog, .int readBlock, .ref q11, .int readStocking, .ref q12, .int lefts_, .int rights_, .ref q13, .ref q14, .ref q15, .ref q16, .ref q17])), (q3, .inl (cc 0, 52, .inl st)), (q4, .inl (cc 0, 416, .inl was)), (q12, .inl (cc 0, 52, .inl now_))] H locs := hP
  refine lv_if_eq (tgt := 16) hx hb dX10_go_5 (by decide) (fun c2 => ?_) (fun c2 => ?_)
  · have h := if_t c2 h
    refine lv_iconst (v := -1) hx hb dX10_go_16 (by decide) ?_
    exact ret_i hC hr hlk hP dX10_go_17 (st, acts, was, now_) (Prod.mk.inj (Option.some.inj h)) rfl
  · have h := if_f c2 h
    refine lv_aload_n hx hb dX10_go_8 rfl (lv_at hl 0 rfl) ?_
    refine lv_iload_n hx hb dX10_go_9 rfl (lv_at hl 2 rfl) ?_
    obtain ⟨r3, hu, h⟩ := bnd_h h
    refine kc_z (kV hC (c_X10_isClog l dC dI cc q0 q1 q2 q3 q4 q5 q6 q7 q8 q9 q10 q11 q12 q13 q14 q15 q16 q17 feetMany log_ block stocking acts keeps hears texted at_ readFeetMany readLog readBlock readStocking lefts_ rights_ st x2 H.size r3 hu) cv_X10_188 kw975 rfl rfl ⟨(Nat.le_of_ble_eq_true rfl), (Nat.le_of_ble_eq_true rfl)⟩ hP [0, 1] rfl rfl rfl (q0 := 0) rfl (As := [.int x2]) (rest := []) rfl rfl hl.1 (Nat.le_of_ble_eq_true rfl) dX10_go_10 ⟨Nat.zero_le _, Nat.zero_le _⟩) hP hA [0, 1] rfl rfl (fun hz_r3 H locs hP => ?_)
    have hP : PD (dC, dI) A s.heap [(q0, .inr (10, [.int feetMany, .ref q1, .int log_, .int block, .ref q2, .int stocking, .ref q3, .int acts, .ref q4, .int keeps, .ref q5, .int hears, .ref q6, .ref q7, .int texted, .int at_, .ref q8, .ref q9, .int readFeetMany, .ref q10, .int readLog, .int readBlock, .ref q11, .int readStocking, .ref q12, .int lefts_, .int rights_, .ref q13, .ref q14, .ref q15, .ref q16, .ref q17])), (q3, .inl (cc 0, 52, .inl st)), (q4, .inl (cc 0, 416, .inl was)), (q12, .inl (cc 0, 52, .inl now_))] H locs := hP
    refine lv_if_ne (tgt := 18) hx hb dX10_go_13 (by decide) (fun c4 => ?_) (fun c4 => ?_)
    · have h := if_f c4 h
      refine lv_aload_n hx hb dX10_go_18 rfl (lv_at hl 0 rfl) ?_
      obtain ⟨w5, hu, h⟩ := bnd_h h
      refine kc_v (kV hC (c_X10_asItIs l dC dI cc q0 q1 q2 q3 q4 q5 q6 q7 q8 q9 q10 q11 q12 q13 q14 q15 q16 q17 feetMany log_ block stocking acts keeps hears texted at_ readFeetMany readLog readBlock readStocking lefts_ rights_ st now_ H.size w5 hu) cv_X10_191 kw979 rfl rfl ⟨(Nat.le_of_ble_eq_true rfl), (Nat.le_of_ble_eq_true rfl)⟩ hP [0, 1, 3] rfl rfl rfl (q0 := 0) rfl (As := []) (rest := []) rfl rfl hl.1 (Nat.le_of_ble_eq_true rfl) dX10_go_19 ⟨Nat.zero_le _, Nat.zero_le _⟩) hP hA [0, 1, 3] rfl rfl (fun H locs hP => ?_)
      have hP : PD (dC, dI) A s.heap [(q0, .inr (10, [.int feetMany, .ref q1, .int log_, .int block, .ref q2, .int stocking, .ref q3, .int acts, .ref q4, .int keeps, .ref q5, .int hears, .ref q6, .ref q7, .int texted, .int at_, .ref q8, .ref q9, .int readFeetMany, .ref q10, .int readLog, .int readBlock, .ref q11, .int readStocking, .ref q12, .int lefts_, .int rights_, .ref q13, .ref q14, .ref q15, .ref q16, .ref q17])), (q3, .inl (cc 0, 52, .inl st)), (q4, .inl (cc 0, 416, .inl was)), (q12, .inl (cc 0, 52, .inl w5))] H locs := hP
      refine lv_aload_n hx hb dX10_go_22 rfl (lv_at hl 0 rfl) ?_
      refine lv_iload_n hx hb dX10_go_23 rfl (lv_at hl 1 rfl) ?_
      obtain ⟨r6, hu, h⟩ := bnd_h h
      refine kc_i (kV hC (c_X10_sideOf l dC dI cc q0 q1 q2 q3 q4 q5 q6 q7 q8 q9 q10 q11 q12 q13 q14 q15 q16 q17 feetMany log_ block stocking acts keeps hears texted at_ readFeetMany readLog readBlock readStocking lefts_ rights_ w5 x1 H.size r6 hu) cv_X10_175 kw987 rfl rfl ⟨(Nat.le_of_ble_eq_true rfl), (Nat.le_of_ble_eq_true rfl)⟩ hP [0, 3] rfl rfl rfl (q0 := 0) rfl (As := [.int x1]) (rest := []) rfl rfl hl.1 (Nat.le_of_ble_eq_true rfl) dX10_go_24 ⟨Nat.zero_le _, Nat.zero_le _⟩) hP hA [0, 3] rfl rfl (fun H locs hP => ?_)
      have hP : PD (dC, dI) A s.heap [(q0, .inr (10, [.int feetMany, .ref q1, .int log_, .int block, .ref q2, .int stocking, .ref q3, .int acts, .ref q4, .int keeps, .ref q5, .int hears, .ref q6, .ref q7, .int texted, .int at_, .ref q8, .ref q9, .int readFeetMany, .ref q10, .int readLog, .int readBlock, .ref q11, .int readStocking, .ref q12, .int lefts_, .int rights_, .ref q13, .ref q14, .ref q15, .ref q16, .ref q17])), (q3, .inl (cc 0, 52, .inl st)), (q4, .inl (cc 0, 416, .inl was)), (q12, .inl (cc 0, 52, .inl w5))] H locs := hP
      refine lv_if_ne (tgt := 39) hx hb dX10_go_27 (by decide) (fun c7 => ?_) (fun c7 => ?_)
      · have h := if_f c7 h
        refine lv_bipush (v := -2) hx hb dX10_go_39 (by decide) ?_
        exact ret_i hC hr hlk hP dX10_go_41 (st, acts, was, w5) (Prod.mk.inj (Option.some.inj h)) rfl
      · have h := if_t c7 h
        refine lv_aload_n hx hb dX10_go_30 rfl (lv_at hl 0 rfl) ?_
        refine lv_iload_n hx hb dX10_go_31 rfl (lv_at hl 1 rfl) ?_
        refine lv_iload_n hx hb dX10_go_32 rfl (lv_at hl 2 rfl) ?_
        obtain ⟨r8, hu, h⟩ := bnd_h h
        refine kc_z (kV hC (c_X10_areAlike l dC dI cc q0 q1 q2 q3 q4 q5 q6 q7 q8 q9 q10 q11 q12 q13 q14 q15 q16 q17 feetMany log_ block stocking acts keeps hears texted at_ readFeetMany readLog readBlock readStocking lefts_ rights_ w5 x1 x2 H.size r8 hu) cv_X10_197 kw1023 rfl rfl ⟨(Nat.le_of_ble_eq_true rfl), (Nat.le_of_ble_eq_true rfl)⟩ hP [0, 3] rfl rfl rfl (q0 := 0) rfl (As := [.int x1, .int x2]) (rest := []) rfl rfl hl.1 (Nat.le_of_ble_eq_true rfl) dX10_go_33 ⟨Nat.zero_le _, Nat.zero_le _⟩) hP hA [0, 3] rfl rfl (fun hz_r8 H locs hP => ?_)
        have hP : PD (dC, dI) A s.heap [(q0, .inr (10, [.int feetMany, .ref q1, .int log_, .int block, .ref q2, .int stocking, .ref q3, .int acts, .ref q4, .int keeps, .ref q5, .int hears, .ref q6, .ref q7, .int texted, .int at_, .ref q8, .ref q9, .int readFeetMany, .ref q10, .int readLog, .int readBlock, .ref q11, .int readStocking, .ref q12, .int lefts_, .int rights_, .ref q13, .ref q14, .ref q15, .ref q16, .ref q17])), (q3, .inl (cc 0, 52, .inl st)), (q4, .inl (cc 0, 416, .inl was)), (q12, .inl (cc 0, 52, .inl w5))] H locs := hP
        refine lv_if_ne (tgt := 42) hx hb dX10_go_36 (by decide) (fun c9 => ?_) (fun c9 => ?_)
        · have h := if_f c9 h
          refine lv_aload_n hx hb dX10_go_42 rfl (lv_at hl 0 rfl) ?_
          obtain ⟨⟨w10, w11⟩, hu, h⟩ := bnd_h h
          refine kc_v (kV hC (c_X10_remembers l dC dI cc q0 q1 q2 q3 q4 q5 q6 q7 q8 q9 q10 q11 q12 q13 q14 q15 q16 q17 feetMany log_ block stocking acts keeps hears texted at_ readFeetMany readLog readBlock readStocking lefts_ rights_ st was H.size w10 w11 hu) cv_X10_194 kw1011 rfl rfl ⟨(Nat.le_of_ble_eq_true rfl), (Nat.le_of_ble_eq_true rfl)⟩ hP [0, 1, 2] rfl rfl rfl (q0 := 0) rfl (As := []) (rest := []) rfl rfl hl.1 (Nat.le_of_ble_eq_true rfl) dX10_go_43 ⟨Nat.zero_le _, Nat.zero_le _⟩) hP hA [0, 1, 2] rfl rfl (fun H locs hP => ?_)
          have hP : PD (dC, dI) A s.heap [(q0, .inr (10, [.int feetMany, .ref q1, .int log_, .int block, .ref q2, .int stocking, .ref q3, .int w10, .ref q4, .int keeps, .ref q5, .int hears, .ref q6, .ref q7, .int texted, .int at_, .ref q8, .ref q9, .int readFeetMany, .ref q10, .int readLog, .int readBlock, .ref q11, .int readStocking, .ref q12, .int lefts_, .int rights_, .ref q13, .ref q14, .ref q15, .ref q16, .ref q17])), (q3, .inl (cc 0, 52, .inl st)), (q4, .inl (cc 0, 416, .inl w11)), (q12, .inl (cc 0, 52, .inl w5))] H locs := hP
          refine lv_aload_n hx hb dX10_go_46 rfl (lv_at hl 0 rfl) ?_
          refine g_get hC hP fg_X10_17 0 rfl rfl dX10_go_47 ?_
          refine lv_iload_n hx hb dX10_go_50 rfl (lv_at hl 1 rfl) ?_
          refine lv_iload_n hx hb dX10_go_51 rfl (lv_at hl 2 rfl) ?_
          refine lv_icmp_le (tgt := 59) hx hb dX10_go_52 (by decide) (fun c12 => ?_) (fun c12 => ?_)
          · have h := if_t c12 h
            refine lv_iload_n hx hb dX10_go_59 rfl (lv_at hl 2 rfl) ?_
            obtain ⟨w13, hu, h⟩ := bnd_h h
            refine kc_v (kS hC (c_X10_leaves l dC dI cc q3 52 st x2 H.size w13 hu) cs_X10_201 kw1029 rfl rfl ⟨(Nat.le_of_ble_eq_true rfl), (Nat.le_of_ble_eq_true rfl)⟩ hP [1] rfl rfl (As := [.ref q3, .int x2]) (rest := []) rfl rfl hl.1 (Nat.le_of_ble_eq_true rfl) dX10_go_60 ⟨Nat.zero_le _, Nat.zero_le _⟩) hP hA [1] rfl rfl (fun H locs hP => ?_)
            have hP : PD (dC, dI) A s.heap [(q0, .inr (10, [.int feetMany, .ref q1, .int log_, .int block, .ref q2, .int stocking, .ref q3, .int w10, .ref q4, .int keeps, .ref q5, .int hears, .ref q6, .ref q7, .int texted, .int at_, .ref q8, .ref q9, .int readFeetMany, .ref q10, .int readLog, .int readBlock, .ref q11, .int readStocking, .ref q12, .int lefts_, .int rights_, .ref q13, .ref q14, .ref q15, .ref q16, .ref q17])), (q3, .inl (cc 0, 52, .inl w13)), (q4, .inl (cc 0, 416, .inl w11)), (q12, .inl (cc 0, 52, .inl w5))] H locs := hP
            refine lv_aload_n hx hb dX10_go_63 rfl (lv_at hl 0 rfl) ?_
            refine g_get hC hP fg_X10_17 0 rfl rfl dX10_go_64 ?_
            refine lv_iload_n hx hb dX10_go_67 rfl (lv_at hl 1 rfl) ?_
            refine lv_iload_n hx hb dX10_go_68 rfl (lv_at hl 2 rfl) ?_
            refine lv_icmp_le (tgt := 76) hx hb dX10_go_69 (by decide) (fun c14 => ?_) (fun c14 => ?_)
            · have h := if_t c14 h
              refine lv_iload_n hx hb dX10_go_76 rfl (lv_at hl 1 rfl) ?_
              obtain ⟨w15, hu, h⟩ := bnd_h h
              refine kc_v (kS hC (c_X10_leaves l dC dI cc q3 52 w13 x1 H.size w15 hu) cs_X10_201 kw1029 rfl rfl ⟨(Nat.le_of_ble_eq_true rfl), (Nat.le_of_ble_eq_true rfl)⟩ hP [1] rfl rfl (As := [.ref q3, .int x1]) (rest := []) rfl rfl hl.1 (Nat.le_of_ble_eq_true rfl) dX10_go_77 ⟨Nat.zero_le _, Nat.zero_le _⟩) hP hA [1] rfl rfl (fun H locs hP => ?_)
              have hP : PD (dC, dI) A s.heap [(q0, .inr (10, [.int feetMany, .ref q1, .int log_, .int block, .ref q2, .int stocking, .ref q3, .int w10, .ref q4, .int keeps, .ref q5, .int hears, .ref q6, .ref q7, .int texted, .int at_, .ref q8, .ref q9, .int readFeetMany, .ref q10, .int readLog, .int readBlock, .ref q11, .int readStocking, .ref q12, .int lefts_, .int rights_, .ref q13, .ref q14, .ref q15, .ref q16, .ref q17])), (q3, .inl (cc 0, 52, .inl w15)), (q4, .inl (cc 0, 416, .inl w11)), (q12, .inl (cc 0, 52, .inl w5))] H locs := hP
              refine lv_aload_n hx hb dX10_go_80 rfl (lv_at hl 0 rfl) ?_
              refine g_get hC hP fg_X10_17 0 rfl rfl dX10_go_81 ?_
              refine lv_iconst (v := 1) hx hb dX10_go_84 (by decide) ?_
              obtain ⟨hin, h⟩ := rd_h h
              refine g_iald hC hP 1 0 rfl rfl hin dX10_go_85 (fun v16 ev => ?_)
              have h := h v16 ev
              exact ret_i hC hr hlk hP dX10_go_86 (w15, w10, w11, w5) (Prod.mk.inj (Option.some.inj h)) rfl
            · have h := if_f c14 h
              refine lv_iload_n hx hb dX10_go_72 rfl (lv_at hl 2 rfl) ?_
              refine lv_goto (tgt := 77) hx hb dX10_go_73 (by decide) ?_
              obtain ⟨w17, hu, h⟩ := bnd_h h
              refine kc_v (kS hC (c_X10_leaves l dC dI cc q3 52 w13 x2 H.size w17 hu) cs_X10_201 kw1029 rfl rfl ⟨(Nat.le_of_ble_eq_true rfl), (Nat.le_of_ble_eq_true rfl)⟩ hP [1] rfl rfl (As := [.ref q3, .int x2]) (rest := []) rfl rfl hl.1 (Nat.le_of_ble_eq_true rfl) dX10_go_77 ⟨Nat.zero_le _, Nat.zero_le _⟩) hP hA [1] rfl rfl (fun H locs hP => ?_)
              have hP : PD (dC, dI) A s.heap [(q0, .inr (10, [.int feetMany, .ref q1, .int log_, .int block, .ref q2, .int stocking, .ref q3, .int w10, .ref q4, .int keeps, .ref q5, .int hears, .ref q6, .ref q7, .int texted, .int at_, .ref q8, .ref q9, .int readFeetMany, .ref q10, .int readLog, .int readBlock, .ref q11, .int readStocking, .ref q12, .int lefts_, .int rights_, .ref q13, .ref q14, .ref q15, .ref q16, .ref q17])), (q3, .inl (cc 0, 52, .inl w17)), (q4, .inl (cc 0, 416, .inl w11)), (q12, .inl (cc 0, 52, .inl w5))] H locs := hP
              refine lv_aload_n hx hb dX10_go_80 rfl (lv_at hl 0 rfl) ?_
              refine g_get hC hP fg_X10_17 0 rfl rfl dX10_go_81 ?_
              refine lv_iconst (v := 1) hx hb dX10_go_84 (by decide) ?_
              obtain ⟨hin, h⟩ := rd_h h
              refine g_iald hC hP 1 0 rfl rfl hin dX10_go_85 (fun v18 ev => ?_)
              have h := h v18 ev
              exact ret_i hC hr hlk hP dX10_go_86 (w17, w10, w11, w5) (Prod.mk.inj (Option.some.inj h)) rfl
          · have h := if_f c12 h
            refine lv_iload_n hx hb dX10_go_55 rfl (lv_at hl 1 rfl) ?_
            refine lv_goto (tgt := 60) hx hb dX10_go_56 (by decide) ?_
            obtain ⟨w19, hu, h⟩ := bnd_h h
            refine kc_v (kS hC (c_X10_leaves l dC dI cc q3 52 st x1 H.size w19 hu) cs_X10_201 kw1029 rfl rfl ⟨(Nat.le_of_ble_eq_true rfl), (Nat.le_of_ble_eq_true rfl)⟩ hP [1] rfl rfl (As := [.ref q3, .int x1]) (rest := []) rfl rfl hl.1 (Nat.le_of_ble_eq_true rfl) dX10_go_60 ⟨Nat.zero_le _, Nat.zero_le _⟩) hP hA [1] rfl rfl (fun H locs hP => ?_)
            have hP : PD (dC, dI) A s.heap [(q0, .inr (10, [.int feetMany, .ref q1, .int log_, .int block, .ref q2, .int stocking, .ref q3, .int w10, .ref q4, .int keeps, .ref q5, .int hears, .ref q6, .ref q7, .int texted, .int at_, .ref q8, .ref q9, .int readFeetMany, .ref q10, .int readLog, .int readBlock, .ref q11, .int readStocking, .ref q12, .int lefts_, .int rights_, .ref q13, .ref q14, .ref q15, .ref q16, .ref q17])), (q3, .inl (cc 0, 52, .inl w19)), (q4, .inl (cc 0, 416, .inl w11)), (q12, .inl (cc 0, 52, .inl w5))] H locs := hP
            refine lv_aload_n hx hb dX10_go_63 rfl (lv_at hl 0 rfl) ?_
            refine g_get hC hP fg_X10_17 0 rfl rfl dX10_go_64 ?_
            refine lv_iload_n hx hb dX10_go_67 rfl (lv_at hl 1 rfl) ?_
            refine lv_iload_n hx hb dX10_go_68 rfl (lv_at hl 2 rfl) ?_
            refine lv_icmp_le (tgt := 76) hx hb dX10_go_69 (by decide) (fun c20 => ?_) (fun c20 => ?_)
            · have h := if_t c20 h
              refine lv_iload_n hx hb dX10_go_76 rfl (lv_at hl 1 rfl) ?_
              obtain ⟨w21, hu, h⟩ := bnd_h h
              refine kc_v (kS hC (c_X10_leaves l dC dI cc q3 52 w19 x1 H.size w21 hu) cs_X10_201 kw1029 rfl rfl ⟨(Nat.le_of_ble_eq_true rfl), (Nat.le_of_ble_eq_true rfl)⟩ hP [1] rfl rfl (As := [.ref q3, .int x1]) (rest := []) rfl rfl hl.1 (Nat.le_of_ble_eq_true rfl) dX10_go_77 ⟨Nat.zero_le _, Nat.zero_le _⟩) hP hA [1] rfl rfl (fun H locs hP => ?_)
              have hP : PD (dC, dI) A s.heap [(q0, .inr (10, [.int feetMany, .ref q1, .int log_, .int block, .ref q2, .int stocking, .ref q3, .int w10, .ref q4, .int keeps, .ref q5, .int hears, .ref q6, .ref q7, .int texted, .int at_, .ref q8, .ref q9, .int readFeetMany, .ref q10, .int readLog, .int readBlock, .ref q11, .int readStocking, .ref q12, .int lefts_, .int rights_, .ref q13, .ref q14, .ref q15, .ref q16, .ref q17])), (q3, .inl (cc 0, 52, .inl w21)), (q4, .inl (cc 0, 416, .inl w11)), (q12, .inl (cc 0, 52, .inl w5))] H locs := hP
              refine lv_aload_n hx hb dX10_go_80 rfl (lv_at hl 0 rfl) ?_
              refine g_get hC hP fg_X10_17 0 rfl rfl dX10_go_81 ?_
              refine lv_iconst (v := 1) hx hb dX10_go_84 (by decide) ?_
              obtain ⟨hin, h⟩ := rd_h h
              refine g_iald hC hP 1 0 rfl rfl hin dX10_go_85 (fun v22 ev => ?_)
              have h := h v22 ev
              exact ret_i hC hr hlk hP dX10_go_86 (w21, w10, w11, w5) (Prod.mk.inj (Option.some.inj h)) rfl
            · have h := if_f c20 h
              refine lv_iload_n hx hb dX10_go_72 rfl (lv_at hl 2 rfl) ?_
              refine lv_goto (tgt := 77) hx hb dX10_go_73 (by decide) ?_
              obtain ⟨w23, hu, h⟩ := bnd_h h
              refine kc_v (kS hC (c_X10_leaves l dC dI cc q3 52 w19 x2 H.size w23 hu) cs_X10_201 kw1029 rfl rfl ⟨(Nat.le_of_ble_eq_true rfl), (Nat.le_of_ble_eq_true rfl)⟩ hP [1] rfl rfl (As := [.ref q3, .int x2]) (rest := []) rfl rfl hl.1 (Nat.le_of_ble_eq_true rfl) dX10_go_77 ⟨Nat.zero_le _, Nat.zero_le _⟩) hP hA [1] rfl rfl (fun H locs hP => ?_)
              have hP : PD (dC, dI) A s.heap [(q0, .inr (10, [.int feetMany, .ref q1, .int log_, .int block, .ref q2, .int stocking, .ref q3, .int w10, .ref q4, .int keeps, .ref q5, .int hears, .ref q6, .ref q7, .int texted, .int at_, .ref q8, .ref q9, .int readFeetMany, .ref q10, .int readLog, .int readBlock, .ref q11, .int readStocking, .ref q12, .int lefts_, .int rights_, .ref q13, .ref q14, .ref q15, .ref q16, .ref q17])), (q3, .inl (cc 0, 52, .inl w23)), (q4, .inl (cc 0, 416, .inl w11)), (q12, .inl (cc 0, 52, .inl w5))] H locs := hP
              refine lv_aload_n hx hb dX10_go_80 rfl (lv_at hl 0 rfl) ?_
              refine g_get hC hP fg_X10_17 0 rfl rfl dX10_go_81 ?_
              refine lv_iconst (v := 1) hx hb dX10_go_84 (by decide) ?_
              obtain ⟨hin, h⟩ := rd_h h
              refine g_iald hC hP 1 0 rfl rfl hin dX10_go_85 (fun v24 ev => ?_)
              have h := h v24 ev
              exact ret_i hC hr hlk hP dX10_go_86 (w23, w10, w11, w5) (Prod.mk.inj (Option.some.inj h)) rfl
        · have h := if_t c9 h
          refine lv_bipush (v := -2) hx hb dX10_go_39 (by decide) ?_
          exact ret_i hC hr hlk hP dX10_go_41 (st, acts, was, w5) (Prod.mk.inj (Option.some.inj h)) rfl
    · have h := if_t c4 h
      refine lv_iconst (v := -1) hx hb dX10_go_16 (by decide) ?_
      exact ret_i hC hr hlk hP dX10_go_17 (st, acts, was, now_) (Prod.mk.inj (Option.some.inj h)) rfl
set_option maxHeartbeats 8000000 in
set_option maxRecDepth 100000 in
theorem c_X10_hole (l : Launch) (dC : Nat → ClassId) (dI : Nat → Nat → Nat) (cc : Nat → ClassId) (q0 q1 q2 q3 q4 q5 q6 q7 q8 q9 q10 q11 q12 q13 q14 q15 q16 q17 : Nat) (feetMany : Int32) (log_ : Int32) (block : Int32) (stocking : Int32) (acts : Int32) (keeps : Int32) (hears : Int32) (texted : Int32) (at_ : Int32) (readFeetMany : Int32) (readLog : Int32) (readBlock : Int32) (readStocking : Int32) (lefts_ : Int32) (rights_ : Int32) (st : (Nat → Int32)) (was : (Nat → Int32)) (x1 : Int32) (sz : Nat) (ret : Int32) (o_st : (Nat → Int32)) (o_acts : Int32) (o_was : (Nat → Int32)) (hu : f_X10_hole x1 acts st was = some (ret, o_st, o_acts, o_was)) : Met l yX10_hole (mw yX10_hole cX10_hole 3 (some .int)) ({ frames := 2, cells := 0, slots := 0, locals := 46 } : Room) (va_Pc [.ref q0, .int x1] (mP (dC, dI) (ts cc) sz [(q0, .inr (10, [.int feetMany, .ref q1, .int log_, .int block, .ref q2, .int stocking, .ref q3, .int acts, .ref q4, .int keeps, .ref q5, .int hears, .ref q6, .ref q7, .int texted, .int at_, .ref q8, .ref q9, .int readFeetMany, .ref q10, .int readLog, .int readBlock, .ref q11, .int readStocking, .ref q12, .int lefts_, .int rights_, .ref q13, .ref q14, .ref q15, .ref q16, .ref q17])), (q3, .inl (cc 0, 52, .inl st)), (q4, .inl (cc 0, 416, .inl was))])) ((fun A => va_Qi (fun (r : Int32) (w : (Nat → Int32) × Int32 × (Nat → Int32)) => r = ret ∧ w = (o_st, o_acts, o_was)) (fun (w : (Nat → Int32) × Int32 × (Nat → Int32)) t => va_P (dC, dI) classes [(q0, .inr (10, [.int feetMany, .ref q1, .int log_, .int block, .ref q2, .int stocking, .ref q3, .int w.2.1, .ref q4, .int keeps, .ref q5, .int hears, .ref q6, .ref q7, .int texted, .int at_, .ref q8, .ref q9, .int readFeetMany, .ref q10, .int readLog, .int readBlock, .ref q11, .int readStocking, .ref q12, .int lefts_, .int rights_, .ref q13, .ref q14, .ref q15, .ref q16, .ref q17])), (q3, .inl (cc 0, 52, .inl w.1)), (q4, .inl (cc 0, 416, .inl w.2.2))] t.heap) A) (va_A [(q0, .inr (10, [.int feetMany, .ref q1, .int log_, .int block, .ref q2, .int stocking, .ref q3, .int acts, .ref q4, .int keeps, .ref q5, .int hears, .ref q6, .ref q7, .int texted, .int at_, .ref q8, .ref q9, .int readFeetMany, .ref q10, .int readLog, .int readBlock, .ref q11, .int readStocking, .ref q12, .int lefts_, .int rights_, .ref q13, .ref q14, .ref q15, .ref q16, .ref q17])), (q3, .inl (cc 0, 52, .inl st)), (q4, .inl (cc 0, 416, .inl was))] sz)) 0 0 (va_A [(q0, .inr (10, [.int feetMany, .ref q1, .int log_, .int block, .ref q2, .int stocking, .ref q3, .int acts, .ref q4, .int keeps, .ref q5, .int hears, .ref q6, .ref q7, .int texted, .int at_, .ref q8, .ref q9, .int readFeetMany, .ref q10, .int readLog, .int readBlock, .ref q11, .int readStocking, .ref q12, .int lefts_, .int rights_, .ref q13, .ref q14, .ref q15, .ref q16, .ref q17])), (q3, .inl (cc 0, 52, .inl st)), (q4, .inl (cc 0, 416, .inl was))] sz) := by
  refine met_go (Qc := fun A => va_Qi (fun (r : Int32) (w : (Nat → Int32) × Int32 × (Nat → Int32)) => r = ret ∧ w = (o_st, o_acts, o_was)) (fun (w : (Nat → Int32) × Int32 × (Nat → Int32)) t => va_P (dC, dI) classes [(q0, .inr (10, [.int feetMany, .ref q1, .int log_, .int block, .ref q2, .int stocking, .ref q3, .int w.2.1, .ref q4, .int keeps, .ref q5, .int hears, .ref q6, .ref q7, .int texted, .int at_, .ref q8, .ref q9, .int readFeetMany, .ref q10, .int readLog, .int readBlock, .ref q11, .int readStocking, .ref q12, .int lefts_, .int rights_, .ref q13, .ref q14, .ref q15, .ref q16, .ref q17])), (q3, .inl (cc 0, 52, .inl w.1)), (q4, .inl (cc 0, 416, .inl w.2.2))] t.heap) A) (by decide) (Nat.le_of_ble_eq_true rfl) ?_
  intro p e s m below meth c A ls H locs hC hr hlk hin hA hP hl _
  have hC : CX p m c cX10_hole 3 s ([.ref q0, .int x1] : List Value).toArray RX10 (dC, dI) (ts cc) := hC
  have hx := hC.1.1
  have hb := hC.1.2
  have h := hu
  have hu0 := hu
  unfold f_X10_hole at h
  have hl : lv_has ls 3 [(0, .ref q0), (1, .int x1)] := hl
  refine lv_aload_n hx hb dX10_hole_0 rfl (lv_at hl 0 rfl) ?_
  refine lv_iload_n hx hb dX10_hole_1 rfl (lv_at hl 1 rfl) ?_
  obtain ⟨r1, hu, h⟩ := bnd_h h
  refine kc_z (kV hC (c_X10_isClog l dC dI cc q0 q1 q2 q3 q4 q5 q6 q7 q8 q9 q10 q11 q12 q13 q14 q15 q16 q17 feetMany log_ block stocking acts keeps hears texted at_ readFeetMany readLog readBlock readStocking lefts_ rights_ st x1 H.size r1 hu) cv_X10_188 kw975 rfl rfl ⟨(Nat.le_of_ble_eq_true rfl), (Nat.le_of_ble_eq_true rfl)⟩ hP [0, 1] rfl rfl rfl (q0 := 0) rfl (As := [.int x1]) (rest := []) rfl rfl hl.1 (Nat.le_of_ble_eq_true rfl) dX10_hole_2 ⟨Nat.zero_le _, Nat.zero_le _⟩) hP hA [0, 1] rfl rfl (fun hz_r1 H locs hP => ?_)
  have hP : PD (dC, dI) A s.heap [(q0, .inr (10, [.int feetMany, .ref q1, .int log_, .int block, .ref q2, .int stocking, .ref q3, .int acts, .ref q4, .int keeps, .ref q5, .int hears, .ref q6, .ref q7, .int texted, .int at_, .ref q8, .ref q9, .int readFeetMany, .ref q10, .int readLog, .int readBlock, .ref q11, .int readStocking, .ref q12, .int lefts_, .int rights_, .ref q13, .ref q14, .ref q15, .ref q16, .ref q17])), (q3, .inl (cc 0, 52, .inl st)), (q4, .inl (cc 0, 416, .inl was))] H locs := hP
  refine lv_if_ne (tgt := 10) hx hb dX10_hole_5 (by decide) (fun c2 => ?_) (fun c2 => ?_)
  · have h := if_f c2 h
    refine lv_aload_n hx hb dX10_hole_10 rfl (lv_at hl 0 rfl) ?_
    refine g_get hC hP fg_X10_17 0 rfl rfl dX10_hole_11 ?_
    refine lv_iconst (v := 2) hx hb dX10_hole_14 (by decide) ?_
    refine lv_iconst (v := 5) hx hb dX10_hole_15 (by decide) ?_
    refine lv_iload_n hx hb dX10_hole_16 rfl (lv_at hl 1 rfl) ?_
    refine lv_imul hx hb dX10_hole_17 ?_
    refine lv_iadd hx hb dX10_hole_18 ?_
    obtain ⟨hin, h⟩ := rd_h h
    refine g_iald hC hP 1 0 rfl rfl hin dX10_hole_19 (fun v3 ev => ?_)
    have h := h v3 ev
    refine lv_istore_n (lv' := [(2, .int v3), (0, .ref q0), (1, .int x1)]) hx hb dX10_hole_20 rfl hl (by decide) rfl (fun ls hl => ?_)
    refine lv_iload_n hx hb dX10_hole_21 rfl (lv_at hl 0 rfl) ?_
    refine lv_iconst (v := 2) hx hb dX10_hole_22 (by decide) ?_
    refine lv_icmp_ne (tgt := 29) hx hb dX10_hole_23 (by decide) (fun c4 => ?_) (fun c4 => ?_)
    · have h := if_f c4 h
      refine lv_aload_n hx hb dX10_hole_29 rfl (lv_at hl 1 rfl) ?_
      obtain ⟨⟨w5, w6⟩, hu, h⟩ := bnd_h h
      refine kc_v (kV hC (c_X10_remembers l dC dI cc q0 q1 q2 q3 q4 q5 q6 q7 q8 q9 q10 q11 q12 q13 q14 q15 q16 q17 feetMany log_ block stocking acts keeps hears texted at_ readFeetMany readLog readBlock readStocking lefts_ rights_ st was H.size w5 w6 hu) cv_X10_194 kw1011 rfl rfl ⟨(Nat.le_of_ble_eq_true rfl), (Nat.le_of_ble_eq_true rfl)⟩ hP [0, 1, 2] rfl rfl rfl (q0 := 0) rfl (As := []) (rest := []) rfl rfl hl.1 (Nat.le_of_ble_eq_true rfl) dX10_hole_30 ⟨Nat.zero_le _, Nat.zero_le _⟩) hP hA [0, 1, 2] rfl rfl (fun H locs hP => ?_)
      have hP : PD (dC, dI) A s.heap [(q0, .inr (10, [.int feetMany, .ref q1, .int log_, .int block, .ref q2, .int stocking, .ref q3, .int w5, .ref q4, .int keeps, .ref q5, .int hears, .ref q6, .ref q7, .int texted, .int at_, .ref q8, .ref q9, .int readFeetMany, .ref q10, .int readLog, .int readBlock, .ref q11, .int readStocking, .ref q12, .int lefts_, .int rights_, .ref q13, .ref q14, .ref q15, .ref q16, .ref q17])), (q3, .inl (cc 0, 52, .inl st)), (q4, .inl (cc 0, 416, .inl w6))] H locs := hP
      refine lv_aload_n hx hb dX10_hole_33 rfl (lv_at hl 1 rfl) ?_
      refine g_get hC hP fg_X10_17 0 rfl rfl dX10_hole_34 ?_
      refine lv_iconst (v := 2) hx hb dX10_hole_37 (by decide) ?_
      refine lv_iconst (v := 5) hx hb dX10_hole_38 (by decide) ?_
      refine lv_iload_n hx hb dX10_hole_39 rfl (lv_at hl 2 rfl) ?_
      refine lv_imul hx hb dX10_hole_40 ?_
      refine lv_iadd hx hb dX10_hole_41 ?_
      refine lv_iconst (v := 2) hx hb dX10_hole_42 (by decide) ?_
      obtain ⟨hin, h⟩ := wr_h h
      refine g_iast hC hP 1 0 rfl rfl hin dX10_hole_43 (fun a7 ev H locs hP => ?_)
      have hP : PD (dC, dI) A s.heap [(q0, .inr (10, [.int feetMany, .ref q1, .int log_, .int block, .ref q2, .int stocking, .ref q3, .int w5, .ref q4, .int keeps, .ref q5, .int hears, .ref q6, .ref q7, .int texted, .int at_, .ref q8, .ref q9, .int readFeetMany, .ref q10, .int readLog, .int readBlock, .ref q11, .int readStocking, .ref q12, .int lefts_, .int rights_, .ref q13, .ref q14, .ref q15, .ref q16, .ref q17])), (q3, .inl (cc 0, 52, .inl a7)), (q4, .inl (cc 0, 416, .inl w6))] H locs := hP
      have h := h a7 ev
      refine lv_iload_n hx hb dX10_hole_44 rfl (lv_at hl 0 rfl) ?_
      exact ret_i hC hr hlk hP dX10_hole_45 (a7, w5, w6) (Prod.mk.inj (Option.some.inj h)) rfl
    · have h := if_t c4 h
      refine lv_bipush (v := -2) hx hb dX10_hole_26 (by decide) ?_
      exact ret_i hC hr hlk hP dX10_hole_28 (st, acts, was) (Prod.mk.inj (Option.some.inj h)) rfl
  · have h := if_t c2 h
    refine lv_iconst (v := -1) hx hb dX10_hole_8 (by decide) ?_
    exact ret_i hC hr hlk hP dX10_hole_9 (st, acts, was) (Prod.mk.inj (Option.some.inj h)) rfl
set_option maxHeartbeats 8000000 in
set_option maxRecDepth 100000 in
theorem c_X10_undo (l : Launch) (dC : Nat → ClassId) (dI : Nat → Nat → Nat) (cc : Nat → ClassId) (q0 q1 q2 q3 q4 q5 q6 q7 q8 q9 q10 q11 q12 q13 q14 q15 q16 q17 : Nat) (feetMany : Int32) (log_ : Int32) (block : Int32) (stocking : Int32) (acts : Int32) (keeps : Int32) (hears : Int32) (texted : Int32) (at_ : Int32) (readFeetMany : Int32) (readLog : Int32) (readBlock : Int32) (readStocking : Int32) (lefts_ : Int32) (rights_ : Int32) (st : (Nat → Int32)) (was : (Nat → Int32)) (sz : Nat) (ret : Int32) (o_st : (Nat → Int32)) (o_acts : Int32) (hu : f_X10_undo acts st was = some (ret, o_st, o_acts)) : Met l yX10_undo (mw yX10_undo cX10_undo 1 (some .int)) ({ frames := 1, cells := 0, slots := 0, locals := 25 } : Room) (va_Pc [.ref q0] (mP (dC, dI) (ts cc) sz [(q0, .inr (10, [.int feetMany, .ref q1, .int log_, .int block, .ref q2, .int stocking, .ref q3, .int acts, .ref q4, .int keeps, .ref q5, .int hears, .ref q6, .ref q7, .int texted, .int at_, .ref q8, .ref q9, .int readFeetMany, .ref q10, .int readLog, .int readBlock, .ref q11, .int readStocking, .ref q12, .int lefts_, .int rights_, .ref q13, .ref q14, .ref q15, .ref q16, .ref q17])), (q3, .inl (cc 0, 52, .inl st)), (q4, .inl (cc 0, 416, .inl was))])) ((fun A => va_Qi (fun (r : Int32) (w : (Nat → Int32) × Int32) => r = ret ∧ w = (o_st, o_acts)) (fun (w : (Nat → Int32) × Int32) t => va_P (dC, dI) classes [(q0, .inr (10, [.int feetMany, .ref q1, .int log_, .int block, .ref q2, .int stocking, .ref q3, .int w.2, .ref q4, .int keeps, .ref q5, .int hears, .ref q6, .ref q7, .int texted, .int at_, .ref q8, .ref q9, .int readFeetMany, .ref q10, .int readLog, .int readBlock, .ref q11, .int readStocking, .ref q12, .int lefts_, .int rights_, .ref q13, .ref q14, .ref q15, .ref q16, .ref q17])), (q3, .inl (cc 0, 52, .inl w.1)), (q4, .inl (cc 0, 416, .inl was))] t.heap) A) (va_A [(q0, .inr (10, [.int feetMany, .ref q1, .int log_, .int block, .ref q2, .int stocking, .ref q3, .int acts, .ref q4, .int keeps, .ref q5, .int hears, .ref q6, .ref q7, .int texted, .int at_, .ref q8, .ref q9, .int readFeetMany, .ref q10, .int readLog, .int readBlock, .ref q11, .int readStocking, .ref q12, .int lefts_, .int rights_, .ref q13, .ref q14, .ref q15, .ref q16, .ref q17])), (q3, .inl (cc 0, 52, .inl st)), (q4, .inl (cc 0, 416, .inl was))] sz)) 0 0 (va_A [(q0, .inr (10, [.int feetMany, .ref q1, .int log_, .int block, .ref q2, .int stocking, .ref q3, .int acts, .ref q4, .int keeps, .ref q5, .int hears, .ref q6, .ref q7, .int texted, .int at_, .ref q8, .ref q9, .int readFeetMany, .ref q10, .int readLog, .int readBlock, .ref q11, .int readStocking, .ref q12, .int lefts_, .int rights_, .ref q13, .ref q14, .ref q15, .ref q16, .ref q17])), (q3, .inl (cc 0, 52, .inl st)), (q4, .inl (cc 0, 416, .inl was))] sz) := by
  refine met_go (Qc := fun A => va_Qi (fun (r : Int32) (w : (Nat → Int32) × Int32) => r = ret ∧ w = (o_st, o_acts)) (fun (w : (Nat → Int32) × Int32) t => va_P (dC, dI) classes [(q0, .inr (10, [.int feetMany, .ref q1, .int log_, .int block, .ref q2, .int stocking, .ref q3, .int w.2, .ref q4, .int keeps, .ref q5, .int hears, .ref q6, .ref q7, .int texted, .int at_, .ref q8, .ref q9, .int readFeetMany, .ref q10, .int readLog, .int readBlock, .ref q11, .int readStocking, .ref q12, .int lefts_, .int rights_, .ref q13, .ref q14, .ref q15, .ref q16, .ref q17])), (q3, .inl (cc 0, 52, .inl w.1)), (q4, .inl (cc 0, 416, .inl was))] t.heap) A) (by decide) (Nat.le_of_ble_eq_true rfl) ?_
  intro p e s m below meth c A ls H locs hC hr hlk hin hA hP hl _
  have hC : CX p m c cX10_undo 1 s ([.ref q0] : List Value).toArray RX10 (dC, dI) (ts cc) := hC
  have hx := hC.1.1
  have hb := hC.1.2
  have h := hu
  have hu0 := hu
  unfold f_X10_undo at h
  have hl : lv_has ls 1 [(0, .ref q0)] := hl
  refine lv_aload_n hx hb dX10_undo_0 rfl (lv_at hl 0 rfl) ?_
  refine g_get hC hP fg_X10_160 0 rfl rfl dX10_undo_1 ?_
  refine lv_if_ne (tgt := 10) hx hb dX10_undo_4 (by decide) (fun c1 => ?_) (fun c1 => ?_)
  · have h := if_f c1 h
    refine lv_aload_n hx hb dX10_undo_10 rfl (lv_at hl 0 rfl) ?_
    refine lv_dup hx hb dX10_undo_11 rfl ?_
    refine g_get hC hP fg_X10_160 0 rfl rfl dX10_undo_12 ?_
    refine lv_iconst (v := 1) hx hb dX10_undo_15 (by decide) ?_
    refine lv_isub hx hb dX10_undo_16 ?_
    refine g_put hC hP fg_X10_160 0 rfl rfl rfl (Nat.le_of_ble_eq_true rfl) dX10_undo_17 (fun H locs hP => ?_)
    have hP : PD (dC, dI) A s.heap [(q0, .inr (10, [.int feetMany, .ref q1, .int log_, .int block, .ref q2, .int stocking, .ref q3, .int (acts - 1), .ref q4, .int keeps, .ref q5, .int hears, .ref q6, .ref q7, .int texted, .int at_, .ref q8, .ref q9, .int readFeetMany, .ref q10, .int readLog, .int readBlock, .ref q11, .int readStocking, .ref q12, .int lefts_, .int rights_, .ref q13, .ref q14, .ref q15, .ref q16, .ref q17])), (q3, .inl (cc 0, 52, .inl st)), (q4, .inl (cc 0, 416, .inl was))] H locs := hP
    refine lv_aload_n hx hb dX10_undo_20 rfl (lv_at hl 0 rfl) ?_
    refine g_get hC hP fg_X10_17 0 rfl rfl dX10_undo_21 ?_
    refine lv_iconst (v := 0) hx hb dX10_undo_24 (by decide) ?_
    refine lv_aload_n hx hb dX10_undo_25 rfl (lv_at hl 0 rfl) ?_
    refine g_get hC hP fg_X10_20 0 rfl rfl dX10_undo_26 ?_
    refine lv_bipush (v := 52) hx hb dX10_undo_29 (by decide) ?_
    refine lv_aload_n hx hb dX10_undo_31 rfl (lv_at hl 0 rfl) ?_
    refine g_get hC hP fg_X10_160 0 rfl rfl dX10_undo_32 ?_
    refine lv_imul hx hb dX10_undo_35 ?_
    refine lv_bipush (v := 52) hx hb dX10_undo_36 (by decide) ?_
    obtain ⟨w2, hu, h⟩ := bnd_h h
    refine kc_v (kS hC (c_X10_copies l dC dI cc q3 q4 52 416 st was 0 (52 * (acts - 1)) 52 H.size w2 hu) cs_X10_144 kw807 rfl rfl ⟨(Nat.le_of_ble_eq_true rfl), (Nat.le_of_ble_eq_true rfl)⟩ hP [1, 2] rfl rfl (As := [.ref q3, .int 0, .ref q4, .int (52 * (acts - 1)), .int 52]) (rest := []) rfl rfl hl.1 (Nat.le_of_ble_eq_true rfl) dX10_undo_38 ⟨Nat.zero_le _, Nat.zero_le _⟩) hP hA [1, 2] rfl rfl (fun H locs hP => ?_)
    have hP : PD (dC, dI) A s.heap [(q0, .inr (10, [.int feetMany, .ref q1, .int log_, .int block, .ref q2, .int stocking, .ref q3, .int (acts - 1), .ref q4, .int keeps, .ref q5, .int hears, .ref q6, .ref q7, .int texted, .int at_, .ref q8, .ref q9, .int readFeetMany, .ref q10, .int readLog, .int readBlock, .ref q11, .int readStocking, .ref q12, .int lefts_, .int rights_, .ref q13, .ref q14, .ref q15, .ref q16, .ref q17])), (q3, .inl (cc 0, 52, .inl w2)), (q4, .inl (cc 0, 416, .inl was))] H locs := hP
    refine lv_aload_n hx hb dX10_undo_41 rfl (lv_at hl 0 rfl) ?_
    refine g_get hC hP fg_X10_160 0 rfl rfl dX10_undo_42 ?_
    exact ret_i hC hr hlk hP dX10_undo_45 (w2, (acts - 1)) (Prod.mk.inj (Option.some.inj h)) rfl
  · have h := if_t c1 h
    refine lv_bipush (v := -2) hx hb dX10_undo_7 (by decide) ?_
    exact ret_i hC hr hlk hP dX10_undo_9 (st, acts) (Prod.mk.inj (Option.some.inj h)) rfl
set_option maxHeartbeats 8000000 in
set_option maxRecDepth 100000 in
theorem c_X10_mates (l : Launch) (dC : Nat → ClassId) (dI : Nat → Nat → Nat) (cc : Nat → ClassId) (q0 q1 q2 q3 q4 q5 q6 q7 q8 q9 q10 q11 q12 q13 q14 q15 q16 q17 : Nat) (feetMany : Int32) (log_ : Int32) (block : Int32) (stocking : Int32) (acts : Int32) (keeps : Int32) (hears : Int32) (texted : Int32) (at_ : Int32) (readFeetMany : Int32) (readLog : Int32) (readBlock : Int32) (readStocking : Int32) (lefts_ : Int32) (rights_ : Int32) (st : (Nat → Int32)) (now_ : (Nat → Int32)) (x1 : Int32) (sz : Nat) (ret : Int32) (o_now_ : (Nat → Int32)) (hu : f_X10_mates x1 st now_ = some (ret, o_now_)) : Met l yX10_mates (mw yX10_mates cX10_mates 4 (some .int)) ({ frames := 3, cells := 0, slots := 0, locals := 66 } : Room) (va_Pc [.ref q0, .int x1] (mP (dC, dI) (ts cc) sz [(q0, .inr (10, [.int feetMany, .ref q1, .int log_, .int block, .ref q2, .int stocking, .ref q3, .int acts, .ref q4, .int keeps, .ref q5, .int hears, .ref q6, .ref q7, .int texted, .int at_, .ref q8, .ref q9, .int readFeetMany, .ref q10, .int readLog, .int readBlock, .ref q11, .int readStocking, .ref q12, .int lefts_, .int rights_, .ref q13, .ref q14, .ref q15, .ref q16, .ref q17])), (q3, .inl (cc 0, 52, .inl st)), (q12, .inl (cc 0, 52, .inl now_))])) ((fun A => va_Qi (fun (r : Int32) (w : (Nat → Int32)) => r = ret ∧ w = o_now_) (fun (w : (Nat → Int32)) t => va_P (dC, dI) classes [(q0, .inr (10, [.int feetMany, .ref q1, .int log_, .int block, .ref q2, .int stocking, .ref q3, .int acts, .ref q4, .int keeps, .ref q5, .int hears, .ref q6, .ref q7, .int texted, .int at_, .ref q8, .ref q9, .int readFeetMany, .ref q10, .int readLog, .int readBlock, .ref q11, .int readStocking, .ref q12, .int lefts_, .int rights_, .ref q13, .ref q14, .ref q15, .ref q16, .ref q17])), (q3, .inl (cc 0, 52, .inl st)), (q12, .inl (cc 0, 52, .inl w))] t.heap) A) (va_A [(q0, .inr (10, [.int feetMany, .ref q1, .int log_, .int block, .ref q2, .int stocking, .ref q3, .int acts, .ref q4, .int keeps, .ref q5, .int hears, .ref q6, .ref q7, .int texted, .int at_, .ref q8, .ref q9, .int readFeetMany, .ref q10, .int readLog, .int readBlock, .ref q11, .int readStocking, .ref q12, .int lefts_, .int rights_, .ref q13, .ref q14, .ref q15, .ref q16, .ref q17])), (q3, .inl (cc 0, 52, .inl st)), (q12, .inl (cc 0, 52, .inl now_))] sz)) 0 0 (va_A [(q0, .inr (10, [.int feetMany, .ref q1, .int log_, .int block, .ref q2, .int stocking, .ref q3, .int acts, .ref q4, .int keeps, .ref q5, .int hears, .ref q6, .ref q7, .int texted, .int at_, .ref q8, .ref q9, .int readFeetMany, .ref q10, .int readLog, .int readBlock, .ref q11, .int readStocking, .ref q12, .int lefts_, .int rights_, .ref q13, .ref q14, .ref q15, .ref q16, .ref q17])), (q3, .inl (cc 0, 52, .inl st)), (q12, .inl (cc 0, 52, .inl now_))] sz) := by
  refine met_go (Qc := fun A => va_Qi (fun (r : Int32) (w : (Nat → Int32)) => r = ret ∧ w = o_now_) (fun (w : (Nat → Int32)) t => va_P (dC, dI) classes [(q0, .inr (10, [.int feetMany, .ref q1, .int log_, .int block, .ref q2, .int stocking, .ref q3, .int acts, .ref q4, .int keeps, .ref q5, .int hears, .ref q6, .ref q7, .int texted, .int at_, .ref q8, .ref q9, .int readFeetMany, .ref q10, .int readLog, .int readBlock, .ref q11, .int readStocking, .ref q12, .int lefts_, .int rights_, .ref q13, .ref q14, .ref q15, .ref q16, .ref q17])), (q3, .inl (cc 0, 52, .inl st)), (q12, .inl (cc 0, 52, .inl w))] t.heap) A) (by decide) (Nat.le_of_ble_eq_true rfl) ?_
  intro p e s m below meth c A ls H locs hC hr hlk hin hA hP hl _
  have hC : CX p m c cX10_mates 4 s ([.ref q0, .int x1] : List Value).toArray RX10 (dC, dI) (ts cc) := hC
  have hx := hC.1.1
  have hb := hC.1.2
  have h := hu
  have hu0 := hu
  unfold f_X10_mates at h
  have hl : lv_has ls 4 [(0, .ref q0), (1, .int x1)] := hl
  refine W_abs (fun Z eZ => ?_)
  refine lv_aload_n hx hb dX10_mates_0 rfl (lv_at hl 0 rfl) ?_
  refine lv_iload_n hx hb dX10_mates_1 rfl (lv_at hl 1 rfl) ?_
  obtain ⟨r1, hu, h⟩ := bnd_h h
  refine kc_z (kV hC (c_X10_isClog l dC dI cc q0 q1 q2 q3 q4 q5 q6 q7 q8 q9 q10 q11 q12 q13 q14 q15 q16 q17 feetMany log_ block stocking acts keeps hears texted at_ readFeetMany readLog readBlock readStocking lefts_ rights_ st x1 H.size r1 hu) cv_X10_188 kw975 rfl rfl ⟨(Nat.le_of_ble_eq_true rfl), (Nat.le_of_ble_eq_true rfl)⟩ hP [0, 1] rfl rfl rfl (q0 := 0) rfl (As := [.int x1]) (rest := []) rfl rfl hl.1 (Nat.le_of_ble_eq_true rfl) dX10_mates_2 ⟨Nat.zero_le _, Nat.zero_le _⟩) hP hA [0, 1] rfl rfl (fun hz_r1 H locs hP => ?_)
  have hP : PD (dC, dI) A s.heap [(q0, .inr (10, [.int feetMany, .ref q1, .int log_, .int block, .ref q2, .int stocking, .ref q3, .int acts, .ref q4, .int keeps, .ref q5, .int hears, .ref q6, .ref q7, .int texted, .int at_, .ref q8, .ref q9, .int readFeetMany, .ref q10, .int readLog, .int readBlock, .ref q11, .int readStocking, .ref q12, .int lefts_, .int rights_, .ref q13, .ref q14, .ref q15, .ref q16, .ref q17])), (q3, .inl (cc 0, 52, .inl st)), (q12, .inl (cc 0, 52, .inl now_))] H locs := hP
  refine lv_if_ne (tgt := 10) hx hb dX10_mates_5 (by decide) (fun c2 => ?_) (fun c2 => ?_)
  · have h := if_f c2 h
    refine lv_aload_n hx hb dX10_mates_10 rfl (lv_at hl 0 rfl) ?_
    obtain ⟨w3, hu, h⟩ := bnd_h h
    refine kc_v (kV hC (c_X10_asItIs l dC dI cc q0 q1 q2 q3 q4 q5 q6 q7 q8 q9 q10 q11 q12 q13 q14 q15 q16 q17 feetMany log_ block stocking acts keeps hears texted at_ readFeetMany readLog readBlock readStocking lefts_ rights_ st now_ H.size w3 hu) cv_X10_191 kw979 rfl rfl ⟨(Nat.le_of_ble_eq_true rfl), (Nat.le_of_ble_eq_true rfl)⟩ hP [0, 1, 2] rfl rfl rfl (q0 := 0) rfl (As := []) (rest := []) rfl rfl hl.1 (Nat.le_of_ble_eq_true rfl) dX10_mates_11 ⟨Nat.zero_le _, Nat.zero_le _⟩) hP hA [0, 1, 2] rfl rfl (fun H locs hP => ?_)
    have hP : PD (dC, dI) A s.heap [(q0, .inr (10, [.int feetMany, .ref q1, .int log_, .int block, .ref q2, .int stocking, .ref q3, .int acts, .ref q4, .int keeps, .ref q5, .int hears, .ref q6, .ref q7, .int texted, .int at_, .ref q8, .ref q9, .int readFeetMany, .ref q10, .int readLog, .int readBlock, .ref q11, .int readStocking, .ref q12, .int lefts_, .int rights_, .ref q13, .ref q14, .ref q15, .ref q16, .ref q17])), (q3, .inl (cc 0, 52, .inl st)), (q12, .inl (cc 0, 52, .inl w3))] H locs := hP
    refine lv_iconst (v := 0) hx hb dX10_mates_14 (by decide) ?_
    refine lv_istore_n (lv' := [(2, .int 0), (0, .ref q0), (1, .int x1)]) hx hb dX10_mates_15 rfl hl (by decide) rfl (fun ls hl => ?_)
    refine lv_iconst (v := 0) hx hb dX10_mates_16 (by decide) ?_
    refine lv_istore_n (lv' := [(3, .int 0), (2, .int 0), (0, .ref q0), (1, .int x1)]) hx hb dX10_mates_17 rfl hl (by decide) rfl (fun ls hl => ?_)
    obtain ⟨⟨j4x, j5x⟩, hlp, h⟩ := bnd_h h
    have L1 : ∀ (n : Nat) (j4 : Int32) (j5 : Int32) (j4x : Int32) (j5x : Int32), lp (u2 (b_X10_mates_1 st w3 x1)) n (j4, j5) = some (j4x, j5x) → ∀ (H : Heap) (locs : List Loc) (ls : Array Slot), PD (dC, dI) A s.heap [(q0, .inr (10, [.int feetMany, .ref q1, .int log_, .int block, .ref q2, .int stocking, .ref q3, .int acts, .ref q4, .int keeps, .ref q5, .int hears, .ref q6, .ref q7, .int texted, .int at_, .ref q8, .ref q9, .int readFeetMany, .ref q10, .int readLog, .int readBlock, .ref q11, .int readStocking, .ref q12, .int lefts_, .int rights_, .ref q13, .ref q14, .ref q15, .ref q16, .ref q17])), (q3, .inl (cc 0, 52, .inl st)), (q12, .inl (cc 0, 52, .inl w3))] H locs → lv_has ls 4 [(0, .ref q0), (1, .int x1), (2, .int j4), (3, .int j5)] → (∀ (H : Heap) (locs : List Loc) (ls : Array Slot), PD (dC, dI) A s.heap [(q0, .inr (10, [.int feetMany, .ref q1, .int log_, .int block, .ref q2, .int stocking, .ref q3, .int acts, .ref q4, .int keeps, .ref q5, .int hears, .ref q6, .ref q7, .int texted, .int at_, .ref q8, .ref q9, .int readFeetMany, .ref q10, .int readLog, .int readBlock, .ref q11, .int readStocking, .ref q12, .int lefts_, .int rights_, .ref q13, .ref q14, .ref q15, .ref q16, .ref q17])), (q3, .inl (cc 0, 52, .inl st)), (q12, .inl (cc 0, 52, .inl w3))] H locs → lv_has ls 4 [(0, .ref q0), (1, .int x1), (2, .int j4x), (3, .int j5x)] → W p l e ({ frames := 3, cells := 0, slots := 0, locals := 66 } : Room) s m ([.ref q0, .int x1] : List Value).toArray below meth c H locs 0 0 Z (F0 m 53 ls [])) → W p l e ({ frames := 3, cells := 0, slots := 0, locals := 66 } : Room) s m ([.ref q0, .int x1] : List Value).toArray below meth c H locs 0 0 Z (F0 m 18 ls []) := by
      intro n
      induction n with
      | zero => intro j4 j5 j4x j5x h; exact (lp_0 h).elim
      | succ n ih =>
        intro j4 j5 j4x j5x h H locs ls hP hl KK
        obtain ⟨y, h, hz⟩ := lp_h h
        refine lv_iload_n hx hb dX10_mates_18 rfl (lv_at hl 3 rfl) ?_
        refine lv_aload_n hx hb dX10_mates_19 rfl (lv_at hl 0 rfl) ?_
        refine g_get hC hP fg_X10_17 0 rfl rfl dX10_mates_20 ?_
        refine lv_iconst (v := 1) hx hb dX10_mates_23 (by decide) ?_
        obtain ⟨hin, h⟩ := rd_h h
        refine g_iald hC hP 1 0 rfl rfl hin dX10_mates_24 (fun v6 ev => ?_)
        have h := h v6 ev
        refine lv_icmp_ge (tgt := 53) hx hb dX10_mates_25 (by decide) (fun c7 => ?_) (fun c7 => ?_)
        · have h := if_t c7 h
          cases lp_e h hz
          exact KK H locs ls hP (lv_sub hl [0, 1, 2, 3] rfl)
        · have h := if_f c7 h
          refine lv_iload_n hx hb dX10_mates_28 rfl (lv_at hl 2 rfl) ?_
          refine lv_aload_n hx hb dX10_mates_29 rfl (lv_at hl 0 rfl) ?_
          refine lv_iload_n hx hb dX10_mates_30 rfl (lv_at hl 1 rfl) ?_
          refine lv_iload_n hx hb dX10_mates_31 rfl (lv_at hl 3 rfl) ?_
          obtain ⟨r8, hu, h⟩ := bnd_h h
          refine kc_z (kV hC (c_X10_areAlike l dC dI cc q0 q1 q2 q3 q4 q5 q6 q7 q8 q9 q10 q11 q12 q13 q14 q15 q16 q17 feetMany log_ block stocking acts keeps hears texted at_ readFeetMany readLog readBlock readStocking lefts_ rights_ w3 x1 j5 H.size r8 hu) cv_X10_197 kw1023 rfl rfl ⟨(Nat.le_of_ble_eq_true rfl), (Nat.le_of_ble_eq_true rfl)⟩ hP [0, 2] rfl rfl rfl (q0 := 0) rfl (As := [.int x1, .int j5]) (rest := [.int j4]) rfl rfl hl.1 (Nat.le_of_ble_eq_true rfl) dX10_mates_32 ⟨Nat.zero_le _, Nat.zero_le _⟩) hP hA [0, 2] rfl rfl (fun hz_r8 H locs hP => ?_)
          have hP : PD (dC, dI) A s.heap [(q0, .inr (10, [.int feetMany, .ref q1, .int log_, .int block, .ref q2, .int stocking, .ref q3, .int acts, .ref q4, .int keeps, .ref q5, .int hears, .ref q6, .ref q7, .int texted, .int at_, .ref q8, .ref q9, .int readFeetMany, .ref q10, .int readLog, .int readBlock, .ref q11, .int readStocking, .ref q12, .int lefts_, .int rights_, .ref q13, .ref q14, .ref q15, .ref q16, .ref q17])), (q3, .inl (cc 0, 52, .inl st)), (q12, .inl (cc 0, 52, .inl w3))] H locs := hP
          refine lv_if_eq (tgt := 44) hx hb dX10_mates_35 (by decide) (fun c9 => ?_) (fun c9 => ?_)
          · have h := if_t c9 h
            refine lv_iconst (v := 0) hx hb dX10_mates_44 (by decide) ?_
            refine lv_ior hx hb dX10_mates_45 ?_
            refine lv_istore_n (lv' := [(2, .int (j4 ||| 0)), (0, .ref q0), (1, .int x1), (3, .int j5)]) hx hb dX10_mates_46 rfl hl (by decide) rfl (fun ls hl => ?_)
            refine lv_iinc (v := (j5 + 1)) (lv' := [(3, .int (j5 + 1)), (2, .int (j4 ||| 0)), (0, .ref q0), (1, .int x1)]) hx hb dX10_mates_47 hl (k := 3) rfl rfl (by decide) rfl (fun ls hl => ?_)
            refine lv_goto (tgt := 18) hx hb dX10_mates_50 (by decide) ?_
            exact ih _ _ _ _ (lp_n h hz) H locs ls hP (lv_sub hl [2, 3, 1, 0] rfl) KK
          · have h := if_f c9 h
            refine lv_iconst (v := 1) hx hb dX10_mates_38 (by decide) ?_
            refine lv_iload_n hx hb dX10_mates_39 rfl (lv_at hl 3 rfl) ?_
            refine lv_ishl hx hb dX10_mates_40 ?_
            refine lv_goto (tgt := 45) hx hb dX10_mates_41 (by decide) ?_
            refine lv_ior hx hb dX10_mates_45 ?_
            refine lv_istore_n (lv' := [(2, .int (j4 ||| (1 <<< (j5 &&& 31)))), (0, .ref q0), (1, .int x1), (3, .int j5)]) hx hb dX10_mates_46 rfl hl (by decide) rfl (fun ls hl => ?_)
            refine lv_iinc (v := (j5 + 1)) (lv' := [(3, .int (j5 + 1)), (2, .int (j4 ||| (1 <<< (j5 &&& 31)))), (0, .ref q0), (1, .int x1)]) hx hb dX10_mates_47 hl (k := 3) rfl rfl (by decide) rfl (fun ls hl => ?_)
            refine lv_goto (tgt := 18) hx hb dX10_mates_50 (by decide) ?_
            exact ih _ _ _ _ (lp_n h hz) H locs ls hP (lv_sub hl [2, 3, 1, 0] rfl) KK
    refine L1 FU _ _ j4x j5x hlp H locs ls hP (lv_sub hl [2, 3, 1, 0] rfl) (fun H locs ls hP hl => ?_)
    refine lv_iload_n hx hb dX10_mates_53 rfl (lv_at hl 2 rfl) ?_
    rw [eZ]
    exact ret_i hC hr hlk hP dX10_mates_54 w3 (Prod.mk.inj (Option.some.inj h)) rfl
  · have h := if_t c2 h
    refine lv_iconst (v := -1) hx hb dX10_mates_8 (by decide) ?_
    rw [eZ]
    exact ret_i hC hr hlk hP dX10_mates_9 now_ (Prod.mk.inj (Option.some.inj h)) rfl
