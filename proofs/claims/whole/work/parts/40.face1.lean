set_option maxHeartbeats 8000000 in
set_option maxRecDepth 100000 in
theorem c_X9_write (l : Launch) (dC : Nat → ClassId) (dI : Nat → Nat → Nat) (cc : Nat → ClassId) (q0 q1 q3 q11 q13 q16 q17 q21 q23 q25 q30 q2 : Nat) (text_length : Int32) (text_letters : (Nat → Int32)) (x1 : Int32) (sz : Nat) (ret : Int32) (o_text_letters : (Nat → Int32)) (o_text_length : Int32) (hu : f_X9_write x1 text_length text_letters = some (ret, o_text_letters, o_text_length)) : Met l yX9_write (mw yX9_write cX9_write 2 (some .int)) ({ frames := 1, cells := 0, slots := 0, locals := 22 } : Room) (va_Pc [.ref q0, .int x1] (mP (dC, dI) (ts cc) sz [(q0, .inr (9, [.ref q1, .ref q3, .ref q11, .ref q13, .ref q16, .ref q17, .ref q21, .ref q23, .ref q25, .ref q30])), (q1, .inr (5, [.ref q2, .int text_length])), (q2, .inl (cc 1, 200, .inl text_letters))])) ((fun A => va_Qi (fun (r : Int32) (w : (Nat → Int32) × Int32) => r = ret ∧ w = (o_text_letters, o_text_length)) (fun (w : (Nat → Int32) × Int32) t => va_P (dC, dI) classes [(q0, .inr (9, [.ref q1, .ref q3, .ref q11, .ref q13, .ref q16, .ref q17, .ref q21, .ref q23, .ref q25, .ref q30])), (q1, .inr (5, [.ref q2, .int w.2])), (q2, .inl (cc 1, 200, .inl w.1))] t.heap) A) (va_A [(q0, .inr (9, [.ref q1, .ref q3, .ref q11, .ref q13, .ref q16, .ref q17, .ref q21, .ref q23, .ref q25, .ref q30])), (q1, .inr (5, [.ref q2, .int text_length])), (q2, .inl (cc 1, 200, .inl text_letters))] sz)) 0 0 (va_A [(q0, .inr (9, [.ref q1, .ref q3, .ref q11, .ref q13, .ref q16, .ref q17, .ref q21, .ref q23, .ref q25, .ref q30])), (q1, .inr (5, [.ref q2, .int text_length])), (q2, .inl (cc 1, 200, .inl text_letters))] sz) := by
  refine met_go (Qc := fun A => va_Qi (fun (r : Int32) (w : (Nat → Int32) × Int32) => r = ret ∧ w = (o_text_letters, o_text_length)) (fun (w : (Nat → Int32) × Int32) t => va_P (dC, dI) classes [(q0, .inr (9, [.ref q1, .ref q3, .ref q11, .ref q13, .ref q16, .ref q17, .ref q21, .ref q23, .ref q25, .ref q30])), (q1, .inr (5, [.ref q2, .int w.2])), (q2, .inl (cc 1, 200, .inl w.1))] t.heap) A) (by decide) (Nat.le_of_ble_eq_true rfl) ?_
  intro p e s m below meth c A ls H locs hC hr hlk hin hA hP hl _
  have hC : CX p m c cX9_write 2 s ([.ref q0, .int x1] : List Value).toArray RX9 (dC, dI) (ts cc) := hC
  have hx := hC.1.1
  have hb := hC.1.2
  have h := hu
  have hu0 := hu
  unfold f_X9_write at h
  have hl : lv_has ls 2 [(0, .ref q0), (1, .int x1)] := hl
  refine lv_iload_n hx hb dX9_write_0 rfl (lv_at hl 1 rfl) ?_
  refine lv_bipush (v := 32) hx hb dX9_write_1 (by decide) ?_
  refine lv_bipush (v := 126) hx hb dX9_write_3 (by decide) ?_
  obtain ⟨r1, hu, h⟩ := bnd_h h
  refine kc_z (kS hC (c_X9_within l dC dI cc x1 32 126 H.size r1 hu) cs_X9_99 kw338 rfl rfl ⟨(Nat.le_of_ble_eq_true rfl), (Nat.le_of_ble_eq_true rfl)⟩ hP [] rfl rfl (As := [.int x1, .int 32, .int 126]) (rest := []) rfl rfl hl.1 (Nat.le_of_ble_eq_true rfl) dX9_write_5 ⟨Nat.zero_le _, Nat.zero_le _⟩) hP hA [] rfl rfl (fun hz_r1 H locs hP => ?_)
  have hP : PD (dC, dI) A s.heap [(q0, .inr (9, [.ref q1, .ref q3, .ref q11, .ref q13, .ref q16, .ref q17, .ref q21, .ref q23, .ref q25, .ref q30])), (q1, .inr (5, [.ref q2, .int text_length])), (q2, .inl (cc 1, 200, .inl text_letters))] H locs := hP
  refine lv_if_ne (tgt := 13) hx hb dX9_write_8 (by decide) (fun c2 => ?_) (fun c2 => ?_)
  · have h := if_f c2 h
    refine lv_aload_n hx hb dX9_write_13 rfl (lv_at hl 0 rfl) ?_
    refine g_get hC hP fg_X9_10 0 rfl rfl dX9_write_14 ?_
    refine g_get hC hP fg_X9_103 1 rfl rfl dX9_write_17 ?_
    refine lv_sipush (v := 200) hx hb dX9_write_20 (by decide) ?_
    refine lv_icmp_lt (tgt := 29) hx hb dX9_write_23 (by decide) (fun c3 => ?_) (fun c3 => ?_)
    · have h := if_t c3 h
      refine lv_aload_n hx hb dX9_write_29 rfl (lv_at hl 0 rfl) ?_
      refine g_get hC hP fg_X9_10 0 rfl rfl dX9_write_30 ?_
      refine lv_iload_n hx hb dX9_write_33 rfl (lv_at hl 1 rfl) ?_
      obtain ⟨⟨w4, w5⟩, hu, h⟩ := bnd_h h
      refine kc_v (kV hC (c_X5_append l dC dI cc q1 q2 text_length text_letters x1 H.size w4 w5 hu) cv_X9_89 kw285 rfl rfl ⟨(Nat.le_of_ble_eq_true rfl), (Nat.le_of_ble_eq_true rfl)⟩ hP [1, 2] rfl rfl rfl (q0 := 1) rfl (As := [.int x1]) (rest := []) rfl rfl hl.1 (Nat.le_of_ble_eq_true rfl) dX9_write_34 ⟨Nat.zero_le _, Nat.zero_le _⟩) hP hA [1, 2] rfl rfl (fun H locs hP => ?_)
      have hP : PD (dC, dI) A s.heap [(q0, .inr (9, [.ref q1, .ref q3, .ref q11, .ref q13, .ref q16, .ref q17, .ref q21, .ref q23, .ref q25, .ref q30])), (q1, .inr (5, [.ref q2, .int w5])), (q2, .inl (cc 1, 200, .inl w4))] H locs := hP
      refine lv_aload_n hx hb dX9_write_37 rfl (lv_at hl 0 rfl) ?_
      refine g_get hC hP fg_X9_10 0 rfl rfl dX9_write_38 ?_
      refine g_get hC hP fg_X9_103 1 rfl rfl dX9_write_41 ?_
      exact ret_i hC hr hlk hP dX9_write_44 (w4, w5) (Prod.mk.inj (Option.some.inj h)) rfl
    · have h := if_f c3 h
      refine lv_bipush (v := -3) hx hb dX9_write_26 (by decide) ?_
      exact ret_i hC hr hlk hP dX9_write_28 (text_letters, text_length) (Prod.mk.inj (Option.some.inj h)) rfl
  · have h := if_t c2 h
    refine lv_iconst (v := -1) hx hb dX9_write_11 (by decide) ?_
    exact ret_i hC hr hlk hP dX9_write_12 (text_letters, text_length) (Prod.mk.inj (Option.some.inj h)) rfl
set_option maxHeartbeats 8000000 in
set_option maxRecDepth 100000 in
theorem c_X9_wipe (l : Launch) (dC : Nat → ClassId) (dI : Nat → Nat → Nat) (cc : Nat → ClassId) (q0 q1 q3 q11 q13 q16 q17 q21 q23 q25 q30 q2 : Nat) (text_length : Int32) (sz : Nat) (ret : Int32) (o_text_length : Int32) (hu : f_X9_wipe text_length = some (ret, o_text_length)) : Met l yX9_wipe (mw yX9_wipe cX9_wipe 2 (some .int)) ({ frames := 1, cells := 0, slots := 0, locals := 20 } : Room) (va_Pc [.ref q0] (mP (dC, dI) (ts cc) sz [(q0, .inr (9, [.ref q1, .ref q3, .ref q11, .ref q13, .ref q16, .ref q17, .ref q21, .ref q23, .ref q25, .ref q30])), (q1, .inr (5, [.ref q2, .int text_length]))])) ((fun A => va_Qi (fun (r : Int32) (w : Int32) => r = ret ∧ w = o_text_length) (fun (w : Int32) t => va_P (dC, dI) classes [(q0, .inr (9, [.ref q1, .ref q3, .ref q11, .ref q13, .ref q16, .ref q17, .ref q21, .ref q23, .ref q25, .ref q30])), (q1, .inr (5, [.ref q2, .int w]))] t.heap) A) (va_A [(q0, .inr (9, [.ref q1, .ref q3, .ref q11, .ref q13, .ref q16, .ref q17, .ref q21, .ref q23, .ref q25, .ref q30])), (q1, .inr (5, [.ref q2, .int text_length]))] sz)) 0 0 (va_A [(q0, .inr (9, [.ref q1, .ref q3, .ref q11, .ref q13, .ref q16, .ref q17, .ref q21, .ref q23, .ref q25, .ref q30])), (q1, .inr (5, [.ref q2, .int text_length]))] sz) := by
  refine met_go (Qc := fun A => va_Qi (fun (r : Int32) (w : Int32) => r = ret ∧ w = o_text_length) (fun (w : Int32) t => va_P (dC, dI) classes [(q0, .inr (9, [.ref q1, .ref q3, .ref q11, .ref q13, .ref q16, .ref q17, .ref q21, .ref q23, .ref q25, .ref q30])), (q1, .inr (5, [.ref q2, .int w]))] t.heap) A) (by decide) (Nat.le_of_ble_eq_true rfl) ?_
  intro p e s m below meth c A ls H locs hC hr hlk hin hA hP hl _
  have hC : CX p m c cX9_wipe 2 s ([.ref q0] : List Value).toArray RX9 (dC, dI) (ts cc) := hC
  have hx := hC.1.1
  have hb := hC.1.2
  have h := hu
  have hu0 := hu
  unfold f_X9_wipe at h
  have hl : lv_has ls 2 [(0, .ref q0)] := hl
  refine lv_aload_n hx hb dX9_wipe_0 rfl (lv_at hl 0 rfl) ?_
  refine g_get hC hP fg_X9_10 0 rfl rfl dX9_wipe_1 ?_
  refine g_get hC hP fg_X9_103 1 rfl rfl dX9_wipe_4 ?_
  refine lv_istore_n (lv' := [(1, .int text_length), (0, .ref q0)]) hx hb dX9_wipe_7 rfl hl (by decide) rfl (fun ls hl => ?_)
  refine lv_aload_n hx hb dX9_wipe_8 rfl (lv_at hl 1 rfl) ?_
  refine g_get hC hP fg_X9_10 0 rfl rfl dX9_wipe_9 ?_
  obtain ⟨w1, hu, h⟩ := bnd_h h
  refine kc_v (kV hC (c_X5_clear l dC dI cc q1 q2 text_length H.size w1 hu) cv_X9_96 kw398 rfl rfl ⟨(Nat.le_of_ble_eq_true rfl), (Nat.le_of_ble_eq_true rfl)⟩ hP [1] rfl rfl rfl (q0 := 1) rfl (As := []) (rest := []) rfl rfl hl.1 (Nat.le_of_ble_eq_true rfl) dX9_wipe_12 ⟨Nat.zero_le _, Nat.zero_le _⟩) hP hA [1] rfl rfl (fun H locs hP => ?_)
  have hP : PD (dC, dI) A s.heap [(q0, .inr (9, [.ref q1, .ref q3, .ref q11, .ref q13, .ref q16, .ref q17, .ref q21, .ref q23, .ref q25, .ref q30])), (q1, .inr (5, [.ref q2, .int w1]))] H locs := hP
  refine lv_iload_n hx hb dX9_wipe_15 rfl (lv_at hl 0 rfl) ?_
  exact ret_i hC hr hlk hP dX9_wipe_16 w1 (Prod.mk.inj (Option.some.inj h)) rfl
set_option maxHeartbeats 8000000 in
set_option maxRecDepth 100000 in
theorem c_X9_fault (l : Launch) (dC : Nat → ClassId) (dI : Nat → Nat → Nat) (cc : Nat → ClassId) (q0 q1 q3 q11 q13 q16 q17 q21 q23 q25 q30 q2 q4 q6 q9 q10 q5 q7 q8 : Nat) (text_length : Int32) (text_letters : (Nat → Int32)) (reader_told : Int32) (reader_shelf_clogs : Int32) (reader_shelf_day : Int32) (reader_shelf_cells : (Nat → Int32)) (reader_waiting_number : Int32) (reader_waiting_stocking : Int32) (reader_waiting_lefts : (Nat → Int32)) (reader_waiting_rights : (Nat → Int32)) (reader_log_length : Int32) (reader_log_block : Int32) (reader_log_knots : Int64) (reader_numbers : (Nat → Int32)) (sz : Nat) (ret : Int32) (o_reader_shelf_cells : (Nat → Int32)) (o_reader_shelf_clogs : Int32) (o_reader_shelf_day : Int32) (o_reader_waiting_lefts : (Nat → Int32)) (o_reader_waiting_rights : (Nat → Int32)) (o_reader_waiting_number : Int32) (o_reader_waiting_stocking : Int32) (o_reader_log_length : Int32) (o_reader_log_block : Int32) (o_reader_log_knots : Int64) (o_reader_numbers : (Nat → Int32)) (o_reader_told : Int32) (hu : f_X9_fault text_length text_letters reader_told reader_shelf_cells reader_waiting_lefts reader_waiting_rights reader_numbers = some (ret, o_reader_shelf_cells, o_reader_shelf_clogs, o_reader_shelf_day, o_reader_waiting_lefts, o_reader_waiting_rights, o_reader_waiting_number, o_reader_waiting_stocking, o_reader_log_length, o_reader_log_block, o_reader_log_knots, o_reader_numbers, o_reader_told)) : Met l yX9_fault (mw yX9_fault cX9_fault 1 (some .int)) ({ frames := 5, cells := 0, slots := 0, locals := 112 } : Room) (va_Pc [.ref q0] (mP (dC, dI) (ts cc) sz [(q0, .inr (9, [.ref q1, .ref q3, .ref q11, .ref q13, .ref q16, .ref q17, .ref q21, .ref q23, .ref q25, .ref q30])), (q1, .inr (5, [.ref q2, .int text_length])), (q2, .inl (cc 1, 200, .inl text_letters)), (q3, .inr (3, [.ref q4, .ref q6, .ref q9, .ref q10, .int reader_told])), (q4, .inr (4, [.ref q5, .int reader_shelf_clogs, .int reader_shelf_day])), (q5, .inl (cc 0, 50, .inl reader_shelf_cells)), (q6, .inr (6, [.ref q7, .ref q8, .int reader_waiting_number, .int reader_waiting_stocking])), (q7, .inl (cc 0, 5, .inl reader_waiting_lefts)), (q8, .inl (cc 0, 5, .inl reader_waiting_rights)), (q9, .inr (0, [.int reader_log_length, .int reader_log_block, .long reader_log_knots])), (q10, .inl (cc 0, 4, .inl reader_numbers))])) ((fun A => va_Qi (fun (r : Int32) (w : (Nat → Int32) × Int32 × Int32 × (Nat → Int32) × (Nat → Int32) × Int32 × Int32 × Int32 × Int32 × Int64 × (Nat → Int32) × Int32) => r = ret ∧ w = (o_reader_shelf_cells, o_reader_shelf_clogs, o_reader_shelf_day, o_reader_waiting_lefts, o_reader_waiting_rights, o_reader_waiting_number, o_reader_waiting_stocking, o_reader_log_length, o_reader_log_block, o_reader_log_knots, o_reader_numbers, o_reader_told)) (fun (w : (Nat → Int32) × Int32 × Int32 × (Nat → Int32) × (Nat → Int32) × Int32 × Int32 × Int32 × Int32 × Int64 × (Nat → Int32) × Int32) t => va_P (dC, dI) classes [(q0, .inr (9, [.ref q1, .ref q3, .ref q11, .ref q13, .ref q16, .ref q17, .ref q21, .ref q23, .ref q25, .ref q30])), (q1, .inr (5, [.ref q2, .int text_length])), (q2, .inl (cc 1, 200, .inl text_letters)), (q3, .inr (3, [.ref q4, .ref q6, .ref q9, .ref q10, .int w.2.2.2.2.2.2.2.2.2.2.2])), (q4, .inr (4, [.ref q5, .int w.2.1, .int w.2.2.1])), (q5, .inl (cc 0, 50, .inl w.1)), (q6, .inr (6, [.ref q7, .ref q8, .int w.2.2.2.2.2.1, .int w.2.2.2.2.2.2.1])), (q7, .inl (cc 0, 5, .inl w.2.2.2.1)), (q8, .inl (cc 0, 5, .inl w.2.2.2.2.1)), (q9, .inr (0, [.int w.2.2.2.2.2.2.2.1, .int w.2.2.2.2.2.2.2.2.1, .long w.2.2.2.2.2.2.2.2.2.1])), (q10, .inl (cc 0, 4, .inl w.2.2.2.2.2.2.2.2.2.2.1))] t.heap) A) (va_A [(q0, .inr (9, [.ref q1, .ref q3, .ref q11, .ref q13, .ref q16, .ref q17, .ref q21, .ref q23, .ref q25, .ref q30])), (q1, .inr (5, [.ref q2, .int text_length])), (q2, .inl (cc 1, 200, .inl text_letters)), (q3, .inr (3, [.ref q4, .ref q6, .ref q9, .ref q10, .int reader_told])), (q4, .inr (4, [.ref q5, .int reader_shelf_clogs, .int reader_shelf_day])), (q5, .inl (cc 0, 50, .inl reader_shelf_cells)), (q6, .inr (6, [.ref q7, .ref q8, .int reader_waiting_number, .int reader_waiting_stocking])), (q7, .inl (cc 0, 5, .inl reader_waiting_lefts)), (q8, .inl (cc 0, 5, .inl reader_waiting_rights)), (q9, .inr (0, [.int reader_log_length, .int reader_log_block, .long reader_log_knots])), (q10, .inl (cc 0, 4, .inl reader_numbers))] sz)) 0 0 (va_A [(q0, .inr (9, [.ref q1, .ref q3, .ref q11, .ref q13, .ref q16, .ref q17, .ref q21, .ref q23, .ref q25, .ref q30])), (q1, .inr (5, [.ref q2, .int text_length])), (q2, .inl (cc 1, 200, .inl text_letters)), (q3, .inr (3, [.ref q4, .ref q6, .ref q9, .ref q10, .int reader_told])), (q4, .inr (4, [.ref q5, .int reader_shelf_clogs, .int reader_shelf_day])), (q5, .inl (cc 0, 50, .inl reader_shelf_cells)), (q6, .inr (6, [.ref q7, .ref q8, .int reader_waiting_number, .int reader_waiting_stocking])), (q7, .inl (cc 0, 5, .inl reader_waiting_lefts)), (q8, .inl (cc 0, 5, .inl reader_waiting_rights)), (q9, .inr (0, [.int reader_log_length, .int reader_log_block, .long reader_log_knots])), (q10, .inl (cc 0, 4, .inl reader_numbers))] sz) := by
  refine met_go (Qc := fun A => va_Qi (fun (r : Int32) (w : (Nat → Int32) × Int32 × Int32 × (Nat → Int32) × (Nat → Int32) × Int32 × Int32 × Int32 × Int32 × Int64 × (Nat → Int32) × Int32) => r = ret ∧ w = (o_reader_shelf_cells, o_reader_shelf_clogs, o_reader_shelf_day, o_reader_waiting_lefts, o_reader_waiting_rights, o_reader_waiting_number, o_reader_waiting_stocking, o_reader_log_length, o_reader_log_block, o_reader_log_knots, o_reader_numbers, o_reader_told)) (fun (w : (Nat → Int32) × Int32 × Int32 × (Nat → Int32) × (Nat → Int32) × Int32 × Int32 × Int32 × Int32 × Int64 × (Nat → Int32) × Int32) t => va_P (dC, dI) classes [(q0, .inr (9, [.ref q1, .ref q3, .ref q11, .ref q13, .ref q16, .ref q17, .ref q21, .ref q23, .ref q25, .ref q30])), (q1, .inr (5, [.ref q2, .int text_length])), (q2, .inl (cc 1, 200, .inl text_letters)), (q3, .inr (3, [.ref q4, .ref q6, .ref q9, .ref q10, .int w.2.2.2.2.2.2.2.2.2.2.2])), (q4, .inr (4, [.ref q5, .int w.2.1, .int w.2.2.1])), (q5, .inl (cc 0, 50, .inl w.1)), (q6, .inr (6, [.ref q7, .ref q8, .int w.2.2.2.2.2.1, .int w.2.2.2.2.2.2.1])), (q7, .inl (cc 0, 5, .inl w.2.2.2.1)), (q8, .inl (cc 0, 5, .inl w.2.2.2.2.1)), (q9, .inr (0, [.int w.2.2.2.2.2.2.2.1, .int w.2.2.2.2.2.2.2.2.1, .long w.2.2.2.2.2.2.2.2.2.1])), (q10, .inl (cc 0, 4, .inl w.2.2.2.2.2.2.2.2.2.2.1))] t.heap) A) (by decide) (Nat.le_of_ble_eq_true rfl) ?_
  intro p e s m below meth c A ls H locs hC hr hlk hin hA hP hl _
  have hC : CX p m c cX9_fault 1 s ([.ref q0] : List Value).toArray RX9 (dC, dI) (ts cc) := hC
  have hx := hC.1.1
  have hb := hC.1.2
  have h := hu
  have hu0 := hu
  unfold f_X9_fault at h
  have hl : lv_has ls 1 [(0, .ref q0)] := hl
  refine lv_aload_n hx hb dX9_fault_0 rfl (lv_at hl 0 rfl) ?_
  refine g_get hC hP fg_X9_19 0 rfl rfl dX9_fault_1 ?_
  refine lv_aload_n hx hb dX9_fault_4 rfl (lv_at hl 0 rfl) ?_
  refine g_get hC hP fg_X9_10 0 rfl rfl dX9_fault_5 ?_
  obtain ⟨⟨r1, w2, w3, w4, w5, w6, w7, w8, w9, w10, w11, w12, w13⟩, hu, h⟩ := bnd_h h
  refine kc_i (kV hC (c_X3_read l dC dI cc q3 q4 q6 q9 q10 q5 q7 q8 q1 q2 reader_told reader_shelf_clogs reader_shelf_day reader_shelf_cells reader_waiting_number reader_waiting_stocking reader_waiting_lefts reader_waiting_rights reader_log_length reader_log_block reader_log_knots reader_numbers text_length text_letters H.size r1 w2 w3 w4 w5 w6 w7 w8 w9 w10 w11 w12 w13 hu) cv_X9_106 kw293 rfl rfl ⟨(Nat.le_of_ble_eq_true rfl), (Nat.le_of_ble_eq_true rfl)⟩ hP [3, 4, 5, 6, 7, 8, 9, 10, 1, 2] rfl rfl rfl (q0 := 3) rfl (As := [.ref q1]) (rest := []) rfl rfl hl.1 (Nat.le_of_ble_eq_true rfl) dX9_fault_8 ⟨Nat.zero_le _, Nat.zero_le _⟩) hP hA [3, 4, 5, 6, 7, 8, 9, 10, 1, 2] rfl rfl (fun H locs hP => ?_)
  have hP : PD (dC, dI) A s.heap [(q0, .inr (9, [.ref q1, .ref q3, .ref q11, .ref q13, .ref q16, .ref q17, .ref q21, .ref q23, .ref q25, .ref q30])), (q1, .inr (5, [.ref q2, .int text_length])), (q2, .inl (cc 1, 200, .inl text_letters)), (q3, .inr (3, [.ref q4, .ref q6, .ref q9, .ref q10, .int w13])), (q4, .inr (4, [.ref q5, .int w3, .int w4])), (q5, .inl (cc 0, 50, .inl w2)), (q6, .inr (6, [.ref q7, .ref q8, .int w7, .int w8])), (q7, .inl (cc 0, 5, .inl w5)), (q8, .inl (cc 0, 5, .inl w6)), (q9, .inr (0, [.int w9, .int w10, .long w11])), (q10, .inl (cc 0, 4, .inl w12))] H locs := hP
  exact ret_i hC hr hlk hP dX9_fault_11 (w2, w3, w4, w5, w6, w7, w8, w9, w10, w11, w12, w13) (Prod.mk.inj (Option.some.inj h)) rfl
set_option maxHeartbeats 8000000 in
set_option maxRecDepth 100000 in
theorem c_X9_clog (l : Launch) (dC : Nat → ClassId) (dI : Nat → Nat → Nat) (cc : Nat → ClassId) (q0 q1 q3 q11 q13 q16 q17 q21 q23 q25 q30 q12 : Nat) (shelf_clogs : Int32) (shelf_day : Int32) (shelf_cells : (Nat → Int32)) (x1 : Int32) (x2 : Int32) (sz : Nat) (ret : Int32) (hu : f_X9_clog x1 x2 shelf_clogs shelf_day shelf_cells = some ret) : Met l yX9_clog (mw yX9_clog cX9_clog 3 (some .int)) ({ frames := 3, cells := 0, slots := 0, locals := 69 } : Room) (va_Pc [.ref q0, .int x1, .int x2] (mP (dC, dI) (ts cc) sz [(q0, .inr (9, [.ref q1, .ref q3, .ref q11, .ref q13, .ref q16, .ref q17, .ref q21, .ref q23, .ref q25, .ref q30])), (q11, .inr (4, [.ref q12, .int shelf_clogs, .int shelf_day])), (q12, .inl (cc 0, 50, .inl shelf_cells))])) ((fun A => va_Qi (fun (r : Int32) (w : Unit) => r = ret ∧ w = ()) (fun (w : Unit) t => va_P (dC, dI) classes [(q0, .inr (9, [.ref q1, .ref q3, .ref q11, .ref q13, .ref q16, .ref q17, .ref q21, .ref q23, .ref q25, .ref q30])), (q11, .inr (4, [.ref q12, .int shelf_clogs, .int shelf_day])), (q12, .inl (cc 0, 50, .inl shelf_cells))] t.heap) A) (va_A [(q0, .inr (9, [.ref q1, .ref q3, .ref q11, .ref q13, .ref q16, .ref q17, .ref q21, .ref q23, .ref q25, .ref q30])), (q11, .inr (4, [.ref q12, .int shelf_clogs, .int shelf_day])), (q12, .inl (cc 0, 50, .inl shelf_cells))] sz)) 0 0 (va_A [(q0, .inr (9, [.ref q1, .ref q3, .ref q11, .ref q13, .ref q16, .ref q17, .ref q21, .ref q23, .ref q25, .ref q30])), (q11, .inr (4, [.ref q12, .int shelf_clogs, .int shelf_day])), (q12, .inl (cc 0, 50, .inl shelf_cells))] sz) := by
  refine met_go (Qc := fun A => va_Qi (fun (r : Int32) (w : Unit) => r = ret ∧ w = ()) (fun (w : Unit) t => va_P (dC, dI) classes [(q0, .inr (9, [.ref q1, .ref q3, .ref q11, .ref q13, .ref q16, .ref q17, .ref q21, .ref q23, .ref q25, .ref q30])), (q11, .inr (4, [.ref q12, .int shelf_clogs, .int shelf_day])), (q12, .inl (cc 0, 50, .inl shelf_cells))] t.heap) A) (by decide) (Nat.le_of_ble_eq_true rfl) ?_
  intro p e s m below meth c A ls H locs hC hr hlk hin hA hP hl _
  have hC : CX p m c cX9_clog 3 s ([.ref q0, .int x1, .int x2] : List Value).toArray RX9 (dC, dI) (ts cc) := hC
  have hx := hC.1.1
  have hb := hC.1.2
  have h := hu
  have hu0 := hu
  unfold f_X9_clog at h
  have hl : lv_has ls 3 [(0, .ref q0), (1, .int x1), (2, .int x2)] := hl
  refine lv_aload_n hx hb dX9_clog_0 rfl (lv_at hl 0 rfl) ?_
  refine g_get hC hP fg_X9_26 0 rfl rfl dX9_clog_1 ?_
  refine lv_iload_n hx hb dX9_clog_4 rfl (lv_at hl 1 rfl) ?_
  obtain ⟨r1, hu, h⟩ := bnd_h h
  refine kc_z (kV hC (c_X4_holds l dC dI cc q11 q12 shelf_clogs shelf_day x1 H.size r1 hu) cv_X9_113 kw454 rfl rfl ⟨(Nat.le_of_ble_eq_true rfl), (Nat.le_of_ble_eq_true rfl)⟩ hP [1] rfl rfl rfl (q0 := 1) rfl (As := [.int x1]) (rest := []) rfl rfl hl.1 (Nat.le_of_ble_eq_true rfl) dX9_clog_5 ⟨Nat.zero_le _, Nat.zero_le _⟩) hP hA [1] rfl rfl (fun hz_r1 H locs hP => ?_)
  have hP : PD (dC, dI) A s.heap [(q0, .inr (9, [.ref q1, .ref q3, .ref q11, .ref q13, .ref q16, .ref q17, .ref q21, .ref q23, .ref q25, .ref q30])), (q11, .inr (4, [.ref q12, .int shelf_clogs, .int shelf_day])), (q12, .inl (cc 0, 50, .inl shelf_cells))] H locs := hP
  refine lv_if_eq (tgt := 20) hx hb dX9_clog_8 (by decide) (fun c2 => ?_) (fun c2 => ?_)
  · have h := if_t c2 h
    refine lv_iconst (v := -1) hx hb dX9_clog_20 (by decide) ?_
    exact ret_i hC hr hlk hP dX9_clog_21 () (⟨Option.some.inj h, rfl⟩) rfl
  · have h := if_f c2 h
    refine lv_iload_n hx hb dX9_clog_11 rfl (lv_at hl 2 rfl) ?_
    refine lv_iconst (v := 0) hx hb dX9_clog_12 (by decide) ?_
    refine lv_iconst (v := 4) hx hb dX9_clog_13 (by decide) ?_
    obtain ⟨r3, hu, h⟩ := bnd_h h
    refine kc_z (kS hC (c_X9_within l dC dI cc x2 0 4 H.size r3 hu) cs_X9_99 kw338 rfl rfl ⟨(Nat.le_of_ble_eq_true rfl), (Nat.le_of_ble_eq_true rfl)⟩ hP [] rfl rfl (As := [.int x2, .int 0, .int 4]) (rest := []) rfl rfl hl.1 (Nat.le_of_ble_eq_true rfl) dX9_clog_14 ⟨Nat.zero_le _, Nat.zero_le _⟩) hP hA [] rfl rfl (fun hz_r3 H locs hP => ?_)
    have hP : PD (dC, dI) A s.heap [(q0, .inr (9, [.ref q1, .ref q3, .ref q11, .ref q13, .ref q16, .ref q17, .ref q21, .ref q23, .ref q25, .ref q30])), (q11, .inr (4, [.ref q12, .int shelf_clogs, .int shelf_day])), (q12, .inl (cc 0, 50, .inl shelf_cells))] H locs := hP
    refine lv_if_ne (tgt := 22) hx hb dX9_clog_17 (by decide) (fun c4 => ?_) (fun c4 => ?_)
    · have h := if_f c4 h
      refine lv_iload_n hx hb dX9_clog_22 rfl (lv_at hl 2 rfl) ?_
      refine lv_iconst (v := 2) hx hb dX9_clog_23 (by decide) ?_
      refine lv_icmp_ne (tgt := 43) hx hb dX9_clog_24 (by decide) (fun c5 => ?_) (fun c5 => ?_)
      · have h := if_f c5 h
        refine lv_iload_n hx hb dX9_clog_43 rfl (lv_at hl 2 rfl) ?_
        refine lv_iconst (v := 3) hx hb dX9_clog_44 (by decide) ?_
        refine lv_icmp_ne (tgt := 64) hx hb dX9_clog_45 (by decide) (fun c6 => ?_) (fun c6 => ?_)
        · have h := if_f c6 h
          refine lv_aload_n hx hb dX9_clog_64 rfl (lv_at hl 0 rfl) ?_
          refine g_get hC hP fg_X9_26 0 rfl rfl dX9_clog_65 ?_
          refine lv_iload_n hx hb dX9_clog_68 rfl (lv_at hl 1 rfl) ?_
          refine lv_iload_n hx hb dX9_clog_69 rfl (lv_at hl 2 rfl) ?_
          obtain ⟨r7, hu, h⟩ := bnd_h h
          refine kc_i (kV hC (c_X4_cell l dC dI cc q11 q12 shelf_clogs shelf_day shelf_cells x1 x2 H.size r7 hu) cv_X9_127 kw463 rfl rfl ⟨(Nat.le_of_ble_eq_true rfl), (Nat.le_of_ble_eq_true rfl)⟩ hP [1, 2] rfl rfl rfl (q0 := 1) rfl (As := [.int x1, .int x2]) (rest := []) rfl rfl hl.1 (Nat.le_of_ble_eq_true rfl) dX9_clog_70 ⟨Nat.zero_le _, Nat.zero_le _⟩) hP hA [1, 2] rfl rfl (fun H locs hP => ?_)
          have hP : PD (dC, dI) A s.heap [(q0, .inr (9, [.ref q1, .ref q3, .ref q11, .ref q13, .ref q16, .ref q17, .ref q21, .ref q23, .ref q25, .ref q30])), (q11, .inr (4, [.ref q12, .int shelf_clogs, .int shelf_day])), (q12, .inl (cc 0, 50, .inl shelf_cells))] H locs := hP
          exact ret_i hC hr hlk hP dX9_clog_73 () (⟨Option.some.inj h, rfl⟩) rfl
        · have h := if_t c6 h
          refine lv_aload_n hx hb dX9_clog_48 rfl (lv_at hl 0 rfl) ?_
          refine g_get hC hP fg_X9_26 0 rfl rfl dX9_clog_49 ?_
          refine lv_iload_n hx hb dX9_clog_52 rfl (lv_at hl 1 rfl) ?_
          refine lv_aload_n hx hb dX9_clog_53 rfl (lv_at hl 0 rfl) ?_
          refine g_get hC hP fg_X9_26 0 rfl rfl dX9_clog_54 ?_
          refine g_get hC hP fg_X9_117 1 rfl rfl dX9_clog_57 ?_
          obtain ⟨r8, hu, h⟩ := bnd_h h
          refine kc_i (kV hC (c_X4_weightOn l dC dI cc q11 q12 shelf_clogs shelf_day shelf_cells x1 shelf_day H.size r8 hu) cv_X9_124 kw473 rfl rfl ⟨(Nat.le_of_ble_eq_true rfl), (Nat.le_of_ble_eq_true rfl)⟩ hP [1, 2] rfl rfl rfl (q0 := 1) rfl (As := [.int x1, .int shelf_day]) (rest := []) rfl rfl hl.1 (Nat.le_of_ble_eq_true rfl) dX9_clog_60 ⟨Nat.zero_le _, Nat.zero_le _⟩) hP hA [1, 2] rfl rfl (fun H locs hP => ?_)
          have hP : PD (dC, dI) A s.heap [(q0, .inr (9, [.ref q1, .ref q3, .ref q11, .ref q13, .ref q16, .ref q17, .ref q21, .ref q23, .ref q25, .ref q30])), (q11, .inr (4, [.ref q12, .int shelf_clogs, .int shelf_day])), (q12, .inl (cc 0, 50, .inl shelf_cells))] H locs := hP
          exact ret_i hC hr hlk hP dX9_clog_63 () (⟨Option.some.inj h, rfl⟩) rfl
      · have h := if_t c5 h
        refine lv_aload_n hx hb dX9_clog_27 rfl (lv_at hl 0 rfl) ?_
        refine g_get hC hP fg_X9_26 0 rfl rfl dX9_clog_28 ?_
        refine lv_iload_n hx hb dX9_clog_31 rfl (lv_at hl 1 rfl) ?_
        refine lv_aload_n hx hb dX9_clog_32 rfl (lv_at hl 0 rfl) ?_
        refine g_get hC hP fg_X9_26 0 rfl rfl dX9_clog_33 ?_
        refine g_get hC hP fg_X9_117 1 rfl rfl dX9_clog_36 ?_
        obtain ⟨r9, hu, h⟩ := bnd_h h
        refine kc_i (kV hC (c_X4_sizeOn l dC dI cc q11 q12 shelf_clogs shelf_day shelf_cells x1 shelf_day H.size r9 hu) cv_X9_120 kw459 rfl rfl ⟨(Nat.le_of_ble_eq_true rfl), (Nat.le_of_ble_eq_true rfl)⟩ hP [1, 2] rfl rfl rfl (q0 := 1) rfl (As := [.int x1, .int shelf_day]) (rest := []) rfl rfl hl.1 (Nat.le_of_ble_eq_true rfl) dX9_clog_39 ⟨Nat.zero_le _, Nat.zero_le _⟩) hP hA [1, 2] rfl rfl (fun H locs hP => ?_)
        have hP : PD (dC, dI) A s.heap [(q0, .inr (9, [.ref q1, .ref q3, .ref q11, .ref q13, .ref q16, .ref q17, .ref q21, .ref q23, .ref q25, .ref q30])), (q11, .inr (4, [.ref q12, .int shelf_clogs, .int shelf_day])), (q12, .inl (cc 0, 50, .inl shelf_cells))] H locs := hP
        exact ret_i hC hr hlk hP dX9_clog_42 () (⟨Option.some.inj h, rfl⟩) rfl
    · have h := if_t c4 h
      refine lv_iconst (v := -1) hx hb dX9_clog_20 (by decide) ?_
      exact ret_i hC hr hlk hP dX9_clog_21 () (⟨Option.some.inj h, rfl⟩) rfl
set_option maxHeartbeats 8000000 in
set_option maxRecDepth 100000 in
theorem c_X9_feet (l : Launch) (dC : Nat → ClassId) (dI : Nat → Nat → Nat) (cc : Nat → ClassId) (q0 q1 q3 q11 q13 q16 q17 q21 q23 q25 q30 q14 q15 : Nat) (waiting_number : Int32) (waiting_stocking : Int32) (waiting_lefts : (Nat → Int32)) (waiting_rights : (Nat → Int32)) (x1 : Int32) (x2 : Int32) (sz : Nat) (ret : Int32) (hu : f_X9_feet x1 x2 waiting_number waiting_lefts waiting_rights = some ret) : Met l yX9_feet (mw yX9_feet cX9_feet 3 (some .int)) ({ frames := 2, cells := 0, slots := 0, locals := 43 } : Room) (va_Pc [.ref q0, .int x1, .int x2] (mP (dC, dI) (ts cc) sz [(q0, .inr (9, [.ref q1, .ref q3, .ref q11, .ref q13, .ref q16, .ref q17, .ref q21, .ref q23, .ref q25, .ref q30])), (q13, .inr (6, [.ref q14, .ref q15, .int waiting_number, .int waiting_stocking])), (q14, .inl (cc 0, 5, .inl waiting_lefts)), (q15, .inl (cc 0, 5, .inl waiting_rights))])) ((fun A => va_Qi (fun (r : Int32) (w : Unit) => r = ret ∧ w = ()) (fun (w : Unit) t => va_P (dC, dI) classes [(q0, .inr (9, [.ref q1, .ref q3, .ref q11, .ref q13, .ref q16, .ref q17, .ref q21, .ref q23, .ref q25, .ref q30])), (q13, .inr (6, [.ref q14, .ref q15, .int waiting_number, .int waiting_stocking])), (q14, .inl (cc 0, 5, .inl waiting_lefts)), (q15, .inl (cc 0, 5, .inl waiting_rights))] t.heap) A) (va_A [(q0, .inr (9, [.ref q1, .ref q3, .ref q11, .ref q13, .ref q16, .ref q17, .ref q21, .ref q23, .ref q25, .ref q30])), (q13, .inr (6, [.ref q14, .ref q15, .int waiting_number, .int waiting_stocking])), (q14, .inl (cc 0, 5, .inl waiting_lefts)), (q15, .inl (cc 0, 5, .inl waiting_rights))] sz)) 0 0 (va_A [(q0, .inr (9, [.ref q1, .ref q3, .ref q11, .ref q13, .ref q16, .ref q17, .ref q21, .ref q23, .ref q25, .ref q30])), (q13, .inr (6, [.ref q14, .ref q15, .int waiting_number, .int waiting_stocking])), (q14, .inl (cc 0, 5, .inl waiting_lefts)), (q15, .inl (cc 0, 5, .inl waiting_rights))] sz) := by
  refine met_go (Qc := fun A => va_Qi (fun (r : Int32) (w : Unit) => r = ret ∧ w = ()) (fun (w : Unit) t => va_P (dC, dI) classes [(q0, .inr (9, [.ref q1, .ref q3, .ref q11, .ref q13, .ref q16, .ref q17, .ref q21, .ref q23, .ref q25, .ref q30])), (q13, .inr (6, [.ref q14, .ref q15, .int waiting_number, .int waiting_stocking])), (q14, .inl (cc 0, 5, .inl waiting_lefts)), (q15, .inl (cc 0, 5, .inl waiting_rights))] t.heap) A) (by decide) (Nat.le_of_ble_eq_true rfl) ?_
  intro p e s m below meth c A ls H locs hC hr hlk hin hA hP hl _
  have hC : CX p m c cX9_feet 3 s ([.ref q0, .int x1, .int x2] : List Value).toArray RX9 (dC, dI) (ts cc) := hC
  have hx := hC.1.1
  have hb := hC.1.2
  have h := hu
  have hu0 := hu
  unfold f_X9_feet at h
  have hl : lv_has ls 3 [(0, .ref q0), (1, .int x1), (2, .int x2)] := hl
  refine lv_iload_n hx hb dX9_feet_0 rfl (lv_at hl 1 rfl) ?_
  refine lv_iconst (v := 0) hx hb dX9_feet_1 (by decide) ?_
  refine lv_aload_n hx hb dX9_feet_2 rfl (lv_at hl 0 rfl) ?_
  refine g_get hC hP fg_X9_33 0 rfl rfl dX9_feet_3 ?_
  refine g_get hC hP fg_X9_130 1 rfl rfl dX9_feet_6 ?_
  refine lv_iconst (v := 1) hx hb dX9_feet_9 (by decide) ?_
  refine lv_isub hx hb dX9_feet_10 ?_
  obtain ⟨r1, hu, h⟩ := bnd_h h
  refine kc_z (kS hC (c_X9_within l dC dI cc x1 0 (waiting_number - 1) H.size r1 hu) cs_X9_99 kw338 rfl rfl ⟨(Nat.le_of_ble_eq_true rfl), (Nat.le_of_ble_eq_true rfl)⟩ hP [] rfl rfl (As := [.int x1, .int 0, .int (waiting_number - 1)]) (rest := []) rfl rfl hl.1 (Nat.le_of_ble_eq_true rfl) dX9_feet_11 ⟨Nat.zero_le _, Nat.zero_le _⟩) hP hA [] rfl rfl (fun hz_r1 H locs hP => ?_)
  have hP : PD (dC, dI) A s.heap [(q0, .inr (9, [.ref q1, .ref q3, .ref q11, .ref q13, .ref q16, .ref q17, .ref q21, .ref q23, .ref q25, .ref q30])), (q13, .inr (6, [.ref q14, .ref q15, .int waiting_number, .int waiting_stocking])), (q14, .inl (cc 0, 5, .inl waiting_lefts)), (q15, .inl (cc 0, 5, .inl waiting_rights))] H locs := hP
  refine lv_if_eq (tgt := 24) hx hb dX9_feet_14 (by decide) (fun c2 => ?_) (fun c2 => ?_)
  · have h := if_t c2 h
    refine lv_iconst (v := -1) hx hb dX9_feet_24 (by decide) ?_
    exact ret_i hC hr hlk hP dX9_feet_25 () (⟨Option.some.inj h, rfl⟩) rfl
  · have h := if_f c2 h
    refine lv_iload_n hx hb dX9_feet_17 rfl (lv_at hl 2 rfl) ?_
    obtain ⟨r3, hu, h⟩ := bnd_h h
    refine kc_z (kS hC (c_X9_isSide l dC dI cc x2 H.size r3 hu) cs_X9_133 kw341 rfl rfl ⟨(Nat.le_of_ble_eq_true rfl), (Nat.le_of_ble_eq_true rfl)⟩ hP [] rfl rfl (As := [.int x2]) (rest := []) rfl rfl hl.1 (Nat.le_of_ble_eq_true rfl) dX9_feet_18 ⟨Nat.zero_le _, Nat.zero_le _⟩) hP hA [] rfl rfl (fun hz_r3 H locs hP => ?_)
    have hP : PD (dC, dI) A s.heap [(q0, .inr (9, [.ref q1, .ref q3, .ref q11, .ref q13, .ref q16, .ref q17, .ref q21, .ref q23, .ref q25, .ref q30])), (q13, .inr (6, [.ref q14, .ref q15, .int waiting_number, .int waiting_stocking])), (q14, .inl (cc 0, 5, .inl waiting_lefts)), (q15, .inl (cc 0, 5, .inl waiting_rights))] H locs := hP
    refine lv_if_ne (tgt := 26) hx hb dX9_feet_21 (by decide) (fun c4 => ?_) (fun c4 => ?_)
    · have h := if_f c4 h
      refine lv_aload_n hx hb dX9_feet_26 rfl (lv_at hl 0 rfl) ?_
      refine g_get hC hP fg_X9_33 0 rfl rfl dX9_feet_27 ?_
      refine lv_iload_n hx hb dX9_feet_30 rfl (lv_at hl 1 rfl) ?_
      refine lv_iload_n hx hb dX9_feet_31 rfl (lv_at hl 2 rfl) ?_
      obtain ⟨r5, hu, h⟩ := bnd_h h
      refine kc_i (kV hC (c_X6_foot l dC dI cc q13 q14 q15 waiting_number waiting_stocking waiting_lefts waiting_rights x1 x2 H.size r5 hu) cv_X9_136 kw482 rfl rfl ⟨(Nat.le_of_ble_eq_true rfl), (Nat.le_of_ble_eq_true rfl)⟩ hP [1, 2, 3] rfl rfl rfl (q0 := 1) rfl (As := [.int x1, .int x2]) (rest := []) rfl rfl hl.1 (Nat.le_of_ble_eq_true rfl) dX9_feet_32 ⟨Nat.zero_le _, Nat.zero_le _⟩) hP hA [1, 2, 3] rfl rfl (fun H locs hP => ?_)
      have hP : PD (dC, dI) A s.heap [(q0, .inr (9, [.ref q1, .ref q3, .ref q11, .ref q13, .ref q16, .ref q17, .ref q21, .ref q23, .ref q25, .ref q30])), (q13, .inr (6, [.ref q14, .ref q15, .int waiting_number, .int waiting_stocking])), (q14, .inl (cc 0, 5, .inl waiting_lefts)), (q15, .inl (cc 0, 5, .inl waiting_rights))] H locs := hP
      exact ret_i hC hr hlk hP dX9_feet_35 () (⟨Option.some.inj h, rfl⟩) rfl
    · have h := if_t c4 h
      refine lv_iconst (v := -1) hx hb dX9_feet_24 (by decide) ?_
      exact ret_i hC hr hlk hP dX9_feet_25 () (⟨Option.some.inj h, rfl⟩) rfl
set_option maxHeartbeats 8000000 in
set_option maxRecDepth 100000 in
theorem c_X9_mates (l : Launch) (dC : Nat → ClassId) (dI : Nat → Nat → Nat) (cc : Nat → ClassId) (q0 q1 q3 q11 q13 q16 q17 q21 q23 q25 q30 q12 : Nat) (shelf_clogs : Int32) (shelf_day : Int32) (shelf_cells : (Nat → Int32)) (x1 : Int32) (sz : Nat) (ret : Int32) (hu : f_X9_mates x1 shelf_clogs shelf_day shelf_cells = some ret) : Met l yX9_mates (mw yX9_mates cX9_mates 2 (some .int)) ({ frames := 5, cells := 0, slots := 0, locals := 115 } : Room) (va_Pc [.ref q0, .int x1] (mP (dC, dI) (ts cc) sz [(q0, .inr (9, [.ref q1, .ref q3, .ref q11, .ref q13, .ref q16, .ref q17, .ref q21, .ref q23, .ref q25, .ref q30])), (q11, .inr (4, [.ref q12, .int shelf_clogs, .int shelf_day])), (q12, .inl (cc 0, 50, .inl shelf_cells))])) ((fun A => va_Qi (fun (r : Int32) (w : Unit) => r = ret ∧ w = ()) (fun (w : Unit) t => va_P (dC, dI) classes [(q0, .inr (9, [.ref q1, .ref q3, .ref q11, .ref q13, .ref q16, .ref q17, .ref q21, .ref q23, .ref q25, .ref q30])), (q11, .inr (4, [.ref q12, .int shelf_clogs, .int shelf_day])), (q12, .inl (cc 0, 50, .inl shelf_cells))] t.heap) A) (va_A [(q0, .inr (9, [.ref q1, .ref q3, .ref q11, .ref q13, .ref q16, .ref q17, .ref q21, .ref q23, .ref q25, .ref q30])), (q11, .inr (4, [.ref q12, .int shelf_clogs, .int shelf_day])), (q12, .inl (cc 0, 50, .inl shelf_cells))] sz)) 0 0 (va_A [(q0, .inr (9, [.ref q1, .ref q3, .ref q11, .ref q13, .ref q16, .ref q17, .ref q21, .ref q23, .ref q25, .ref q30])), (q11, .inr (4, [.ref q12, .int shelf_clogs, .int shelf_day])), (q12, .inl (cc 0, 50, .inl shelf_cells))] sz) := by
  refine met_go (Qc := fun A => va_Qi (fun (r : Int32) (w : Unit) => r = ret ∧ w = ()) (fun (w : Unit) t => va_P (dC, dI) classes [(q0, .inr (9, [.ref q1, .ref q3, .ref q11, .ref q13, .ref q16, .ref q17, .ref q21, .ref q23, .ref q25, .ref q30])), (q11, .inr (4, [.ref q12, .int shelf_clogs, .int shelf_day])), (q12, .inl (cc 0, 50, .inl shelf_cells))] t.heap) A) (by decide) (Nat.le_of_ble_eq_true rfl) ?_
  intro p e s m below meth c A ls H locs hC hr hlk hin hA hP hl _
  have hC : CX p m c cX9_mates 2 s ([.ref q0, .int x1] : List Value).toArray RX9 (dC, dI) (ts cc) := hC
  have hx := hC.1.1
  have hb := hC.1.2
  have h := hu
  have hu0 := hu
  unfold f_X9_mates at h
  have hl : lv_has ls 2 [(0, .ref q0), (1, .int x1)] := hl
  refine lv_aload_n hx hb dX9_mates_0 rfl (lv_at hl 0 rfl) ?_
  refine g_get hC hP fg_X9_26 0 rfl rfl dX9_mates_1 ?_
  refine lv_iload_n hx hb dX9_mates_4 rfl (lv_at hl 1 rfl) ?_
  obtain ⟨r1, hu, h⟩ := bnd_h h
  refine kc_z (kV hC (c_X4_holds l dC dI cc q11 q12 shelf_clogs shelf_day x1 H.size r1 hu) cv_X9_113 kw454 rfl rfl ⟨(Nat.le_of_ble_eq_true rfl), (Nat.le_of_ble_eq_true rfl)⟩ hP [1] rfl rfl rfl (q0 := 1) rfl (As := [.int x1]) (rest := []) rfl rfl hl.1 (Nat.le_of_ble_eq_true rfl) dX9_mates_5 ⟨Nat.zero_le _, Nat.zero_le _⟩) hP hA [1] rfl rfl (fun hz_r1 H locs hP => ?_)
  have hP : PD (dC, dI) A s.heap [(q0, .inr (9, [.ref q1, .ref q3, .ref q11, .ref q13, .ref q16, .ref q17, .ref q21, .ref q23, .ref q25, .ref q30])), (q11, .inr (4, [.ref q12, .int shelf_clogs, .int shelf_day])), (q12, .inl (cc 0, 50, .inl shelf_cells))] H locs := hP
  refine lv_if_ne (tgt := 13) hx hb dX9_mates_8 (by decide) (fun c2 => ?_) (fun c2 => ?_)
  · have h := if_f c2 h
    refine lv_aload_n hx hb dX9_mates_13 rfl (lv_at hl 0 rfl) ?_
    refine g_get hC hP fg_X9_26 0 rfl rfl dX9_mates_14 ?_
    refine lv_iload_n hx hb dX9_mates_17 rfl (lv_at hl 1 rfl) ?_
    obtain ⟨r3, hu, h⟩ := bnd_h h
    refine kc_i (kV hC (c_X4_matesOf l dC dI cc q11 q12 shelf_clogs shelf_day shelf_cells x1 H.size r3 hu) cv_X9_168 kw557 rfl rfl ⟨(Nat.le_of_ble_eq_true rfl), (Nat.le_of_ble_eq_true rfl)⟩ hP [1, 2] rfl rfl rfl (q0 := 1) rfl (As := [.int x1]) (rest := []) rfl rfl hl.1 (Nat.le_of_ble_eq_true rfl) dX9_mates_18 ⟨Nat.zero_le _, Nat.zero_le _⟩) hP hA [1, 2] rfl rfl (fun H locs hP => ?_)
    have hP : PD (dC, dI) A s.heap [(q0, .inr (9, [.ref q1, .ref q3, .ref q11, .ref q13, .ref q16, .ref q17, .ref q21, .ref q23, .ref q25, .ref q30])), (q11, .inr (4, [.ref q12, .int shelf_clogs, .int shelf_day])), (q12, .inl (cc 0, 50, .inl shelf_cells))] H locs := hP
    exact ret_i hC hr hlk hP dX9_mates_21 () (⟨Option.some.inj h, rfl⟩) rfl
  · have h := if_t c2 h
    refine lv_iconst (v := -1) hx hb dX9_mates_11 (by decide) ?_
    exact ret_i hC hr hlk hP dX9_mates_12 () (⟨Option.some.inj h, rfl⟩) rfl
set_option maxHeartbeats 8000000 in
set_option maxRecDepth 100000 in
theorem c_X9_pairs (l : Launch) (dC : Nat → ClassId) (dI : Nat → Nat → Nat) (cc : Nat → ClassId) (q0 q1 q3 q11 q13 q16 q17 q21 q23 q25 q30 q12 q26 q27 q28 q29 : Nat) (shelf_clogs : Int32) (shelf_day : Int32) (shelf_cells : (Nat → Int32)) (pairing_lefts : Int32) (pairing_clogs : Int32) (pairing_number : Int32) (pairing_apart : Int32) (pairing_sets : (Nat → Int32)) (pairing_mates : (Nat → Int32)) (pairing_sizes : (Nat → Int32)) (pairing_partners : (Nat → Int32)) (x1 : Int32) (sz : Nat) (ret : Int32) (o_pairing_sets : (Nat → Int32)) (o_pairing_mates : (Nat → Int32)) (o_pairing_sizes : (Nat → Int32)) (o_pairing_partners : (Nat → Int32)) (o_pairing_lefts : Int32) (o_pairing_clogs : Int32) (o_pairing_number : Int32) (o_pairing_apart : Int32) (hu : f_X9_pairs x1 shelf_clogs shelf_day shelf_cells pairing_lefts pairing_clogs pairing_number pairing_apart pairing_sets pairing_mates pairing_sizes pairing_partners = some (ret, o_pairing_sets, o_pairing_mates, o_pairing_sizes, o_pairing_partners, o_pairing_lefts, o_pairing_clogs, o_pairing_number, o_pairing_apart)) : Met l yX9_pairs (mw yX9_pairs cX9_pairs 2 (some .int)) ({ frames := 6, cells := 0, slots := 0, locals := 137 } : Room) (va_Pc [.ref q0, .int x1] (mP (dC, dI) (ts cc) sz [(q0, .inr (9, [.ref q1, .ref q3, .ref q11, .ref q13, .ref q16, .ref q17, .ref q21, .ref q23, .ref q25, .ref q30])), (q11, .inr (4, [.ref q12, .int shelf_clogs, .int shelf_day])), (q12, .inl (cc 0, 50, .inl shelf_cells)), (q25, .inr (1, [.ref q26, .ref q27, .ref q28, .ref q29, .int pairing_lefts, .int pairing_clogs, .int pairing_number, .int pairing_apart])), (q26, .inl (cc 0, 1024, .inl pairing_sets)), (q27, .inl (cc 0, 10, .inl pairing_mates)), (q28, .inl (cc 0, 10, .inl pairing_sizes)), (q29, .inl (cc 0, 10, .inl pairing_partners))])) ((fun A => va_Qi (fun (r : Int32) (w : (Nat → Int32) × (Nat → Int32) × (Nat → Int32) × (Nat → Int32) × Int32 × Int32 × Int32 × Int32) => r = ret ∧ w = (o_pairing_sets, o_pairing_mates, o_pairing_sizes, o_pairing_partners, o_pairing_lefts, o_pairing_clogs, o_pairing_number, o_pairing_apart)) (fun (w : (Nat → Int32) × (Nat → Int32) × (Nat → Int32) × (Nat → Int32) × Int32 × Int32 × Int32 × Int32) t => va_P (dC, dI) classes [(q0, .inr (9, [.ref q1, .ref q3, .ref q11, .ref q13, .ref q16, .ref q17, .ref q21, .ref q23, .ref q25, .ref q30])), (q11, .inr (4, [.ref q12, .int shelf_clogs, .int shelf_day])), (q12, .inl (cc 0, 50, .inl shelf_cells)), (q25, .inr (1, [.ref q26, .ref q27, .ref q28, .ref q29, .int w.2.2.2.2.1, .int w.2.2.2.2.2.1, .int w.2.2.2.2.2.2.1, .int w.2.2.2.2.2.2.2])), (q26, .inl (cc 0, 1024, .inl w.1)), (q27, .inl (cc 0, 10, .inl w.2.1)), (q28, .inl (cc 0, 10, .inl w.2.2.1)), (q29, .inl (cc 0, 10, .inl w.2.2.2.1))] t.heap) A) (va_A [(q0, .inr (9, [.ref q1, .ref q3, .ref q11, .ref q13, .ref q16, .ref q17, .ref q21, .ref q23, .ref q25, .ref q30])), (q11, .inr (4, [.ref q12, .int shelf_clogs, .int shelf_day])), (q12, .inl (cc 0, 50, .inl shelf_cells)), (q25, .inr (1, [.ref q26, .ref q27, .ref q28, .ref q29, .int pairing_lefts, .int pairing_clogs, .int pairing_number, .int pairing_apart])), (q26, .inl (cc 0, 1024, .inl pairing_sets)), (q27, .inl (cc 0, 10, .inl pairing_mates)), (q28, .inl (cc 0, 10, .inl pairing_sizes)), (q29, .inl (cc 0, 10, .inl pairing_partners))] sz)) 0 0 (va_A [(q0, .inr (9, [.ref q1, .ref q3, .ref q11, .ref q13, .ref q16, .ref q17, .ref q21, .ref q23, .ref q25, .ref q30])), (q11, .inr (4, [.ref q12, .int shelf_clogs, .int shelf_day])), (q12, .inl (cc 0, 50, .inl shelf_cells)), (q25, .inr (1, [.ref q26, .ref q27, .ref q28, .ref q29, .int pairing_lefts, .int pairing_clogs, .int pairing_number, .int pairing_apart])), (q26, .inl (cc 0, 1024, .inl pairing_sets)), (q27, .inl (cc 0, 10, .inl pairing_mates)), (q28, .inl (cc 0, 10, .inl pairing_sizes)), (q29, .inl (cc 0, 10, .inl pairing_partners))] sz) := by
  refine met_go (Qc := fun A => va_Qi (fun (r : Int32) (w : (Nat → Int32) × (Nat → Int32) × (Nat → Int32) × (Nat → Int32) × Int32 × Int32 × Int32 × Int32) => r = ret ∧ w = (o_pairing_sets, o_pairing_mates, o_pairing_sizes, o_pairing_partners, o_pairing_lefts, o_pairing_clogs, o_pairing_number, o_pairing_apart)) (fun (w : (Nat → Int32) × (Nat → Int32) × (Nat → Int32) × (Nat → Int32) × Int32 × Int32 × Int32 × Int32) t => va_P (dC, dI) classes [(q0, .inr (9, [.ref q1, .ref q3, .ref q11, .ref q13, .ref q16, .ref q17, .ref q21, .ref q23, .ref q25, .ref q30])), (q11, .inr (4, [.ref q12, .int shelf_clogs, .int shelf_day])), (q12, .inl (cc 0, 50, .inl shelf_cells)), (q25, .inr (1, [.ref q26, .ref q27, .ref q28, .ref q29, .int w.2.2.2.2.1, .int w.2.2.2.2.2.1, .int w.2.2.2.2.2.2.1, .int w.2.2.2.2.2.2.2])), (q26, .inl (cc 0, 1024, .inl w.1)), (q27, .inl (cc 0, 10, .inl w.2.1)), (q28, .inl (cc 0, 10, .inl w.2.2.1)), (q29, .inl (cc 0, 10, .inl w.2.2.2.1))] t.heap) A) (by decide) (Nat.le_of_ble_eq_true rfl) ?_
  intro p e s m below meth c A ls H locs hC hr hlk hin hA hP hl _
  have hC : CX p m c cX9_pairs 2 s ([.ref q0, .int x1] : List Value).toArray RX9 (dC, dI) (ts cc) := hC
  have hx := hC.1.1
  have hb := hC.1.2
  have h := hu
  have hu0 := hu
  unfold f_X9_pairs at h
  have hl : lv_has ls 2 [(0, .ref q0), (1, .int x1)] := hl
  refine lv_iload_n hx hb dX9_pairs_0 rfl (lv_at hl 1 rfl) ?_
  refine lv_bipush (v := -2) hx hb dX9_pairs_1 (by decide) ?_
  refine lv_aload_n hx hb dX9_pairs_3 rfl (lv_at hl 0 rfl) ?_
  refine g_get hC hP fg_X9_26 0 rfl rfl dX9_pairs_4 ?_
  refine g_get hC hP fg_X9_110 1 rfl rfl dX9_pairs_7 ?_
  refine lv_iconst (v := 1) hx hb dX9_pairs_10 (by decide) ?_
  refine lv_isub hx hb dX9_pairs_11 ?_
  obtain ⟨r1, hu, h⟩ := bnd_h h
  refine kc_z (kS hC (c_X9_within l dC dI cc x1 (-2) (shelf_clogs - 1) H.size r1 hu) cs_X9_99 kw338 rfl rfl ⟨(Nat.le_of_ble_eq_true rfl), (Nat.le_of_ble_eq_true rfl)⟩ hP [] rfl rfl (As := [.int x1, .int (-2), .int (shelf_clogs - 1)]) (rest := []) rfl rfl hl.1 (Nat.le_of_ble_eq_true rfl) dX9_pairs_12 ⟨Nat.zero_le _, Nat.zero_le _⟩) hP hA [] rfl rfl (fun hz_r1 H locs hP => ?_)
  have hP : PD (dC, dI) A s.heap [(q0, .inr (9, [.ref q1, .ref q3, .ref q11, .ref q13, .ref q16, .ref q17, .ref q21, .ref q23, .ref q25, .ref q30])), (q11, .inr (4, [.ref q12, .int shelf_clogs, .int shelf_day])), (q12, .inl (cc 0, 50, .inl shelf_cells)), (q25, .inr (1, [.ref q26, .ref q27, .ref q28, .ref q29, .int pairing_lefts, .int pairing_clogs, .int pairing_number, .int pairing_apart])), (q26, .inl (cc 0, 1024, .inl pairing_sets)), (q27, .inl (cc 0, 10, .inl pairing_mates)), (q28, .inl (cc 0, 10, .inl pairing_sizes)), (q29, .inl (cc 0, 10, .inl pairing_partners))] H locs := hP
  refine lv_if_ne (tgt := 20) hx hb dX9_pairs_15 (by decide) (fun c2 => ?_) (fun c2 => ?_)
  · have h := if_f c2 h
    refine lv_aload_n hx hb dX9_pairs_20 rfl (lv_at hl 0 rfl) ?_
    refine g_get hC hP fg_X9_66 0 rfl rfl dX9_pairs_21 ?_
    refine lv_aload_n hx hb dX9_pairs_24 rfl (lv_at hl 0 rfl) ?_
    refine g_get hC hP fg_X9_26 0 rfl rfl dX9_pairs_25 ?_
    obtain ⟨⟨w3, w4, w5, w6⟩, hu, h⟩ := bnd_h h
    refine kc_v (kV hC (c_X1_look l dC dI cc q25 q26 q27 q28 q29 q11 q12 pairing_lefts pairing_clogs pairing_number pairing_apart pairing_mates pairing_sizes shelf_clogs shelf_day shelf_cells H.size w3 w4 w5 w6 hu) cv_X9_172 kw566 rfl rfl ⟨(Nat.le_of_ble_eq_true rfl), (Nat.le_of_ble_eq_true rfl)⟩ hP [3, 5, 6, 1, 2] rfl rfl rfl (q0 := 3) rfl (As := [.ref q11]) (rest := []) rfl rfl hl.1 (Nat.le_of_ble_eq_true rfl) dX9_pairs_28 ⟨Nat.zero_le _, Nat.zero_le _⟩) hP hA [3, 5, 6, 1, 2] rfl rfl (fun H locs hP => ?_)
    have hP : PD (dC, dI) A s.heap [(q0, .inr (9, [.ref q1, .ref q3, .ref q11, .ref q13, .ref q16, .ref q17, .ref q21, .ref q23, .ref q25, .ref q30])), (q11, .inr (4, [.ref q12, .int shelf_clogs, .int shelf_day])), (q12, .inl (cc 0, 50, .inl shelf_cells)), (q25, .inr (1, [.ref q26, .ref q27, .ref q28, .ref q29, .int w5, .int w6, .int pairing_number, .int pairing_apart])), (q26, .inl (cc 0, 1024, .inl pairing_sets)), (q27, .inl (cc 0, 10, .inl w3)), (q28, .inl (cc 0, 10, .inl w4)), (q29, .inl (cc 0, 10, .inl pairing_partners))] H locs := hP
    refine lv_aload_n hx hb dX9_pairs_31 rfl (lv_at hl 0 rfl) ?_
    refine g_get hC hP fg_X9_66 0 rfl rfl dX9_pairs_32 ?_
    obtain ⟨⟨w7, w8, w9, w10⟩, hu, h⟩ := bnd_h h
    refine kc_v (kV hC (c_X1_match l dC dI cc q25 q26 q27 q28 q29 w5 w6 pairing_number pairing_apart pairing_sets w3 w4 pairing_partners H.size w7 w8 w9 w10 hu) cv_X9_175 kw579 rfl rfl ⟨(Nat.le_of_ble_eq_true rfl), (Nat.le_of_ble_eq_true rfl)⟩ hP [3, 4, 5, 6, 7] rfl rfl rfl (q0 := 3) rfl (As := []) (rest := []) rfl rfl hl.1 (Nat.le_of_ble_eq_true rfl) dX9_pairs_35 ⟨Nat.zero_le _, Nat.zero_le _⟩) hP hA [3, 4, 5, 6, 7] rfl rfl (fun H locs hP => ?_)
    have hP : PD (dC, dI) A s.heap [(q0, .inr (9, [.ref q1, .ref q3, .ref q11, .ref q13, .ref q16, .ref q17, .ref q21, .ref q23, .ref q25, .ref q30])), (q11, .inr (4, [.ref q12, .int shelf_clogs, .int shelf_day])), (q12, .inl (cc 0, 50, .inl shelf_cells)), (q25, .inr (1, [.ref q26, .ref q27, .ref q28, .ref q29, .int w5, .int w6, .int w9, .int w10])), (q26, .inl (cc 0, 1024, .inl w7)), (q27, .inl (cc 0, 10, .inl w3)), (q28, .inl (cc 0, 10, .inl w4)), (q29, .inl (cc 0, 10, .inl w8))] H locs := hP
    refine lv_iload_n hx hb dX9_pairs_38 rfl (lv_at hl 1 rfl) ?_
    refine lv_iconst (v := -1) hx hb dX9_pairs_39 (by decide) ?_
    refine lv_icmp_ne (tgt := 51) hx hb dX9_pairs_40 (by decide) (fun c11 => ?_) (fun c11 => ?_)
    · have h := if_f c11 h
      refine lv_iload_n hx hb dX9_pairs_51 rfl (lv_at hl 1 rfl) ?_
      refine lv_bipush (v := -2) hx hb dX9_pairs_52 (by decide) ?_
      refine lv_icmp_ne (tgt := 65) hx hb dX9_pairs_54 (by decide) (fun c12 => ?_) (fun c12 => ?_)
      · have h := if_f c12 h
        refine lv_aload_n hx hb dX9_pairs_65 rfl (lv_at hl 0 rfl) ?_
        refine g_get hC hP fg_X9_66 0 rfl rfl dX9_pairs_66 ?_
        refine lv_iload_n hx hb dX9_pairs_69 rfl (lv_at hl 1 rfl) ?_
        obtain ⟨r13, hu, h⟩ := bnd_h h
        refine kc_i (kV hC (c_X1_partnerOf l dC dI cc q25 q26 q27 q28 q29 w5 w6 w9 w10 w8 x1 H.size r13 hu) cv_X9_182 kw611 rfl rfl ⟨(Nat.le_of_ble_eq_true rfl), (Nat.le_of_ble_eq_true rfl)⟩ hP [3, 7] rfl rfl rfl (q0 := 3) rfl (As := [.int x1]) (rest := []) rfl rfl hl.1 (Nat.le_of_ble_eq_true rfl) dX9_pairs_70 ⟨Nat.zero_le _, Nat.zero_le _⟩) hP hA [3, 7] rfl rfl (fun H locs hP => ?_)
        have hP : PD (dC, dI) A s.heap [(q0, .inr (9, [.ref q1, .ref q3, .ref q11, .ref q13, .ref q16, .ref q17, .ref q21, .ref q23, .ref q25, .ref q30])), (q11, .inr (4, [.ref q12, .int shelf_clogs, .int shelf_day])), (q12, .inl (cc 0, 50, .inl shelf_cells)), (q25, .inr (1, [.ref q26, .ref q27, .ref q28, .ref q29, .int w5, .int w6, .int w9, .int w10])), (q26, .inl (cc 0, 1024, .inl w7)), (q27, .inl (cc 0, 10, .inl w3)), (q28, .inl (cc 0, 10, .inl w4)), (q29, .inl (cc 0, 10, .inl w8))] H locs := hP
        exact ret_i hC hr hlk hP dX9_pairs_73 (w7, w3, w4, w8, w5, w6, w9, w10) (Prod.mk.inj (Option.some.inj h)) rfl
      · have h := if_t c12 h
        refine lv_aload_n hx hb dX9_pairs_57 rfl (lv_at hl 0 rfl) ?_
        refine g_get hC hP fg_X9_66 0 rfl rfl dX9_pairs_58 ?_
        refine g_get hC hP fg_X9_179 3 rfl rfl dX9_pairs_61 ?_
        exact ret_i hC hr hlk hP dX9_pairs_64 (w7, w3, w4, w8, w5, w6, w9, w10) (Prod.mk.inj (Option.some.inj h)) rfl
    · have h := if_t c11 h
      refine lv_aload_n hx hb dX9_pairs_43 rfl (lv_at hl 0 rfl) ?_
      refine g_get hC hP fg_X9_66 0 rfl rfl dX9_pairs_44 ?_
      refine g_get hC hP fg_X9_178 3 rfl rfl dX9_pairs_47 ?_
      exact ret_i hC hr hlk hP dX9_pairs_50 (w7, w3, w4, w8, w5, w6, w9, w10) (Prod.mk.inj (Option.some.inj h)) rfl
  · have h := if_t c2 h
    refine lv_iconst (v := -1) hx hb dX9_pairs_18 (by decide) ?_
    exact ret_i hC hr hlk hP dX9_pairs_19 (pairing_sets, pairing_mates, pairing_sizes, pairing_partners, pairing_lefts, pairing_clogs, pairing_number, pairing_apart) (Prod.mk.inj (Option.some.inj h)) rfl
set_option maxHeartbeats 8000000 in
set_option maxRecDepth 100000 in
theorem c_X9_leftOver (l : Launch) (dC : Nat → ClassId) (dI : Nat → Nat → Nat) (cc : Nat → ClassId) (q0 q1 q3 q11 q13 q16 q17 q21 q23 q25 q30 q12 q26 q27 q28 q29 : Nat) (shelf_clogs : Int32) (shelf_day : Int32) (shelf_cells : (Nat → Int32)) (pairing_lefts : Int32) (pairing_clogs : Int32) (pairing_number : Int32) (pairing_apart : Int32) (pairing_sets : (Nat → Int32)) (pairing_mates : (Nat → Int32)) (pairing_sizes : (Nat → Int32)) (pairing_partners : (Nat → Int32)) (x1 : Int32) (sz : Nat) (ret : Int32) (o_pairing_sets : (Nat → Int32)) (o_pairing_mates : (Nat → Int32)) (o_pairing_sizes : (Nat → Int32)) (o_pairing_partners : (Nat → Int32)) (o_pairing_lefts : Int32) (o_pairing_clogs : Int32) (o_pairing_number : Int32) (o_pairing_apart : Int32) (hu : f_X9_leftOver x1 shelf_clogs shelf_day shelf_cells pairing_lefts pairing_clogs pairing_number pairing_apart pairing_sets pairing_mates pairing_sizes pairing_partners = some (ret, o_pairing_sets, o_pairing_mates, o_pairing_sizes, o_pairing_partners, o_pairing_lefts, o_pairing_clogs, o_pairing_number, o_pairing_apart)) : Met l yX9_leftOver (mw yX9_leftOver cX9_leftOver 2 (some .int)) ({ frames := 6, cells := 0, slots := 0, locals := 137 } : Room) (va_Pc [.ref q0, .int x1] (mP (dC, dI) (ts cc) sz [(q0, .inr (9, [.ref q1, .ref q3, .ref q11, .ref q13, .ref q16, .ref q17, .ref q21, .ref q23, .ref q25, .ref q30])), (q11, .inr (4, [.ref q12, .int shelf_clogs, .int shelf_day])), (q12, .inl (cc 0, 50, .inl shelf_cells)), (q25, .inr (1, [.ref q26, .ref q27, .ref q28, .ref q29, .int pairing_lefts, .int pairing_clogs, .int pairing_number, .int pairing_apart])), (q26, .inl (cc 0, 1024, .inl pairing_sets)), (q27, .inl (cc 0, 10, .inl pairing_mates)), (q28, .inl (cc 0, 10, .inl pairing_sizes)), (q29, .inl (cc 0, 10, .inl pairing_partners))])) ((fun A => va_Qi (fun (r : Int32) (w : (Nat → Int32) × (Nat → Int32) × (Nat → Int32) × (Nat → Int32) × Int32 × Int32 × Int32 × Int32) => r = ret ∧ w = (o_pairing_sets, o_pairing_mates, o_pairing_sizes, o_pairing_partners, o_pairing_lefts, o_pairing_clogs, o_pairing_number, o_pairing_apart)) (fun (w : (Nat → Int32) × (Nat → Int32) × (Nat → Int32) × (Nat → Int32) × Int32 × Int32 × Int32 × Int32) t => va_P (dC, dI) classes [(q0, .inr (9, [.ref q1, .ref q3, .ref q11, .ref q13, .ref q16, .ref q17, .ref q21, .ref q23, .ref q25, .ref q30])), (q11, .inr (4, [.ref q12, .int shelf_clogs, .int shelf_day])), (q12, .inl (cc 0, 50, .inl shelf_cells)), (q25, .inr (1, [.ref q26, .ref q27, .ref q28, .ref q29, .int w.2.2.2.2.1, .int w.2.2.2.2.2.1, .int w.2.2.2.2.2.2.1, .int w.2.2.2.2.2.2.2])), (q26, .inl (cc 0, 1024, .inl w.1)), (q27, .inl (cc 0, 10, .inl w.2.1)), (q28, .inl (cc 0, 10, .inl w.2.2.1)), (q29, .inl (cc 0, 10, .inl w.2.2.2.1))] t.heap) A) (va_A [(q0, .inr (9, [.ref q1, .ref q3, .ref q11, .ref q13, .ref q16, .ref q17, .ref q21, .ref q23, .ref q25, .ref q30])), (q11, .inr (4, [.ref q12, .int shelf_clogs, .int shelf_day])), (q12, .inl (cc 0, 50, .inl shelf_cells)), (q25, .inr (1, [.ref q26, .ref q27, .ref q28, .ref q29, .int pairing_lefts, .int pairing_clogs, .int pairing_number, .int pairing_apart])), (q26, .inl (cc 0, 1024, .inl pairing_sets)), (q27, .inl (cc 0, 10, .inl pairing_mates)), (q28, .inl (cc 0, 10, .inl pairing_sizes)), (q29, .inl (cc 0, 10, .inl pairing_partners))] sz)) 0 0 (va_A [(q0, .inr (9, [.ref q1, .ref q3, .ref q11, .ref q13, .ref q16, .ref q17, .ref q21, .ref q23, .ref q25, .ref q30])), (q11, .inr (4, [.ref q12, .int shelf_clogs, .int shelf_day])), (q12, .inl (cc 0, 50, .inl shelf_cells)), (q25, .inr (1, [.ref q26, .ref q27, .ref q28, .ref q29, .int pairing_lefts, .int pairing_clogs, .int pairing_number, .int pairing_apart])), (q26, .inl (cc 0, 1024, .inl pairing_sets)), (q27, .inl (cc 0, 10, .inl pairing_mates)), (q28, .inl (cc 0, 10, .inl pairing_sizes)), (q29, .inl (cc 0, 10, .inl pairing_partners))] sz) := by
  refine met_go (Qc := fun A => va_Qi (fun (r : Int32) (w : (Nat → Int32) × (Nat → Int32) × (Nat → Int32) × (Nat → Int32) × Int32 × Int32 × Int32 × Int32) => r = ret ∧ w = (o_pairing_sets, o_pairing_mates, o_pairing_sizes, o_pairing_partners, o_pairing_lefts, o_pairing_clogs, o_pairing_number, o_pairing_apart)) (fun (w : (Nat → Int32) × (Nat → Int32) × (Nat → Int32) × (Nat → Int32) × Int32 × Int32 × Int32 × Int32) t => va_P (dC, dI) classes [(q0, .inr (9, [.ref q1, .ref q3, .ref q11, .ref q13, .ref q16, .ref q17, .ref q21, .ref q23, .ref q25, .ref q30])), (q11, .inr (4, [.ref q12, .int shelf_clogs, .int shelf_day])), (q12, .inl (cc 0, 50, .inl shelf_cells)), (q25, .inr (1, [.ref q26, .ref q27, .ref q28, .ref q29, .int w.2.2.2.2.1, .int w.2.2.2.2.2.1, .int w.2.2.2.2.2.2.1, .int w.2.2.2.2.2.2.2])), (q26, .inl (cc 0, 1024, .inl w.1)), (q27, .inl (cc 0, 10, .inl w.2.1)), (q28, .inl (cc 0, 10, .inl w.2.2.1)), (q29, .inl (cc 0, 10, .inl w.2.2.2.1))] t.heap) A) (by decide) (Nat.le_of_ble_eq_true rfl) ?_
  intro p e s m below meth c A ls H locs hC hr hlk hin hA hP hl _
  have hC : CX p m c cX9_leftOver 2 s ([.ref q0, .int x1] : List Value).toArray RX9 (dC, dI) (ts cc) := hC
  have hx := hC.1.1
  have hb := hC.1.2
  have h := hu
  have hu0 := hu
  unfold f_X9_leftOver at h
  have hl : lv_has ls 2 [(0, .ref q0), (1, .int x1)] := hl
  refine lv_iload_n hx hb dX9_leftOver_0 rfl (lv_at hl 1 rfl) ?_
  obtain ⟨r1, hu, h⟩ := bnd_h h
  refine kc_z (kS hC (c_X9_isSide l dC dI cc x1 H.size r1 hu) cs_X9_133 kw341 rfl rfl ⟨(Nat.le_of_ble_eq_true rfl), (Nat.le_of_ble_eq_true rfl)⟩ hP [] rfl rfl (As := [.int x1]) (rest := []) rfl rfl hl.1 (Nat.le_of_ble_eq_true rfl) dX9_leftOver_1 ⟨Nat.zero_le _, Nat.zero_le _⟩) hP hA [] rfl rfl (fun hz_r1 H locs hP => ?_)
  have hP : PD (dC, dI) A s.heap [(q0, .inr (9, [.ref q1, .ref q3, .ref q11, .ref q13, .ref q16, .ref q17, .ref q21, .ref q23, .ref q25, .ref q30])), (q11, .inr (4, [.ref q12, .int shelf_clogs, .int shelf_day])), (q12, .inl (cc 0, 50, .inl shelf_cells)), (q25, .inr (1, [.ref q26, .ref q27, .ref q28, .ref q29, .int pairing_lefts, .int pairing_clogs, .int pairing_number, .int pairing_apart])), (q26, .inl (cc 0, 1024, .inl pairing_sets)), (q27, .inl (cc 0, 10, .inl pairing_mates)), (q28, .inl (cc 0, 10, .inl pairing_sizes)), (q29, .inl (cc 0, 10, .inl pairing_partners))] H locs := hP
  refine lv_if_ne (tgt := 9) hx hb dX9_leftOver_4 (by decide) (fun c2 => ?_) (fun c2 => ?_)
  · have h := if_f c2 h
    refine lv_aload_n hx hb dX9_leftOver_9 rfl (lv_at hl 0 rfl) ?_
    refine g_get hC hP fg_X9_66 0 rfl rfl dX9_leftOver_10 ?_
    refine lv_aload_n hx hb dX9_leftOver_13 rfl (lv_at hl 0 rfl) ?_
    refine g_get hC hP fg_X9_26 0 rfl rfl dX9_leftOver_14 ?_
    obtain ⟨⟨w3, w4, w5, w6⟩, hu, h⟩ := bnd_h h
    refine kc_v (kV hC (c_X1_look l dC dI cc q25 q26 q27 q28 q29 q11 q12 pairing_lefts pairing_clogs pairing_number pairing_apart pairing_mates pairing_sizes shelf_clogs shelf_day shelf_cells H.size w3 w4 w5 w6 hu) cv_X9_172 kw566 rfl rfl ⟨(Nat.le_of_ble_eq_true rfl), (Nat.le_of_ble_eq_true rfl)⟩ hP [3, 5, 6, 1, 2] rfl rfl rfl (q0 := 3) rfl (As := [.ref q11]) (rest := []) rfl rfl hl.1 (Nat.le_of_ble_eq_true rfl) dX9_leftOver_17 ⟨Nat.zero_le _, Nat.zero_le _⟩) hP hA [3, 5, 6, 1, 2] rfl rfl (fun H locs hP => ?_)
    have hP : PD (dC, dI) A s.heap [(q0, .inr (9, [.ref q1, .ref q3, .ref q11, .ref q13, .ref q16, .ref q17, .ref q21, .ref q23, .ref q25, .ref q30])), (q11, .inr (4, [.ref q12, .int shelf_clogs, .int shelf_day])), (q12, .inl (cc 0, 50, .inl shelf_cells)), (q25, .inr (1, [.ref q26, .ref q27, .ref q28, .ref q29, .int w5, .int w6, .int pairing_number, .int pairing_apart])), (q26, .inl (cc 0, 1024, .inl pairing_sets)), (q27, .inl (cc 0, 10, .inl w3)), (q28, .inl (cc 0, 10, .inl w4)), (q29, .inl (cc 0, 10, .inl pairing_partners))] H locs := hP
    refine lv_aload_n hx hb dX9_leftOver_20 rfl (lv_at hl 0 rfl) ?_
    refine g_get hC hP fg_X9_66 0 rfl rfl dX9_leftOver_21 ?_
    obtain ⟨⟨w7, w8, w9, w10⟩, hu, h⟩ := bnd_h h
    refine kc_v (kV hC (c_X1_match l dC dI cc q25 q26 q27 q28 q29 w5 w6 pairing_number pairing_apart pairing_sets w3 w4 pairing_partners H.size w7 w8 w9 w10 hu) cv_X9_175 kw579 rfl rfl ⟨(Nat.le_of_ble_eq_true rfl), (Nat.le_of_ble_eq_true rfl)⟩ hP [3, 4, 5, 6, 7] rfl rfl rfl (q0 := 3) rfl (As := []) (rest := []) rfl rfl hl.1 (Nat.le_of_ble_eq_true rfl) dX9_leftOver_24 ⟨Nat.zero_le _, Nat.zero_le _⟩) hP hA [3, 4, 5, 6, 7] rfl rfl (fun H locs hP => ?_)
    have hP : PD (dC, dI) A s.heap [(q0, .inr (9, [.ref q1, .ref q3, .ref q11, .ref q13, .ref q16, .ref q17, .ref q21, .ref q23, .ref q25, .ref q30])), (q11, .inr (4, [.ref q12, .int shelf_clogs, .int shelf_day])), (q12, .inl (cc 0, 50, .inl shelf_cells)), (q25, .inr (1, [.ref q26, .ref q27, .ref q28, .ref q29, .int w5, .int w6, .int w9, .int w10])), (q26, .inl (cc 0, 1024, .inl w7)), (q27, .inl (cc 0, 10, .inl w3)), (q28, .inl (cc 0, 10, .inl w4)), (q29, .inl (cc 0, 10, .inl w8))] H locs := hP
    refine lv_aload_n hx hb dX9_leftOver_27 rfl (lv_at hl 0 rfl) ?_
    refine g_get hC hP fg_X9_26 0 rfl rfl dX9_leftOver_28 ?_
    refine lv_iload_n hx hb dX9_leftOver_31 rfl (lv_at hl 1 rfl) ?_
    obtain ⟨r11, hu, h⟩ := bnd_h h
    refine kc_i (kV hC (c_X4_ofSide l dC dI cc q11 q12 shelf_clogs shelf_day shelf_cells x1 H.size r11 hu) cv_X9_185 kw572 rfl rfl ⟨(Nat.le_of_ble_eq_true rfl), (Nat.le_of_ble_eq_true rfl)⟩ hP [1, 2] rfl rfl rfl (q0 := 1) rfl (As := [.int x1]) (rest := []) rfl rfl hl.1 (Nat.le_of_ble_eq_true rfl) dX9_leftOver_32 ⟨Nat.zero_le _, Nat.zero_le _⟩) hP hA [1, 2] rfl rfl (fun H locs hP => ?_)
    have hP : PD (dC, dI) A s.heap [(q0, .inr (9, [.ref q1, .ref q3, .ref q11, .ref q13, .ref q16, .ref q17, .ref q21, .ref q23, .ref q25, .ref q30])), (q11, .inr (4, [.ref q12, .int shelf_clogs, .int shelf_day])), (q12, .inl (cc 0, 50, .inl shelf_cells)), (q25, .inr (1, [.ref q26, .ref q27, .ref q28, .ref q29, .int w5, .int w6, .int w9, .int w10])), (q26, .inl (cc 0, 1024, .inl w7)), (q27, .inl (cc 0, 10, .inl w3)), (q28, .inl (cc 0, 10, .inl w4)), (q29, .inl (cc 0, 10, .inl w8))] H locs := hP
    obtain ⟨r12, hu, h⟩ := bnd_h h
    refine kc_i (kS hC (c_J6_bitCount_0f7a4 l dC dI cc r11 H.size r12 hu) cs_X9_188 kw619 rfl rfl ⟨(Nat.le_of_ble_eq_true rfl), (Nat.le_of_ble_eq_true rfl)⟩ hP [] rfl rfl (As := [.int r11]) (rest := []) rfl rfl hl.1 (Nat.le_of_ble_eq_true rfl) dX9_leftOver_35 ⟨Nat.zero_le _, Nat.zero_le _⟩) hP hA [] rfl rfl (fun H locs hP => ?_)
    have hP : PD (dC, dI) A s.heap [(q0, .inr (9, [.ref q1, .ref q3, .ref q11, .ref q13, .ref q16, .ref q17, .ref q21, .ref q23, .ref q25, .ref q30])), (q11, .inr (4, [.ref q12, .int shelf_clogs, .int shelf_day])), (q12, .inl (cc 0, 50, .inl shelf_cells)), (q25, .inr (1, [.ref q26, .ref q27, .ref q28, .ref q29, .int w5, .int w6, .int w9, .int w10])), (q26, .inl (cc 0, 1024, .inl w7)), (q27, .inl (cc 0, 10, .inl w3)), (q28, .inl (cc 0, 10, .inl w4)), (q29, .inl (cc 0, 10, .inl w8))] H locs := hP
    refine lv_aload_n hx hb dX9_leftOver_38 rfl (lv_at hl 0 rfl) ?_
    refine g_get hC hP fg_X9_66 0 rfl rfl dX9_leftOver_39 ?_
    refine g_get hC hP fg_X9_178 3 rfl rfl dX9_leftOver_42 ?_
    refine lv_isub hx hb dX9_leftOver_45 ?_
    exact ret_i hC hr hlk hP dX9_leftOver_46 (w7, w3, w4, w8, w5, w6, w9, w10) (Prod.mk.inj (Option.some.inj h)) rfl
  · have h := if_t c2 h
    refine lv_iconst (v := -1) hx hb dX9_leftOver_7 (by decide) ?_
    exact ret_i hC hr hlk hP dX9_leftOver_8 (pairing_sets, pairing_mates, pairing_sizes, pairing_partners, pairing_lefts, pairing_clogs, pairing_number, pairing_apart) (Prod.mk.inj (Option.some.inj h)) rfl
set_option maxHeartbeats 8000000 in
set_option maxRecDepth 100000 in
theorem c_X9_served (l : Launch) (dC : Nat → ClassId) (dI : Nat → Nat → Nat) (cc : Nat → ClassId) (q0 q1 q3 q11 q13 q16 q17 q21 q23 q25 q30 q12 q14 q15 q26 q27 q28 q29 : Nat) (shelf_clogs : Int32) (shelf_day : Int32) (shelf_cells : (Nat → Int32)) (waiting_number : Int32) (waiting_stocking : Int32) (waiting_lefts : (Nat → Int32)) (waiting_rights : (Nat → Int32)) (pairing_lefts : Int32) (pairing_clogs : Int32) (pairing_number : Int32) (pairing_apart : Int32) (pairing_sets : (Nat → Int32)) (pairing_mates : (Nat → Int32)) (pairing_sizes : (Nat → Int32)) (sz : Nat) (ret : Int32) (o_pairing_sets : (Nat → Int32)) (o_pairing_mates : (Nat → Int32)) (o_pairing_sizes : (Nat → Int32)) (o_pairing_lefts : Int32) (o_pairing_clogs : Int32) (hu : f_X9_served shelf_clogs shelf_day shelf_cells waiting_number waiting_stocking waiting_lefts waiting_rights pairing_sets pairing_mates pairing_sizes = some (ret, o_pairing_sets, o_pairing_mates, o_pairing_sizes, o_pairing_lefts, o_pairing_clogs)) : Met l yX9_served (mw yX9_served cX9_served 1 (some .int)) ({ frames := 6, cells := 0, slots := 0, locals := 137 } : Room) (va_Pc [.ref q0] (mP (dC, dI) (ts cc) sz [(q0, .inr (9, [.ref q1, .ref q3, .ref q11, .ref q13, .ref q16, .ref q17, .ref q21, .ref q23, .ref q25, .ref q30])), (q11, .inr (4, [.ref q12, .int shelf_clogs, .int shelf_day])), (q12, .inl (cc 0, 50, .inl shelf_cells)), (q13, .inr (6, [.ref q14, .ref q15, .int waiting_number, .int waiting_stocking])), (q14, .inl (cc 0, 5, .inl waiting_lefts)), (q15, .inl (cc 0, 5, .inl waiting_rights)), (q25, .inr (1, [.ref q26, .ref q27, .ref q28, .ref q29, .int pairing_lefts, .int pairing_clogs, .int pairing_number, .int pairing_apart])), (q26, .inl (cc 0, 1024, .inl pairing_sets)), (q27, .inl (cc 0, 10, .inl pairing_mates)), (q28, .inl (cc 0, 10, .inl pairing_sizes))])) ((fun A => va_Qi (fun (r : Int32) (w : (Nat → Int32) × (Nat → Int32) × (Nat → Int32) × Int32 × Int32) => r = ret ∧ w = (o_pairing_sets, o_pairing_mates, o_pairing_sizes, o_pairing_lefts, o_pairing_clogs)) (fun (w : (Nat → Int32) × (Nat → Int32) × (Nat → Int32) × Int32 × Int32) t => va_P (dC, dI) classes [(q0, .inr (9, [.ref q1, .ref q3, .ref q11, .ref q13, .ref q16, .ref q17, .ref q21, .ref q23, .ref q25, .ref q30])), (q11, .inr (4, [.ref q12, .int shelf_clogs, .int shelf_day])), (q12, .inl (cc 0, 50, .inl shelf_cells)), (q13, .inr (6, [.ref q14, .ref q15, .int waiting_number, .int waiting_stocking])), (q14, .inl (cc 0, 5, .inl waiting_lefts)), (q15, .inl (cc 0, 5, .inl waiting_rights)), (q25, .inr (1, [.ref q26, .ref q27, .ref q28, .ref q29, .int w.2.2.2.1, .int w.2.2.2.2, .int pairing_number, .int pairing_apart])), (q26, .inl (cc 0, 1024, .inl w.1)), (q27, .inl (cc 0, 10, .inl w.2.1)), (q28, .inl (cc 0, 10, .inl w.2.2.1))] t.heap) A) (va_A [(q0, .inr (9, [.ref q1, .ref q3, .ref q11, .ref q13, .ref q16, .ref q17, .ref q21, .ref q23, .ref q25, .ref q30])), (q11, .inr (4, [.ref q12, .int shelf_clogs, .int shelf_day])), (q12, .inl (cc 0, 50, .inl shelf_cells)), (q13, .inr (6, [.ref q14, .ref q15, .int waiting_number, .int waiting_stocking])), (q14, .inl (cc 0, 5, .inl waiting_lefts)), (q15, .inl (cc 0, 5, .inl waiting_rights)), (q25, .inr (1, [.ref q26, .ref q27, .ref q28, .ref q29, .int pairing_lefts, .int pairing_clogs, .int pairing_number, .int pairing_apart])), (q26, .inl (cc 0, 1024, .inl pairing_sets)), (q27, .inl (cc 0, 10, .inl pairing_mates)), (q28, .inl (cc 0, 10, .inl pairing_sizes))] sz)) 0 0 (va_A [(q0, .inr (9, [.ref q1, .ref q3, .ref q11, .ref q13, .ref q16, .ref q17, .ref q21, .ref q23, .ref q25, .ref q30])), (q11, .inr (4, [.ref q12, .int shelf_clogs, .int shelf_day])), (q12, .inl (cc 0, 50, .inl shelf_cells)), (q13, .inr (6, [.ref q14, .ref q15, .int waiting_number, .int waiting_stocking])), (q14, .inl (cc 0, 5, .inl waiting_lefts)), (q15, .inl (cc 0, 5, .inl waiting_rights)), (q25, .inr (1, [.ref q26, .ref q27, .ref q28, .ref q29, .int pairing_lefts, .int pairing_clogs, .int pairing_number, .int pairing_apart])), (q26, .inl (cc 0, 1024, .inl pairing_sets)), (q27, .inl (cc 0, 10, .inl pairing_mates)), (q28, .inl (cc 0, 10, .inl pairing_sizes))] sz) := by
  refine met_go (Qc := fun A => va_Qi (fun (r : Int32) (w : (Nat → Int32) × (Nat → Int32) × (Nat → Int32) × Int32 × Int32) => r = ret ∧ w = (o_pairing_sets, o_pairing_mates, o_pairing_sizes, o_pairing_lefts, o_pairing_clogs)) (fun (w : (Nat → Int32) × (Nat → Int32) × (Nat → Int32) × Int32 × Int32) t => va_P (dC, dI) classes [(q0, .inr (9, [.ref q1, .ref q3, .ref q11, .ref q13, .ref q16, .ref q17, .ref q21, .ref q23, .ref q25, .ref q30])), (q11, .inr (4, [.ref q12, .int shelf_clogs, .int shelf_day])), (q12, .inl (cc 0, 50, .inl shelf_cells)), (q13, .inr (6, [.ref q14, .ref q15, .int waiting_number, .int waiting_stocking])), (q14, .inl (cc 0, 5, .inl waiting_lefts)), (q15, .inl (cc 0, 5, .inl waiting_rights)), (q25, .inr (1, [.ref q26, .ref q27, .ref q28, .ref q29, .int w.2.2.2.1, .int w.2.2.2.2, .int pairing_number, .int pairing_apart])), (q26, .inl (cc 0, 1024, .inl w.1)), (q27, .inl (cc 0, 10, .inl w.2.1)), (q28, .inl (cc 0, 10, .inl w.2.2.1))] t.heap) A) (by decide) (Nat.le_of_ble_eq_true rfl) ?_
  intro p e s m below meth c A ls H locs hC hr hlk hin hA hP hl _
  have hC : CX p m c cX9_served 1 s ([.ref q0] : List Value).toArray RX9 (dC, dI) (ts cc) := hC
  have hx := hC.1.1
  have hb := hC.1.2
  have h := hu
  have hu0 := hu
  unfold f_X9_served at h
  have hl : lv_has ls 1 [(0, .ref q0)] := hl
  refine lv_aload_n hx hb dX9_served_0 rfl (lv_at hl 0 rfl) ?_
  refine g_get hC hP fg_X9_66 0 rfl rfl dX9_served_1 ?_
  refine lv_aload_n hx hb dX9_served_4 rfl (lv_at hl 0 rfl) ?_
  refine g_get hC hP fg_X9_26 0 rfl rfl dX9_served_5 ?_
  obtain ⟨⟨w1, w2, w3, w4⟩, hu, h⟩ := bnd_h h
  refine kc_v (kV hC (c_X1_look l dC dI cc q25 q26 q27 q28 q29 q11 q12 pairing_lefts pairing_clogs pairing_number pairing_apart pairing_mates pairing_sizes shelf_clogs shelf_day shelf_cells H.size w1 w2 w3 w4 hu) cv_X9_172 kw566 rfl rfl ⟨(Nat.le_of_ble_eq_true rfl), (Nat.le_of_ble_eq_true rfl)⟩ hP [6, 8, 9, 1, 2] rfl rfl rfl (q0 := 6) rfl (As := [.ref q11]) (rest := []) rfl rfl hl.1 (Nat.le_of_ble_eq_true rfl) dX9_served_8 ⟨Nat.zero_le _, Nat.zero_le _⟩) hP hA [6, 8, 9, 1, 2] rfl rfl (fun H locs hP => ?_)
  have hP : PD (dC, dI) A s.heap [(q0, .inr (9, [.ref q1, .ref q3, .ref q11, .ref q13, .ref q16, .ref q17, .ref q21, .ref q23, .ref q25, .ref q30])), (q11, .inr (4, [.ref q12, .int shelf_clogs, .int shelf_day])), (q12, .inl (cc 0, 50, .inl shelf_cells)), (q13, .inr (6, [.ref q14, .ref q15, .int waiting_number, .int waiting_stocking])), (q14, .inl (cc 0, 5, .inl waiting_lefts)), (q15, .inl (cc 0, 5, .inl waiting_rights)), (q25, .inr (1, [.ref q26, .ref q27, .ref q28, .ref q29, .int w3, .int w4, .int pairing_number, .int pairing_apart])), (q26, .inl (cc 0, 1024, .inl pairing_sets)), (q27, .inl (cc 0, 10, .inl w1)), (q28, .inl (cc 0, 10, .inl w2))] H locs := hP
  refine lv_aload_n hx hb dX9_served_11 rfl (lv_at hl 0 rfl) ?_
  refine g_get hC hP fg_X9_66 0 rfl rfl dX9_served_12 ?_
  refine lv_aload_n hx hb dX9_served_15 rfl (lv_at hl 0 rfl) ?_
  refine g_get hC hP fg_X9_33 0 rfl rfl dX9_served_16 ?_
  obtain ⟨⟨r5, w6⟩, hu, h⟩ := bnd_h h
  refine kc_i (kV hC (c_X1_serve l dC dI cc q25 q26 q27 q28 q29 q13 q14 q15 w3 w4 pairing_number pairing_apart pairing_sets w1 w2 waiting_number waiting_stocking waiting_lefts waiting_rights H.size r5 w6 hu) cv_X9_193 kw630 rfl rfl ⟨(Nat.le_of_ble_eq_true rfl), (Nat.le_of_ble_eq_true rfl)⟩ hP [6, 7, 8, 9, 3, 4, 5] rfl rfl rfl (q0 := 6) rfl (As := [.ref q13]) (rest := []) rfl rfl hl.1 (Nat.le_of_ble_eq_true rfl) dX9_served_19 ⟨Nat.zero_le _, Nat.zero_le _⟩) hP hA [6, 7, 8, 9, 3, 4, 5] rfl rfl (fun H locs hP => ?_)
  have hP : PD (dC, dI) A s.heap [(q0, .inr (9, [.ref q1, .ref q3, .ref q11, .ref q13, .ref q16, .ref q17, .ref q21, .ref q23, .ref q25, .ref q30])), (q11, .inr (4, [.ref q12, .int shelf_clogs, .int shelf_day])), (q12, .inl (cc 0, 50, .inl shelf_cells)), (q13, .inr (6, [.ref q14, .ref q15, .int waiting_number, .int waiting_stocking])), (q14, .inl (cc 0, 5, .inl waiting_lefts)), (q15, .inl (cc 0, 5, .inl waiting_rights)), (q25, .inr (1, [.ref q26, .ref q27, .ref q28, .ref q29, .int w3, .int w4, .int pairing_number, .int pairing_apart])), (q26, .inl (cc 0, 1024, .inl w6)), (q27, .inl (cc 0, 10, .inl w1)), (q28, .inl (cc 0, 10, .inl w2))] H locs := hP
  exact ret_i hC hr hlk hP dX9_served_22 (w6, w1, w2, w3, w4) (Prod.mk.inj (Option.some.inj h)) rfl
set_option maxHeartbeats 8000000 in
set_option maxRecDepth 100000 in
theorem c_X9_whose (l : Launch) (dC : Nat → ClassId) (dI : Nat → Nat → Nat) (cc : Nat → ClassId) (q0 q1 q3 q11 q13 q16 q17 q21 q23 q25 q30 q12 q14 q15 : Nat) (shelf_clogs : Int32) (shelf_day : Int32) (shelf_cells : (Nat → Int32)) (waiting_number : Int32) (waiting_stocking : Int32) (waiting_lefts : (Nat → Int32)) (waiting_rights : (Nat → Int32)) (x1 : Int32) (sz : Nat) (ret : Int32) (hu : f_X9_whose x1 shelf_clogs shelf_day shelf_cells waiting_number waiting_stocking waiting_lefts waiting_rights = some ret) : Met l yX9_whose (mw yX9_whose cX9_whose 4 (some .int)) ({ frames := 3, cells := 0, slots := 0, locals := 68 } : Room) (va_Pc [.ref q0, .int x1] (mP (dC, dI) (ts cc) sz [(q0, .inr (9, [.ref q1, .ref q3, .ref q11, .ref q13, .ref q16, .ref q17, .ref q21, .ref q23, .ref q25, .ref q30])), (q11, .inr (4, [.ref q12, .int shelf_clogs, .int shelf_day])), (q12, .inl (cc 0, 50, .inl shelf_cells)), (q13, .inr (6, [.ref q14, .ref q15, .int waiting_number, .int waiting_stocking])), (q14, .inl (cc 0, 5, .inl waiting_lefts)), (q15, .inl (cc 0, 5, .inl waiting_rights))])) ((fun A => va_Qi (fun (r : Int32) (w : Unit) => r = ret ∧ w = ()) (fun (w : Unit) t => va_P (dC, dI) classes [(q0, .inr (9, [.ref q1, .ref q3, .ref q11, .ref q13, .ref q16, .ref q17, .ref q21, .ref q23, .ref q25, .ref q30])), (q11, .inr (4, [.ref q12, .int shelf_clogs, .int shelf_day])), (q12, .inl (cc 0, 50, .inl shelf_cells)), (q13, .inr (6, [.ref q14, .ref q15, .int waiting_number, .int waiting_stocking])), (q14, .inl (cc 0, 5, .inl waiting_lefts)), (q15, .inl (cc 0, 5, .inl waiting_rights))] t.heap) A) (va_A [(q0, .inr (9, [.ref q1, .ref q3, .ref q11, .ref q13, .ref q16, .ref q17, .ref q21, .ref q23, .ref q25, .ref q30])), (q11, .inr (4, [.ref q12, .int shelf_clogs, .int shelf_day])), (q12, .inl (cc 0, 50, .inl shelf_cells)), (q13, .inr (6, [.ref q14, .ref q15, .int waiting_number, .int waiting_stocking])), (q14, .inl (cc 0, 5, .inl waiting_lefts)), (q15, .inl (cc 0, 5, .inl waiting_rights))] sz)) 0 0 (va_A [(q0, .inr (9, [.ref q1, .ref q3, .ref q11, .ref q13, .ref q16, .ref q17, .ref q21, .ref q23, .ref q25, .ref q30])), (q11, .inr (4, [.ref q12, .int shelf_clogs, .int shelf_day])), (q12, .inl (cc 0, 50, .inl shelf_cells)), (q13, .inr (6, [.ref q14, .ref q15, .int waiting_number, .int waiting_stocking])), (q14, .inl (cc 0, 5, .inl waiting_lefts)), (q15, .inl (cc 0, 5, .inl waiting_rights))] sz) := by
  refine met_go (Qc := fun A => va_Qi (fun (r : Int32) (w : Unit) => r = ret ∧ w = ()) (fun (w : Unit) t => va_P (dC, dI) classes [(q0, .inr (9, [.ref q1, .ref q3, .ref q11, .ref q13, .ref q16, .ref q17, .ref q21, .ref q23, .ref q25, .ref q30])), (q11, .inr (4, [.ref q12, .int shelf_clogs, .int shelf_day])), (q12, .inl (cc 0, 50, .inl shelf_cells)), (q13, .inr (6, [.ref q14, .ref q15, .int waiting_number, .int waiting_stocking])), (q14, .inl (cc 0, 5, .inl waiting_lefts)), (q15, .inl (cc 0, 5, .inl waiting_rights))] t.heap) A) (by decide) (Nat.le_of_ble_eq_true rfl) ?_
  intro p e s m below meth c A ls H locs hC hr hlk hin hA hP hl _
  have hC : CX p m c cX9_whose 4 s ([.ref q0, .int x1] : List Value).toArray RX9 (dC, dI) (ts cc) := hC
  have hx := hC.1.1
  have hb := hC.1.2
  have h := hu
  have hu0 := hu
  unfold f_X9_whose at h
  have hl : lv_has ls 4 [(0, .ref q0), (1, .int x1)] := hl
  refine W_abs (fun Z eZ => ?_)
  refine lv_aload_n hx hb dX9_whose_0 rfl (lv_at hl 0 rfl) ?_
  refine g_get hC hP fg_X9_26 0 rfl rfl dX9_whose_1 ?_
  refine lv_iload_n hx hb dX9_whose_4 rfl (lv_at hl 1 rfl) ?_
  obtain ⟨r1, hu, h⟩ := bnd_h h
  refine kc_z (kV hC (c_X4_holds l dC dI cc q11 q12 shelf_clogs shelf_day x1 H.size r1 hu) cv_X9_113 kw454 rfl rfl ⟨(Nat.le_of_ble_eq_true rfl), (Nat.le_of_ble_eq_true rfl)⟩ hP [1] rfl rfl rfl (q0 := 1) rfl (As := [.int x1]) (rest := []) rfl rfl hl.1 (Nat.le_of_ble_eq_true rfl) dX9_whose_5 ⟨Nat.zero_le _, Nat.zero_le _⟩) hP hA [1] rfl rfl (fun hz_r1 H locs hP => ?_)
  have hP : PD (dC, dI) A s.heap [(q0, .inr (9, [.ref q1, .ref q3, .ref q11, .ref q13, .ref q16, .ref q17, .ref q21, .ref q23, .ref q25, .ref q30])), (q11, .inr (4, [.ref q12, .int shelf_clogs, .int shelf_day])), (q12, .inl (cc 0, 50, .inl shelf_cells)), (q13, .inr (6, [.ref q14, .ref q15, .int waiting_number, .int waiting_stocking])), (q14, .inl (cc 0, 5, .inl waiting_lefts)), (q15, .inl (cc 0, 5, .inl waiting_rights))] H locs := hP
  refine lv_if_ne (tgt := 13) hx hb dX9_whose_8 (by decide) (fun c2 => ?_) (fun c2 => ?_)
  · have h := if_f c2 h
    refine lv_iconst (v := 0) hx hb dX9_whose_13 (by decide) ?_
    refine lv_istore_n (lv' := [(2, .int 0), (0, .ref q0), (1, .int x1)]) hx hb dX9_whose_14 rfl hl (by decide) rfl (fun ls hl => ?_)
    refine lv_iconst (v := 0) hx hb dX9_whose_15 (by decide) ?_
    refine lv_istore_n (lv' := [(3, .int 0), (2, .int 0), (0, .ref q0), (1, .int x1)]) hx hb dX9_whose_16 rfl hl (by decide) rfl (fun ls hl => ?_)
    obtain ⟨⟨j3x, j4x⟩, hlp, h⟩ := bnd_h h
    have L1 : ∀ (n : Nat) (j3 : Int32) (j4 : Int32) (j3x : Int32) (j4x : Int32), lp (u2 (b_X9_whose_1 shelf_cells shelf_clogs shelf_day waiting_lefts waiting_number waiting_rights waiting_stocking x1)) n (j3, j4) = some (j3x, j4x) → ∀ (H : Heap) (locs : List Loc) (ls : Array Slot), PD (dC, dI) A s.heap [(q0, .inr (9, [.ref q1, .ref q3, .ref q11, .ref q13, .ref q16, .ref q17, .ref q21, .ref q23, .ref q25, .ref q30])), (q11, .inr (4, [.ref q12, .int shelf_clogs, .int shelf_day])), (q12, .inl (cc 0, 50, .inl shelf_cells)), (q13, .inr (6, [.ref q14, .ref q15, .int waiting_number, .int waiting_stocking])), (q14, .inl (cc 0, 5, .inl waiting_lefts)), (q15, .inl (cc 0, 5, .inl waiting_rights))] H locs → lv_has ls 4 [(0, .ref q0), (1, .int x1), (2, .int j3), (3, .int j4)] → (∀ (H : Heap) (locs : List Loc) (ls : Array Slot), PD (dC, dI) A s.heap [(q0, .inr (9, [.ref q1, .ref q3, .ref q11, .ref q13, .ref q16, .ref q17, .ref q21, .ref q23, .ref q25, .ref q30])), (q11, .inr (4, [.ref q12, .int shelf_clogs, .int shelf_day])), (q12, .inl (cc 0, 50, .inl shelf_cells)), (q13, .inr (6, [.ref q14, .ref q15, .int waiting_number, .int waiting_stocking])), (q14, .inl (cc 0, 5, .inl waiting_lefts)), (q15, .inl (cc 0, 5, .inl waiting_rights))] H locs → lv_has ls 4 [(0, .ref q0), (1, .int x1), (2, .int j3x), (3, .int j4x)] → W p l e ({ frames := 3, cells := 0, slots := 0, locals := 68 } : Room) s m ([.ref q0, .int x1] : List Value).toArray below meth c H locs 0 0 Z (F0 m 75 ls [])) → W p l e ({ frames := 3, cells := 0, slots := 0, locals := 68 } : Room) s m ([.ref q0, .int x1] : List Value).toArray below meth c H locs 0 0 Z (F0 m 17 ls []) := by
      intro n
      induction n with
      | zero => intro j3 j4 j3x j4x h; exact (lp_0 h).elim
      | succ n ih =>
        intro j3 j4 j3x j4x h H locs ls hP hl KK
        obtain ⟨y, h, hz⟩ := lp_h h
        refine lv_iload_n hx hb dX9_whose_17 rfl (lv_at hl 3 rfl) ?_
        refine lv_aload_n hx hb dX9_whose_18 rfl (lv_at hl 0 rfl) ?_
        refine g_get hC hP fg_X9_33 0 rfl rfl dX9_whose_19 ?_
        refine g_get hC hP fg_X9_130 3 rfl rfl dX9_whose_22 ?_
        refine lv_icmp_ge (tgt := 75) hx hb dX9_whose_25 (by decide) (fun c5 => ?_) (fun c5 => ?_)
        · have h := if_t c5 h
          cases lp_e h hz
          exact KK H locs ls hP (lv_sub hl [0, 1, 2, 3] rfl)
        · have h := if_f c5 h
          refine lv_aload_n hx hb dX9_whose_28 rfl (lv_at hl 0 rfl) ?_
          refine g_get hC hP fg_X9_33 0 rfl rfl dX9_whose_29 ?_
          refine lv_iload_n hx hb dX9_whose_32 rfl (lv_at hl 3 rfl) ?_
          refine lv_aload_n hx hb dX9_whose_33 rfl (lv_at hl 0 rfl) ?_
          refine g_get hC hP fg_X9_26 0 rfl rfl dX9_whose_34 ?_
          refine lv_iload_n hx hb dX9_whose_37 rfl (lv_at hl 1 rfl) ?_
          refine lv_iconst (v := 1) hx hb dX9_whose_38 (by decide) ?_
          obtain ⟨r6, hu, h⟩ := bnd_h h
          refine kc_i (kV hC (c_X4_cell l dC dI cc q11 q12 shelf_clogs shelf_day shelf_cells x1 1 H.size r6 hu) cv_X9_127 kw463 rfl rfl ⟨(Nat.le_of_ble_eq_true rfl), (Nat.le_of_ble_eq_true rfl)⟩ hP [1, 2] rfl rfl rfl (q0 := 1) rfl (As := [.int x1, .int 1]) (rest := [.int j4, .ref q13]) rfl rfl hl.1 (Nat.le_of_ble_eq_true rfl) dX9_whose_39 ⟨Nat.zero_le _, Nat.zero_le _⟩) hP hA [1, 2] rfl rfl (fun H locs hP => ?_)
          have hP : PD (dC, dI) A s.heap [(q0, .inr (9, [.ref q1, .ref q3, .ref q11, .ref q13, .ref q16, .ref q17, .ref q21, .ref q23, .ref q25, .ref q30])), (q11, .inr (4, [.ref q12, .int shelf_clogs, .int shelf_day])), (q12, .inl (cc 0, 50, .inl shelf_cells)), (q13, .inr (6, [.ref q14, .ref q15, .int waiting_number, .int waiting_stocking])), (q14, .inl (cc 0, 5, .inl waiting_lefts)), (q15, .inl (cc 0, 5, .inl waiting_rights))] H locs := hP
          refine lv_aload_n hx hb dX9_whose_42 rfl (lv_at hl 0 rfl) ?_
          refine g_get hC hP fg_X9_26 0 rfl rfl dX9_whose_43 ?_
          refine lv_iload_n hx hb dX9_whose_46 rfl (lv_at hl 1 rfl) ?_
          refine lv_aload_n hx hb dX9_whose_47 rfl (lv_at hl 0 rfl) ?_
          refine g_get hC hP fg_X9_26 0 rfl rfl dX9_whose_48 ?_
          refine g_get hC hP fg_X9_117 1 rfl rfl dX9_whose_51 ?_
          obtain ⟨r7, hu, h⟩ := bnd_h h
          refine kc_i (kV hC (c_X4_sizeOn l dC dI cc q11 q12 shelf_clogs shelf_day shelf_cells x1 shelf_day H.size r7 hu) cv_X9_120 kw459 rfl rfl ⟨(Nat.le_of_ble_eq_true rfl), (Nat.le_of_ble_eq_true rfl)⟩ hP [1, 2] rfl rfl rfl (q0 := 1) rfl (As := [.int x1, .int shelf_day]) (rest := [.int r6, .int j4, .ref q13]) rfl rfl hl.1 (Nat.le_of_ble_eq_true rfl) dX9_whose_54 ⟨Nat.zero_le _, Nat.zero_le _⟩) hP hA [1, 2] rfl rfl (fun H locs hP => ?_)
          have hP : PD (dC, dI) A s.heap [(q0, .inr (9, [.ref q1, .ref q3, .ref q11, .ref q13, .ref q16, .ref q17, .ref q21, .ref q23, .ref q25, .ref q30])), (q11, .inr (4, [.ref q12, .int shelf_clogs, .int shelf_day])), (q12, .inl (cc 0, 50, .inl shelf_cells)), (q13, .inr (6, [.ref q14, .ref q15, .int waiting_number, .int waiting_stocking])), (q14, .inl (cc 0, 5, .inl waiting_lefts)), (q15, .inl (cc 0, 5, .inl waiting_rights))] H locs := hP
          obtain ⟨r8, hu, h⟩ := bnd_h h
          refine kc_z (kV hC (c_X6_suits l dC dI cc q13 q14 q15 waiting_number waiting_stocking waiting_lefts waiting_rights j4 r6 r7 H.size r8 hu) cv_X9_197 kw634 rfl rfl ⟨(Nat.le_of_ble_eq_true rfl), (Nat.le_of_ble_eq_true rfl)⟩ hP [3, 4, 5] rfl rfl rfl (q0 := 3) rfl (As := [.int j4, .int r6, .int r7]) (rest := []) rfl rfl hl.1 (Nat.le_of_ble_eq_true rfl) dX9_whose_57 ⟨Nat.zero_le _, Nat.zero_le _⟩) hP hA [3, 4, 5] rfl rfl (fun hz_r8 H locs hP => ?_)
          have hP : PD (dC, dI) A s.heap [(q0, .inr (9, [.ref q1, .ref q3, .ref q11, .ref q13, .ref q16, .ref q17, .ref q21, .ref q23, .ref q25, .ref q30])), (q11, .inr (4, [.ref q12, .int shelf_clogs, .int shelf_day])), (q12, .inl (cc 0, 50, .inl shelf_cells)), (q13, .inr (6, [.ref q14, .ref q15, .int waiting_number, .int waiting_stocking])), (q14, .inl (cc 0, 5, .inl waiting_lefts)), (q15, .inl (cc 0, 5, .inl waiting_rights))] H locs := hP
          refine lv_if_eq (tgt := 69) hx hb dX9_whose_60 (by decide) (fun c9 => ?_) (fun c9 => ?_)
          · have h := if_t c9 h
            refine lv_iinc (v := (j4 + 1)) (lv' := [(3, .int (j4 + 1)), (0, .ref q0), (1, .int x1), (2, .int j3)]) hx hb dX9_whose_69 hl (k := 3) rfl rfl (by decide) rfl (fun ls hl => ?_)
            refine lv_goto (tgt := 17) hx hb dX9_whose_72 (by decide) ?_
            exact ih _ _ _ _ (lp_n h hz) H locs ls hP (lv_sub hl [1, 2, 3, 0] rfl) KK
          · have h := if_f c9 h
            refine lv_iload_n hx hb dX9_whose_63 rfl (lv_at hl 2 rfl) ?_
            refine lv_iconst (v := 1) hx hb dX9_whose_64 (by decide) ?_
            refine lv_iload_n hx hb dX9_whose_65 rfl (lv_at hl 3 rfl) ?_
            refine lv_ishl hx hb dX9_whose_66 ?_
            refine lv_ior hx hb dX9_whose_67 ?_
            refine lv_istore_n (lv' := [(2, .int (j3 ||| (1 <<< (j4 &&& 31)))), (0, .ref q0), (1, .int x1), (3, .int j4)]) hx hb dX9_whose_68 rfl hl (by decide) rfl (fun ls hl => ?_)
            refine lv_iinc (v := (j4 + 1)) (lv' := [(3, .int (j4 + 1)), (2, .int (j3 ||| (1 <<< (j4 &&& 31)))), (0, .ref q0), (1, .int x1)]) hx hb dX9_whose_69 hl (k := 3) rfl rfl (by decide) rfl (fun ls hl => ?_)
            refine lv_goto (tgt := 17) hx hb dX9_whose_72 (by decide) ?_
            exact ih _ _ _ _ (lp_n h hz) H locs ls hP (lv_sub hl [2, 3, 1, 0] rfl) KK
    refine L1 FU _ _ j3x j4x hlp H locs ls hP (lv_sub hl [2, 3, 1, 0] rfl) (fun H locs ls hP hl => ?_)
    refine lv_iload_n hx hb dX9_whose_75 rfl (lv_at hl 2 rfl) ?_
    rw [eZ]
    exact ret_i hC hr hlk hP dX9_whose_76 () (⟨Option.some.inj h, rfl⟩) rfl
  · have h := if_t c2 h
    refine lv_iconst (v := -1) hx hb dX9_whose_11 (by decide) ?_
    rw [eZ]
    exact ret_i hC hr hlk hP dX9_whose_12 () (⟨Option.some.inj h, rfl⟩) rfl
set_option maxHeartbeats 8000000 in
set_option maxRecDepth 100000 in
theorem c_X9_alikeBy (l : Launch) (dC : Nat → ClassId) (dI : Nat → Nat → Nat) (cc : Nat → ClassId) (q0 q1 q3 q11 q13 q16 q17 q21 q23 q25 q30 q12 : Nat) (shelf_clogs : Int32) (shelf_day : Int32) (shelf_cells : (Nat → Int32)) (x1 : Int32) (x2 : Int32) (sz : Nat) (ret : Int32) (hu : f_X9_alikeBy x1 x2 shelf_clogs shelf_day shelf_cells = some ret) : Met l yX9_alikeBy (mw yX9_alikeBy cX9_alikeBy 4 (some .int)) ({ frames := 4, cells := 0, slots := 0, locals := 92 } : Room) (va_Pc [.ref q0, .int x1, .int x2] (mP (dC, dI) (ts cc) sz [(q0, .inr (9, [.ref q1, .ref q3, .ref q11, .ref q13, .ref q16, .ref q17, .ref q21, .ref q23, .ref q25, .ref q30])), (q11, .inr (4, [.ref q12, .int shelf_clogs, .int shelf_day])), (q12, .inl (cc 0, 50, .inl shelf_cells))])) ((fun A => va_Qi (fun (r : Int32) (w : Unit) => r = ret ∧ w = ()) (fun (w : Unit) t => va_P (dC, dI) classes [(q0, .inr (9, [.ref q1, .ref q3, .ref q11, .ref q13, .ref q16, .ref q17, .ref q21, .ref q23, .ref q25, .ref q30])), (q11, .inr (4, [.ref q12, .int shelf_clogs, .int shelf_day])), (q12, .inl (cc 0, 50, .inl shelf_cells))] t.heap) A) (va_A [(q0, .inr (9, [.ref q1, .ref q3, .ref q11, .ref q13, .ref q16, .ref q17, .ref q21, .ref q23, .ref q25, .ref q30])), (q11, .inr (4, [.ref q12, .int shelf_clogs, .int shelf_day])), (q12, .inl (cc 0, 50, .inl shelf_cells))] sz)) 0 0 (va_A [(q0, .inr (9, [.ref q1, .ref q3, .ref q11, .ref q13, .ref q16, .ref q17, .ref q21, .ref q23, .ref q25, .ref q30])), (q11, .inr (4, [.ref q12, .int shelf_clogs, .int shelf_day])), (q12, .inl (cc 0, 50, .inl shelf_cells))] sz) := by
  refine met_go (Qc := fun A => va_Qi (fun (r : Int32) (w : Unit) => r = ret ∧ w = ()) (fun (w : Unit) t => va_P (dC, dI) classes [(q0, .inr (9, [.ref q1, .ref q3, .ref q11, .ref q13, .ref q16, .ref q17, .ref q21, .ref q23, .ref q25, .ref q30])), (q11, .inr (4, [.ref q12, .int shelf_clogs, .int shelf_day])), (q12, .inl (cc 0, 50, .inl shelf_cells))] t.heap) A) (by decide) (Nat.le_of_ble_eq_true rfl) ?_
  intro p e s m below meth c A ls H locs hC hr hlk hin hA hP hl _
  have hC : CX p m c cX9_alikeBy 4 s ([.ref q0, .int x1, .int x2] : List Value).toArray RX9 (dC, dI) (ts cc) := hC
  have hx := hC.1.1
  have hb := hC.1.2
  have h := hu
  have hu0 := hu
  unfold f_X9_alikeBy at h
  have hl : lv_has ls 4 [(0, .ref q0), (1, .int x1), (2, .int x2)] := hl
  refine W_abs (fun Z eZ => ?_)
  refine lv_aload_n hx hb dX9_alikeBy_0 rfl (lv_at hl 0 rfl) ?_
  refine g_get hC hP fg_X9_26 0 rfl rfl dX9_alikeBy_1 ?_
  refine lv_iload_n hx hb dX9_alikeBy_4 rfl (lv_at hl 1 rfl) ?_
  refine lv_iconst (v := 0) hx hb dX9_alikeBy_5 (by decide) ?_
  obtain ⟨r1, hu, h⟩ := bnd_h h
  refine kc_z (kV hC (c_X4_isOfSide l dC dI cc q11 q12 shelf_clogs shelf_day shelf_cells x1 0 H.size r1 hu) cv_X9_200 kw518 rfl rfl ⟨(Nat.le_of_ble_eq_true rfl), (Nat.le_of_ble_eq_true rfl)⟩ hP [1, 2] rfl rfl rfl (q0 := 1) rfl (As := [.int x1, .int 0]) (rest := []) rfl rfl hl.1 (Nat.le_of_ble_eq_true rfl) dX9_alikeBy_6 ⟨Nat.zero_le _, Nat.zero_le _⟩) hP hA [1, 2] rfl rfl (fun hz_r1 H locs hP => ?_)
  have hP : PD (dC, dI) A s.heap [(q0, .inr (9, [.ref q1, .ref q3, .ref q11, .ref q13, .ref q16, .ref q17, .ref q21, .ref q23, .ref q25, .ref q30])), (q11, .inr (4, [.ref q12, .int shelf_clogs, .int shelf_day])), (q12, .inl (cc 0, 50, .inl shelf_cells))] H locs := hP
  refine lv_if_eq (tgt := 24) hx hb dX9_alikeBy_9 (by decide) (fun c2 => ?_) (fun c2 => ?_)
  · have h := if_t c2 h
    refine lv_iconst (v := -1) hx hb dX9_alikeBy_24 (by decide) ?_
    rw [eZ]
    exact ret_i hC hr hlk hP dX9_alikeBy_25 () (⟨Option.some.inj h, rfl⟩) rfl
  · have h := if_f c2 h
    refine lv_aload_n hx hb dX9_alikeBy_12 rfl (lv_at hl 0 rfl) ?_
    refine g_get hC hP fg_X9_26 0 rfl rfl dX9_alikeBy_13 ?_
    refine lv_iload_n hx hb dX9_alikeBy_16 rfl (lv_at hl 2 rfl) ?_
    refine lv_iconst (v := 1) hx hb dX9_alikeBy_17 (by decide) ?_
    obtain ⟨r3, hu, h⟩ := bnd_h h
    refine kc_z (kV hC (c_X4_isOfSide l dC dI cc q11 q12 shelf_clogs shelf_day shelf_cells x2 1 H.size r3 hu) cv_X9_200 kw518 rfl rfl ⟨(Nat.le_of_ble_eq_true rfl), (Nat.le_of_ble_eq_true rfl)⟩ hP [1, 2] rfl rfl rfl (q0 := 1) rfl (As := [.int x2, .int 1]) (rest := []) rfl rfl hl.1 (Nat.le_of_ble_eq_true rfl) dX9_alikeBy_18 ⟨Nat.zero_le _, Nat.zero_le _⟩) hP hA [1, 2] rfl rfl (fun hz_r3 H locs hP => ?_)
    have hP : PD (dC, dI) A s.heap [(q0, .inr (9, [.ref q1, .ref q3, .ref q11, .ref q13, .ref q16, .ref q17, .ref q21, .ref q23, .ref q25, .ref q30])), (q11, .inr (4, [.ref q12, .int shelf_clogs, .int shelf_day])), (q12, .inl (cc 0, 50, .inl shelf_cells))] H locs := hP
    refine lv_if_ne (tgt := 26) hx hb dX9_alikeBy_21 (by decide) (fun c4 => ?_) (fun c4 => ?_)
    · have h := if_f c4 h
      refine lv_iconst (v := 0) hx hb dX9_alikeBy_26 (by decide) ?_
      refine lv_istore_n (lv' := [(3, .int 0), (0, .ref q0), (1, .int x1), (2, .int x2)]) hx hb dX9_alikeBy_27 rfl hl (by decide) rfl (fun ls hl => ?_)
      obtain ⟨z, hlp, hk, hj⟩ := bndE_h h
      have L1 : ∀ (n : Nat) (j5 : Int32) (z : ((Int32) ⊕ (Int32))), lp ((b_X9_alikeBy_1 shelf_cells shelf_clogs shelf_day x1 x2)) n j5 = some z → ∀ (H : Heap) (locs : List Loc) (ls : Array Slot), PD (dC, dI) A s.heap [(q0, .inr (9, [.ref q1, .ref q3, .ref q11, .ref q13, .ref q16, .ref q17, .ref q21, .ref q23, .ref q25, .ref q30])), (q11, .inr (4, [.ref q12, .int shelf_clogs, .int shelf_day])), (q12, .inl (cc 0, 50, .inl shelf_cells))] H locs → lv_has ls 4 [(0, .ref q0), (1, .int x1), (2, .int x2), (3, .int j5)] → (∀ (j5x : Int32), z = .inl j5x → ∀ (H : Heap) (locs : List Loc) (ls : Array Slot), PD (dC, dI) A s.heap [(q0, .inr (9, [.ref q1, .ref q3, .ref q11, .ref q13, .ref q16, .ref q17, .ref q21, .ref q23, .ref q25, .ref q30])), (q11, .inr (4, [.ref q12, .int shelf_clogs, .int shelf_day])), (q12, .inl (cc 0, 50, .inl shelf_cells))] H locs → lv_has ls 4 [(0, .ref q0), (1, .int x1), (2, .int x2), (3, .int j5x)] → W p l e ({ frames := 4, cells := 0, slots := 0, locals := 92 } : Room) s m ([.ref q0, .int x1, .int x2] : List Value).toArray below meth c H locs 0 0 Z (F0 m 63 ls [])) → (∀ q, z = .inr q → q = ret) → W p l e ({ frames := 4, cells := 0, slots := 0, locals := 92 } : Room) s m ([.ref q0, .int x1, .int x2] : List Value).toArray below meth c H locs 0 0 Z (F0 m 28 ls []) := by
        intro n
        induction n with
        | zero => intro j5 z h; exact (lp_0 h).elim
        | succ n ih =>
          intro j5 z h H locs ls hP hl KK KR
          obtain ⟨y, h, hz⟩ := lp_h h
          refine lv_iload_n hx hb dX9_alikeBy_28 rfl (lv_at hl 3 rfl) ?_
          refine lv_bipush (v := 60) hx hb dX9_alikeBy_29 (by decide) ?_
          refine lv_icmp_gt (tgt := 63) hx hb dX9_alikeBy_31 (by decide) (fun c6 => ?_) (fun c6 => ?_)
          · have h := if_t c6 h
            exact KK j5 (lp_e h hz).symm H locs ls hP (lv_sub hl [0, 1, 2, 3] rfl)
          · have h := if_f c6 h
            refine lv_aload_n hx hb dX9_alikeBy_34 rfl (lv_at hl 0 rfl) ?_
            refine g_get hC hP fg_X9_26 0 rfl rfl dX9_alikeBy_35 ?_
            refine lv_iload_n hx hb dX9_alikeBy_38 rfl (lv_at hl 1 rfl) ?_
            refine lv_iload_n hx hb dX9_alikeBy_39 rfl (lv_at hl 2 rfl) ?_
            refine lv_aload_n hx hb dX9_alikeBy_40 rfl (lv_at hl 0 rfl) ?_
            refine g_get hC hP fg_X9_26 0 rfl rfl dX9_alikeBy_41 ?_
            refine g_get hC hP fg_X9_117 1 rfl rfl dX9_alikeBy_44 ?_
            refine lv_iload_n hx hb dX9_alikeBy_47 rfl (lv_at hl 3 rfl) ?_
            refine lv_iadd hx hb dX9_alikeBy_48 ?_
            obtain ⟨r7, hu, h⟩ := bnd_h h
            refine kc_z (kV hC (c_X4_areAlikeOn l dC dI cc q11 q12 shelf_clogs shelf_day shelf_cells x1 x2 (shelf_day + j5) H.size r7 hu) cv_X9_151 kw514 rfl rfl ⟨(Nat.le_of_ble_eq_true rfl), (Nat.le_of_ble_eq_true rfl)⟩ hP [1, 2] rfl rfl rfl (q0 := 1) rfl (As := [.int x1, .int x2, .int (shelf_day + j5)]) (rest := []) rfl rfl hl.1 (Nat.le_of_ble_eq_true rfl) dX9_alikeBy_49 ⟨Nat.zero_le _, Nat.zero_le _⟩) hP hA [1, 2] rfl rfl (fun hz_r7 H locs hP => ?_)
            have hP : PD (dC, dI) A s.heap [(q0, .inr (9, [.ref q1, .ref q3, .ref q11, .ref q13, .ref q16, .ref q17, .ref q21, .ref q23, .ref q25, .ref q30])), (q11, .inr (4, [.ref q12, .int shelf_clogs, .int shelf_day])), (q12, .inl (cc 0, 50, .inl shelf_cells))] H locs := hP
            refine lv_if_eq (tgt := 57) hx hb dX9_alikeBy_52 (by decide) (fun c8 => ?_) (fun c8 => ?_)
            · have h := if_t c8 h
              refine lv_iinc (v := (j5 + 1)) (lv' := [(3, .int (j5 + 1)), (0, .ref q0), (1, .int x1), (2, .int x2)]) hx hb dX9_alikeBy_57 hl (k := 3) rfl rfl (by decide) rfl (fun ls hl => ?_)
              refine lv_goto (tgt := 28) hx hb dX9_alikeBy_60 (by decide) ?_
              exact ih _ _ (lp_n h hz) H locs ls hP (lv_sub hl [1, 2, 3, 0] rfl) KK KR
            · have h := if_f c8 h
              refine lv_iload_n hx hb dX9_alikeBy_55 rfl (lv_at hl 3 rfl) ?_
              rw [eZ]
              exact ret_i hC hr hlk hP dX9_alikeBy_56 () (⟨KR _ (lp_e h hz).symm, rfl⟩) rfl
      refine L1 FU _ z hlp H locs ls hP (lv_sub hl [1, 2, 3, 0] rfl) (fun j5x e H locs ls hP hl => ?_) (fun q e => Option.some.inj (hj q e))
      have h := hk _ e
      refine lv_bipush (v := -4) hx hb dX9_alikeBy_63 (by decide) ?_
      rw [eZ]
      exact ret_i hC hr hlk hP dX9_alikeBy_65 () (⟨Option.some.inj h, rfl⟩) rfl
    · have h := if_t c4 h
      refine lv_iconst (v := -1) hx hb dX9_alikeBy_24 (by decide) ?_
      rw [eZ]
      exact ret_i hC hr hlk hP dX9_alikeBy_25 () (⟨Option.some.inj h, rfl⟩) rfl
set_option maxHeartbeats 8000000 in
set_option maxRecDepth 100000 in
theorem c_X9_dry (l : Launch) (dC : Nat → ClassId) (dI : Nat → Nat → Nat) (cc : Nat → ClassId) (q0 q1 q3 q11 q13 q16 q17 q21 q23 q25 q30 q12 : Nat) (shelf_clogs : Int32) (shelf_day : Int32) (shelf_cells : (Nat → Int32)) (x1 : Int32) (x2 : Int32) (sz : Nat) (ret : Int32) (hu : f_X9_dry x1 x2 shelf_clogs shelf_day shelf_cells = some ret) : Met l yX9_dry (mw yX9_dry cX9_dry 5 (some .int)) ({ frames := 3, cells := 0, slots := 0, locals := 68 } : Room) (va_Pc [.ref q0, .int x1, .int x2] (mP (dC, dI) (ts cc) sz [(q0, .inr (9, [.ref q1, .ref q3, .ref q11, .ref q13, .ref q16, .ref q17, .ref q21, .ref q23, .ref q25, .ref q30])), (q11, .inr (4, [.ref q12, .int shelf_clogs, .int shelf_day])), (q12, .inl (cc 0, 50, .inl shelf_cells))])) ((fun A => va_Qi (fun (r : Int32) (w : Unit) => r = ret ∧ w = ()) (fun (w : Unit) t => va_P (dC, dI) classes [(q0, .inr (9, [.ref q1, .ref q3, .ref q11, .ref q13, .ref q16, .ref q17, .ref q21, .ref q23, .ref q25, .ref q30])), (q11, .inr (4, [.ref q12, .int shelf_clogs, .int shelf_day])), (q12, .inl (cc 0, 50, .inl shelf_cells))] t.heap) A) (va_A [(q0, .inr (9, [.ref q1, .ref q3, .ref q11, .ref q13, .ref q16, .ref q17, .ref q21, .ref q23, .ref q25, .ref q30])), (q11, .inr (4, [.ref q12, .int shelf_clogs, .int shelf_day])), (q12, .inl (cc 0, 50, .inl shelf_cells))] sz)) 0 0 (va_A [(q0, .inr (9, [.ref q1, .ref q3, .ref q11, .ref q13, .ref q16, .ref q17, .ref q21, .ref q23, .ref q25, .ref q30])), (q11, .inr (4, [.ref q12, .int shelf_clogs, .int shelf_day])), (q12, .inl (cc 0, 50, .inl shelf_cells))] sz) := by
  refine met_go (Qc := fun A => va_Qi (fun (r : Int32) (w : Unit) => r = ret ∧ w = ()) (fun (w : Unit) t => va_P (dC, dI) classes [(q0, .inr (9, [.ref q1, .ref q3, .ref q11, .ref q13, .ref q16, .ref q17, .ref q21, .ref q23, .ref q25, .ref q30])), (q11, .inr (4, [.ref q12, .int shelf_clogs, .int shelf_day])), (q12, .inl (cc 0, 50, .inl shelf_cells))] t.heap) A) (by decide) (Nat.le_of_ble_eq_true rfl) ?_
  intro p e s m below meth c A ls H locs hC hr hlk hin hA hP hl _
  have hC : CX p m c cX9_dry 5 s ([.ref q0, .int x1, .int x2] : List Value).toArray RX9 (dC, dI) (ts cc) := hC
  have hx := hC.1.1
  have hb := hC.1.2
  have h := hu
  have hu0 := hu
  unfold f_X9_dry at h
  have hl : lv_has ls 5 [(0, .ref q0), (1, .int x1), (2, .int x2)] := hl
  refine W_abs (fun Z eZ => ?_)
  refine lv_aload_n hx hb dX9_dry_0 rfl (lv_at hl 0 rfl) ?_
  refine g_get hC hP fg_X9_26 0 rfl rfl dX9_dry_1 ?_
  refine lv_iload_n hx hb dX9_dry_4 rfl (lv_at hl 1 rfl) ?_
  obtain ⟨r1, hu, h⟩ := bnd_h h
  refine kc_z (kV hC (c_X4_holds l dC dI cc q11 q12 shelf_clogs shelf_day x1 H.size r1 hu) cv_X9_113 kw454 rfl rfl ⟨(Nat.le_of_ble_eq_true rfl), (Nat.le_of_ble_eq_true rfl)⟩ hP [1] rfl rfl rfl (q0 := 1) rfl (As := [.int x1]) (rest := []) rfl rfl hl.1 (Nat.le_of_ble_eq_true rfl) dX9_dry_5 ⟨Nat.zero_le _, Nat.zero_le _⟩) hP hA [1] rfl rfl (fun hz_r1 H locs hP => ?_)
  have hP : PD (dC, dI) A s.heap [(q0, .inr (9, [.ref q1, .ref q3, .ref q11, .ref q13, .ref q16, .ref q17, .ref q21, .ref q23, .ref q25, .ref q30])), (q11, .inr (4, [.ref q12, .int shelf_clogs, .int shelf_day])), (q12, .inl (cc 0, 50, .inl shelf_cells))] H locs := hP
  refine lv_if_eq (tgt := 20) hx hb dX9_dry_8 (by decide) (fun c2 => ?_) (fun c2 => ?_)
  · have h := if_t c2 h
    refine lv_iconst (v := -1) hx hb dX9_dry_20 (by decide) ?_
    rw [eZ]
    exact ret_i hC hr hlk hP dX9_dry_21 () (⟨Option.some.inj h, rfl⟩) rfl
  · have h := if_f c2 h
    refine lv_iload_n hx hb dX9_dry_11 rfl (lv_at hl 2 rfl) ?_
    refine lv_iconst (v := 0) hx hb dX9_dry_12 (by decide) ?_
    refine lv_iconst (v := 1) hx hb dX9_dry_13 (by decide) ?_
    obtain ⟨r3, hu, h⟩ := bnd_h h
    refine kc_z (kS hC (c_X9_within l dC dI cc x2 0 1 H.size r3 hu) cs_X9_99 kw338 rfl rfl ⟨(Nat.le_of_ble_eq_true rfl), (Nat.le_of_ble_eq_true rfl)⟩ hP [] rfl rfl (As := [.int x2, .int 0, .int 1]) (rest := []) rfl rfl hl.1 (Nat.le_of_ble_eq_true rfl) dX9_dry_14 ⟨Nat.zero_le _, Nat.zero_le _⟩) hP hA [] rfl rfl (fun hz_r3 H locs hP => ?_)
    have hP : PD (dC, dI) A s.heap [(q0, .inr (9, [.ref q1, .ref q3, .ref q11, .ref q13, .ref q16, .ref q17, .ref q21, .ref q23, .ref q25, .ref q30])), (q11, .inr (4, [.ref q12, .int shelf_clogs, .int shelf_day])), (q12, .inl (cc 0, 50, .inl shelf_cells))] H locs := hP
    refine lv_if_ne (tgt := 22) hx hb dX9_dry_17 (by decide) (fun c4 => ?_) (fun c4 => ?_)
    · have h := if_f c4 h
      refine lv_aload_n hx hb dX9_dry_22 rfl (lv_at hl 0 rfl) ?_
      refine g_get hC hP fg_X9_26 0 rfl rfl dX9_dry_23 ?_
      refine lv_iload_n hx hb dX9_dry_26 rfl (lv_at hl 1 rfl) ?_
      refine lv_aload_n hx hb dX9_dry_27 rfl (lv_at hl 0 rfl) ?_
      refine g_get hC hP fg_X9_26 0 rfl rfl dX9_dry_28 ?_
      refine g_get hC hP fg_X9_117 1 rfl rfl dX9_dry_31 ?_
      refine lv_bipush (v := 30) hx hb dX9_dry_34 (by decide) ?_
      refine lv_iadd hx hb dX9_dry_36 ?_
      obtain ⟨r5, hu, h⟩ := bnd_h h
      refine kc_i (kV hC (c_X4_sizeOn l dC dI cc q11 q12 shelf_clogs shelf_day shelf_cells x1 (shelf_day + 30) H.size r5 hu) cv_X9_120 kw459 rfl rfl ⟨(Nat.le_of_ble_eq_true rfl), (Nat.le_of_ble_eq_true rfl)⟩ hP [1, 2] rfl rfl rfl (q0 := 1) rfl (As := [.int x1, .int (shelf_day + 30)]) (rest := []) rfl rfl hl.1 (Nat.le_of_ble_eq_true rfl) dX9_dry_37 ⟨Nat.zero_le _, Nat.zero_le _⟩) hP hA [1, 2] rfl rfl (fun H locs hP => ?_)
      have hP : PD (dC, dI) A s.heap [(q0, .inr (9, [.ref q1, .ref q3, .ref q11, .ref q13, .ref q16, .ref q17, .ref q21, .ref q23, .ref q25, .ref q30])), (q11, .inr (4, [.ref q12, .int shelf_clogs, .int shelf_day])), (q12, .inl (cc 0, 50, .inl shelf_cells))] H locs := hP
      refine lv_istore_n (lv' := [(3, .int r5), (0, .ref q0), (1, .int x1), (2, .int x2)]) hx hb dX9_dry_40 rfl hl (by decide) rfl (fun ls hl => ?_)
      refine lv_iload_n hx hb dX9_dry_41 rfl (lv_at hl 3 rfl) ?_
      refine lv_iconst (v := 1) hx hb dX9_dry_42 (by decide) ?_
      refine lv_icmp_ne (tgt := 48) hx hb dX9_dry_43 (by decide) (fun c6 => ?_) (fun c6 => ?_)
      · have h := if_f c6 h
        refine lv_iconst (v := 0) hx hb dX9_dry_48 (by decide) ?_
        refine lv_istore (lv' := [(4, .int 0), (3, .int r5), (0, .ref q0), (1, .int x1), (2, .int x2)]) hx hb dX9_dry_49 hl (by decide) rfl (fun ls hl => ?_)
        obtain ⟨j7x, hlp, h⟩ := bnd_h h
        have L1 : ∀ (n : Nat) (j7 : Int32) (j7x : Int32), lp ((b_X9_dry_1 r5 shelf_cells shelf_clogs shelf_day x1)) n j7 = some j7x → ∀ (H : Heap) (locs : List Loc) (ls : Array Slot), PD (dC, dI) A s.heap [(q0, .inr (9, [.ref q1, .ref q3, .ref q11, .ref q13, .ref q16, .ref q17, .ref q21, .ref q23, .ref q25, .ref q30])), (q11, .inr (4, [.ref q12, .int shelf_clogs, .int shelf_day])), (q12, .inl (cc 0, 50, .inl shelf_cells))] H locs → lv_has ls 5 [(0, .ref q0), (1, .int x1), (3, .int r5), (4, .int j7)] → (∀ (H : Heap) (locs : List Loc) (ls : Array Slot), PD (dC, dI) A s.heap [(q0, .inr (9, [.ref q1, .ref q3, .ref q11, .ref q13, .ref q16, .ref q17, .ref q21, .ref q23, .ref q25, .ref q30])), (q11, .inr (4, [.ref q12, .int shelf_clogs, .int shelf_day])), (q12, .inl (cc 0, 50, .inl shelf_cells))] H locs → lv_has ls 5 [(0, .ref q0), (1, .int x1), (3, .int r5), (4, .int j7x)] → W p l e ({ frames := 3, cells := 0, slots := 0, locals := 68 } : Room) s m ([.ref q0, .int x1, .int x2] : List Value).toArray below meth c H locs 0 0 Z (F0 m 86 ls [])) → W p l e ({ frames := 3, cells := 0, slots := 0, locals := 68 } : Room) s m ([.ref q0, .int x1, .int x2] : List Value).toArray below meth c H locs 0 0 Z (F0 m 51 ls []) := by
          intro n
          induction n with
          | zero => intro j7 j7x h; exact (lp_0 h).elim
          | succ n ih =>
            intro j7 j7x h H locs ls hP hl KK
            obtain ⟨y, h, hz⟩ := lp_h h
            refine lv_iload hx hb dX9_dry_51 (lv_at hl 3 rfl) ?_
            refine lv_bipush (v := 30) hx hb dX9_dry_53 (by decide) ?_
            refine lv_icmp_ge (tgt := 86) hx hb dX9_dry_55 (by decide) (fun c8 => ?_) (fun c8 => ?_)
            · have h := if_t c8 h
              cases lp_e h hz
              exact KK H locs ls hP (lv_sub hl [0, 1, 2, 3] rfl)
            · have h := if_f c8 h
              refine lv_aload_n hx hb dX9_dry_58 rfl (lv_at hl 0 rfl) ?_
              refine g_get hC hP fg_X9_26 0 rfl rfl dX9_dry_59 ?_
              refine lv_iload_n hx hb dX9_dry_62 rfl (lv_at hl 1 rfl) ?_
              refine lv_aload_n hx hb dX9_dry_63 rfl (lv_at hl 0 rfl) ?_
              refine g_get hC hP fg_X9_26 0 rfl rfl dX9_dry_64 ?_
              refine g_get hC hP fg_X9_117 1 rfl rfl dX9_dry_67 ?_
              refine lv_iload hx hb dX9_dry_70 (lv_at hl 3 rfl) ?_
              refine lv_iadd hx hb dX9_dry_72 ?_
              obtain ⟨r9, hu, h⟩ := bnd_h h
              refine kc_i (kV hC (c_X4_sizeOn l dC dI cc q11 q12 shelf_clogs shelf_day shelf_cells x1 (shelf_day + j7) H.size r9 hu) cv_X9_120 kw459 rfl rfl ⟨(Nat.le_of_ble_eq_true rfl), (Nat.le_of_ble_eq_true rfl)⟩ hP [1, 2] rfl rfl rfl (q0 := 1) rfl (As := [.int x1, .int (shelf_day + j7)]) (rest := []) rfl rfl hl.1 (Nat.le_of_ble_eq_true rfl) dX9_dry_73 ⟨Nat.zero_le _, Nat.zero_le _⟩) hP hA [1, 2] rfl rfl (fun H locs hP => ?_)
              have hP : PD (dC, dI) A s.heap [(q0, .inr (9, [.ref q1, .ref q3, .ref q11, .ref q13, .ref q16, .ref q17, .ref q21, .ref q23, .ref q25, .ref q30])), (q11, .inr (4, [.ref q12, .int shelf_clogs, .int shelf_day])), (q12, .inl (cc 0, 50, .inl shelf_cells))] H locs := hP
              refine lv_iload_n hx hb dX9_dry_76 rfl (lv_at hl 2 rfl) ?_
              refine lv_icmp_eq (tgt := 86) hx hb dX9_dry_77 (by decide) (fun c10 => ?_) (fun c10 => ?_)
              · have h := if_t c10 h
                cases lp_e h hz
                exact KK H locs ls hP (lv_sub hl [0, 1, 2, 3] rfl)
              · have h := if_f c10 h
                refine lv_iinc (v := (j7 + 1)) (lv' := [(4, .int (j7 + 1)), (0, .ref q0), (1, .int x1), (3, .int r5)]) hx hb dX9_dry_80 hl (k := 3) rfl rfl (by decide) rfl (fun ls hl => ?_)
                refine lv_goto (tgt := 51) hx hb dX9_dry_83 (by decide) ?_
                exact ih _ _ (lp_n h hz) H locs ls hP (lv_sub hl [1, 2, 3, 0] rfl) KK
        refine L1 FU _ j7x hlp H locs ls hP (lv_sub hl [2, 3, 1, 0] rfl) (fun H locs ls hP hl => ?_)
        refine lv_iload hx hb dX9_dry_86 (lv_at hl 3 rfl) ?_
        rw [eZ]
        exact ret_i hC hr hlk hP dX9_dry_88 () (⟨Option.some.inj h, rfl⟩) rfl
      · have h := if_t c6 h
        refine lv_iload_n hx hb dX9_dry_46 rfl (lv_at hl 0 rfl) ?_
        rw [eZ]
        exact ret_i hC hr hlk hP dX9_dry_47 () (⟨Option.some.inj h, rfl⟩) rfl
    · have h := if_t c4 h
      refine lv_iconst (v := -1) hx hb dX9_dry_20 (by decide) ?_
      rw [eZ]
      exact ret_i hC hr hlk hP dX9_dry_21 () (⟨Option.some.inj h, rfl⟩) rfl
set_option maxHeartbeats 8000000 in
set_option maxRecDepth 100000 in
theorem c_X9_sawn (l : Launch) (dC : Nat → ClassId) (dI : Nat → Nat → Nat) (cc : Nat → ClassId) (q0 q1 q3 q11 q13 q16 q17 q21 q23 q25 q30 : Nat) (log_length : Int32) (log_block : Int32) (log_knots : Int64) (x1 : Int32) (sz : Nat) (ret : Int32) (hu : f_X9_sawn x1 log_length log_block log_knots = some ret) : Met l yX9_sawn (mw yX9_sawn cX9_sawn 2 (some .int)) ({ frames := 2, cells := 0, slots := 0, locals := 47 } : Room) (va_Pc [.ref q0, .int x1] (mP (dC, dI) (ts cc) sz [(q0, .inr (9, [.ref q1, .ref q3, .ref q11, .ref q13, .ref q16, .ref q17, .ref q21, .ref q23, .ref q25, .ref q30])), (q16, .inr (0, [.int log_length, .int log_block, .long log_knots]))])) ((fun A => va_Qi (fun (r : Int32) (w : Unit) => r = ret ∧ w = ()) (fun (w : Unit) t => va_P (dC, dI) classes [(q0, .inr (9, [.ref q1, .ref q3, .ref q11, .ref q13, .ref q16, .ref q17, .ref q21, .ref q23, .ref q25, .ref q30])), (q16, .inr (0, [.int log_length, .int log_block, .long log_knots]))] t.heap) A) (va_A [(q0, .inr (9, [.ref q1, .ref q3, .ref q11, .ref q13, .ref q16, .ref q17, .ref q21, .ref q23, .ref q25, .ref q30])), (q16, .inr (0, [.int log_length, .int log_block, .long log_knots]))] sz)) 0 0 (va_A [(q0, .inr (9, [.ref q1, .ref q3, .ref q11, .ref q13, .ref q16, .ref q17, .ref q21, .ref q23, .ref q25, .ref q30])), (q16, .inr (0, [.int log_length, .int log_block, .long log_knots]))] sz) := by
  refine met_go (Qc := fun A => va_Qi (fun (r : Int32) (w : Unit) => r = ret ∧ w = ()) (fun (w : Unit) t => va_P (dC, dI) classes [(q0, .inr (9, [.ref q1, .ref q3, .ref q11, .ref q13, .ref q16, .ref q17, .ref q21, .ref q23, .ref q25, .ref q30])), (q16, .inr (0, [.int log_length, .int log_block, .long log_knots]))] t.heap) A) (by decide) (Nat.le_of_ble_eq_true rfl) ?_
  intro p e s m below meth c A ls H locs hC hr hlk hin hA hP hl _
  have hC : CX p m c cX9_sawn 2 s ([.ref q0, .int x1] : List Value).toArray RX9 (dC, dI) (ts cc) := hC
  have hx := hC.1.1
  have hb := hC.1.2
  have h := hu
  have hu0 := hu
  unfold f_X9_sawn at h
  have hl : lv_has ls 2 [(0, .ref q0), (1, .int x1)] := hl
  refine lv_iload_n hx hb dX9_sawn_0 rfl (lv_at hl 1 rfl) ?_
  refine lv_iconst (v := -1) hx hb dX9_sawn_1 (by decide) ?_
  refine lv_icmp_ge (tgt := 7) hx hb dX9_sawn_2 (by decide) (fun c1 => ?_) (fun c1 => ?_)
  · have h := if_t c1 h
    refine lv_aload_n hx hb dX9_sawn_7 rfl (lv_at hl 0 rfl) ?_
    refine g_get hC hP fg_X9_40 0 rfl rfl dX9_sawn_8 ?_
    refine lv_iload_n hx hb dX9_sawn_11 rfl (lv_at hl 1 rfl) ?_
    obtain ⟨r2, hu, h⟩ := bnd_h h
    refine kc_i (kV hC (c_X0_saw l dC dI cc q16 log_length log_block log_knots x1 H.size r2 hu) cv_X9_204 kw667 rfl rfl ⟨(Nat.le_of_ble_eq_true rfl), (Nat.le_of_ble_eq_true rfl)⟩ hP [1] rfl rfl rfl (q0 := 1) rfl (As := [.int x1]) (rest := []) rfl rfl hl.1 (Nat.le_of_ble_eq_true rfl) dX9_sawn_12 ⟨Nat.zero_le _, Nat.zero_le _⟩) hP hA [1] rfl rfl (fun H locs hP => ?_)
    have hP : PD (dC, dI) A s.heap [(q0, .inr (9, [.ref q1, .ref q3, .ref q11, .ref q13, .ref q16, .ref q17, .ref q21, .ref q23, .ref q25, .ref q30])), (q16, .inr (0, [.int log_length, .int log_block, .long log_knots]))] H locs := hP
    exact ret_i hC hr hlk hP dX9_sawn_15 () (⟨Option.some.inj h, rfl⟩) rfl
  · have h := if_f c1 h
    refine lv_iconst (v := -1) hx hb dX9_sawn_5 (by decide) ?_
    exact ret_i hC hr hlk hP dX9_sawn_6 () (⟨Option.some.inj h, rfl⟩) rfl
set_option maxHeartbeats 8000000 in
set_option maxRecDepth 100000 in
theorem c_X9_sizes (l : Launch) (dC : Nat → ClassId) (dI : Nat → Nat → Nat) (cc : Nat → ClassId) (q0 q1 q3 q11 q13 q16 q17 q21 q23 q25 q30 q12 : Nat) (shelf_clogs : Int32) (shelf_day : Int32) (shelf_cells : (Nat → Int32)) (x1 : Int32) (x2 : Int32) (sz : Nat) (ret : Int32) (hu : f_X9_sizes x1 x2 shelf_clogs shelf_day shelf_cells = some ret) : Met l yX9_sizes (mw yX9_sizes cX9_sizes 7 (some .int)) ({ frames := 4, cells := 0, slots := 0, locals := 92 } : Room) (va_Pc [.ref q0, .int x1, .int x2] (mP (dC, dI) (ts cc) sz [(q0, .inr (9, [.ref q1, .ref q3, .ref q11, .ref q13, .ref q16, .ref q17, .ref q21, .ref q23, .ref q25, .ref q30])), (q11, .inr (4, [.ref q12, .int shelf_clogs, .int shelf_day])), (q12, .inl (cc 0, 50, .inl shelf_cells))])) ((fun A => va_Qi (fun (r : Int32) (w : Unit) => r = ret ∧ w = ()) (fun (w : Unit) t => va_P (dC, dI) classes [(q0, .inr (9, [.ref q1, .ref q3, .ref q11, .ref q13, .ref q16, .ref q17, .ref q21, .ref q23, .ref q25, .ref q30])), (q11, .inr (4, [.ref q12, .int shelf_clogs, .int shelf_day])), (q12, .inl (cc 0, 50, .inl shelf_cells))] t.heap) A) (va_A [(q0, .inr (9, [.ref q1, .ref q3, .ref q11, .ref q13, .ref q16, .ref q17, .ref q21, .ref q23, .ref q25, .ref q30])), (q11, .inr (4, [.ref q12, .int shelf_clogs, .int shelf_day])), (q12, .inl (cc 0, 50, .inl shelf_cells))] sz)) 0 0 (va_A [(q0, .inr (9, [.ref q1, .ref q3, .ref q11, .ref q13, .ref q16, .ref q17, .ref q21, .ref q23, .ref q25, .ref q30])), (q11, .inr (4, [.ref q12, .int shelf_clogs, .int shelf_day])), (q12, .inl (cc 0, 50, .inl shelf_cells))] sz) := by
  refine met_go (Qc := fun A => va_Qi (fun (r : Int32) (w : Unit) => r = ret ∧ w = ()) (fun (w : Unit) t => va_P (dC, dI) classes [(q0, .inr (9, [.ref q1, .ref q3, .ref q11, .ref q13, .ref q16, .ref q17, .ref q21, .ref q23, .ref q25, .ref q30])), (q11, .inr (4, [.ref q12, .int shelf_clogs, .int shelf_day])), (q12, .inl (cc 0, 50, .inl shelf_cells))] t.heap) A) (by decide) (Nat.le_of_ble_eq_true rfl) ?_
  intro p e s m below meth c A ls H locs hC hr hlk hin hA hP hl _
  have hC : CX p m c cX9_sizes 7 s ([.ref q0, .int x1, .int x2] : List Value).toArray RX9 (dC, dI) (ts cc) := hC
  have hx := hC.1.1
  have hb := hC.1.2
  have h := hu
  have hu0 := hu
  unfold f_X9_sizes at h
  have hl : lv_has ls 7 [(0, .ref q0), (1, .int x1), (2, .int x2)] := hl
  refine W_abs (fun Z eZ => ?_)
  refine lv_iload_n hx hb dX9_sizes_0 rfl (lv_at hl 1 rfl) ?_
  refine lv_iconst (v := 1) hx hb dX9_sizes_1 (by decide) ?_
  refine lv_iconst (v := 5) hx hb dX9_sizes_2 (by decide) ?_
  obtain ⟨r1, hu, h⟩ := bnd_h h
  refine kc_z (kS hC (c_X9_within l dC dI cc x1 1 5 H.size r1 hu) cs_X9_99 kw338 rfl rfl ⟨(Nat.le_of_ble_eq_true rfl), (Nat.le_of_ble_eq_true rfl)⟩ hP [] rfl rfl (As := [.int x1, .int 1, .int 5]) (rest := []) rfl rfl hl.1 (Nat.le_of_ble_eq_true rfl) dX9_sizes_3 ⟨Nat.zero_le _, Nat.zero_le _⟩) hP hA [] rfl rfl (fun hz_r1 H locs hP => ?_)
  have hP : PD (dC, dI) A s.heap [(q0, .inr (9, [.ref q1, .ref q3, .ref q11, .ref q13, .ref q16, .ref q17, .ref q21, .ref q23, .ref q25, .ref q30])), (q11, .inr (4, [.ref q12, .int shelf_clogs, .int shelf_day])), (q12, .inl (cc 0, 50, .inl shelf_cells))] H locs := hP
  refine lv_if_eq (tgt := 18) hx hb dX9_sizes_6 (by decide) (fun c2 => ?_) (fun c2 => ?_)
  · have h := if_t c2 h
    refine lv_iconst (v := -1) hx hb dX9_sizes_18 (by decide) ?_
    rw [eZ]
    exact ret_i hC hr hlk hP dX9_sizes_19 () (⟨Option.some.inj h, rfl⟩) rfl
  · have h := if_f c2 h
    refine lv_iload_n hx hb dX9_sizes_9 rfl (lv_at hl 2 rfl) ?_
    refine lv_iconst (v := 0) hx hb dX9_sizes_10 (by decide) ?_
    refine lv_iconst (v := 1) hx hb dX9_sizes_11 (by decide) ?_
    obtain ⟨r3, hu, h⟩ := bnd_h h
    refine kc_z (kS hC (c_X9_within l dC dI cc x2 0 1 H.size r3 hu) cs_X9_99 kw338 rfl rfl ⟨(Nat.le_of_ble_eq_true rfl), (Nat.le_of_ble_eq_true rfl)⟩ hP [] rfl rfl (As := [.int x2, .int 0, .int 1]) (rest := []) rfl rfl hl.1 (Nat.le_of_ble_eq_true rfl) dX9_sizes_12 ⟨Nat.zero_le _, Nat.zero_le _⟩) hP hA [] rfl rfl (fun hz_r3 H locs hP => ?_)
    have hP : PD (dC, dI) A s.heap [(q0, .inr (9, [.ref q1, .ref q3, .ref q11, .ref q13, .ref q16, .ref q17, .ref q21, .ref q23, .ref q25, .ref q30])), (q11, .inr (4, [.ref q12, .int shelf_clogs, .int shelf_day])), (q12, .inl (cc 0, 50, .inl shelf_cells))] H locs := hP
    refine lv_if_ne (tgt := 20) hx hb dX9_sizes_15 (by decide) (fun c4 => ?_) (fun c4 => ?_)
    · have h := if_f c4 h
      refine lv_iconst (v := -1) hx hb dX9_sizes_20 (by decide) ?_
      refine lv_istore_n (lv' := [(3, .int (-1)), (0, .ref q0), (1, .int x1), (2, .int x2)]) hx hb dX9_sizes_21 rfl hl (by decide) rfl (fun ls hl => ?_)
      refine lv_iconst (v := 0) hx hb dX9_sizes_22 (by decide) ?_
      refine lv_istore (lv' := [(4, .int 0), (3, .int (-1)), (0, .ref q0), (1, .int x1), (2, .int x2)]) hx hb dX9_sizes_23 hl (by decide) rfl (fun ls hl => ?_)
      refine lv_iconst (v := 1) hx hb dX9_sizes_25 (by decide) ?_
      refine lv_istore (lv' := [(5, .int 1), (4, .int 0), (3, .int (-1)), (0, .ref q0), (1, .int x1), (2, .int x2)]) hx hb dX9_sizes_26 hl (by decide) rfl (fun ls hl => ?_)
      obtain ⟨⟨j5x, j6x, j7x⟩, hlp, h⟩ := bnd_h h
      have L1 : ∀ (n : Nat) (j5 : Int32) (j6 : Int32) (j7 : Int32) (j5x : Int32) (j6x : Int32) (j7x : Int32), lp (u3 (b_X9_sizes_1 shelf_cells shelf_clogs shelf_day x1)) n (j5, j6, j7) = some (j5x, j6x, j7x) → ∀ (H : Heap) (locs : List Loc) (ls : Array Slot), PD (dC, dI) A s.heap [(q0, .inr (9, [.ref q1, .ref q3, .ref q11, .ref q13, .ref q16, .ref q17, .ref q21, .ref q23, .ref q25, .ref q30])), (q11, .inr (4, [.ref q12, .int shelf_clogs, .int shelf_day])), (q12, .inl (cc 0, 50, .inl shelf_cells))] H locs → lv_has ls 7 [(0, .ref q0), (1, .int x1), (2, .int x2), (3, .int j5), (4, .int j6), (5, .int j7)] → (∀ (H : Heap) (locs : List Loc) (ls : Array Slot), PD (dC, dI) A s.heap [(q0, .inr (9, [.ref q1, .ref q3, .ref q11, .ref q13, .ref q16, .ref q17, .ref q21, .ref q23, .ref q25, .ref q30])), (q11, .inr (4, [.ref q12, .int shelf_clogs, .int shelf_day])), (q12, .inl (cc 0, 50, .inl shelf_cells))] H locs → lv_has ls 7 [(0, .ref q0), (1, .int x1), (2, .int x2), (3, .int j5x), (4, .int j6x), (5, .int j7x)] → W p l e ({ frames := 4, cells := 0, slots := 0, locals := 92 } : Room) s m ([.ref q0, .int x1, .int x2] : List Value).toArray below meth c H locs 0 0 Z (F0 m 66 ls [])) → W p l e ({ frames := 4, cells := 0, slots := 0, locals := 92 } : Room) s m ([.ref q0, .int x1, .int x2] : List Value).toArray below meth c H locs 0 0 Z (F0 m 28 ls []) := by
        intro n
        induction n with
        | zero => intro j5 j6 j7 j5x j6x j7x h; exact (lp_0 h).elim
        | succ n ih =>
          intro j5 j6 j7 j5x j6x j7x h H locs ls hP hl KK
          obtain ⟨y, h, hz⟩ := lp_h h
          refine lv_iload hx hb dX9_sizes_28 (lv_at hl 5 rfl) ?_
          refine lv_bipush (v := 72) hx hb dX9_sizes_30 (by decide) ?_
          refine lv_icmp_gt (tgt := 66) hx hb dX9_sizes_32 (by decide) (fun c8 => ?_) (fun c8 => ?_)
          · have h := if_t c8 h
            cases lp_e h hz
            exact KK H locs ls hP (lv_sub hl [0, 1, 2, 3, 4, 5] rfl)
          · have h := if_f c8 h
            refine lv_aload_n hx hb dX9_sizes_35 rfl (lv_at hl 0 rfl) ?_
            refine g_get hC hP fg_X9_26 0 rfl rfl dX9_sizes_36 ?_
            refine lv_iload hx hb dX9_sizes_39 (lv_at hl 5 rfl) ?_
            refine lv_iload_n hx hb dX9_sizes_41 rfl (lv_at hl 1 rfl) ?_
            obtain ⟨r9, hu, h⟩ := bnd_h h
            refine kc_i (kV hC (c_X4_unholedFrom l dC dI cc q11 q12 shelf_clogs shelf_day shelf_cells j7 x1 H.size r9 hu) cv_X9_207 kw679 rfl rfl ⟨(Nat.le_of_ble_eq_true rfl), (Nat.le_of_ble_eq_true rfl)⟩ hP [1, 2] rfl rfl rfl (q0 := 1) rfl (As := [.int j7, .int x1]) (rest := []) rfl rfl hl.1 (Nat.le_of_ble_eq_true rfl) dX9_sizes_42 ⟨Nat.zero_le _, Nat.zero_le _⟩) hP hA [1, 2] rfl rfl (fun H locs hP => ?_)
            have hP : PD (dC, dI) A s.heap [(q0, .inr (9, [.ref q1, .ref q3, .ref q11, .ref q13, .ref q16, .ref q17, .ref q21, .ref q23, .ref q25, .ref q30])), (q11, .inr (4, [.ref q12, .int shelf_clogs, .int shelf_day])), (q12, .inl (cc 0, 50, .inl shelf_cells))] H locs := hP
            refine lv_istore (lv' := [(6, .int r9), (0, .ref q0), (1, .int x1), (2, .int x2), (3, .int j5), (4, .int j6), (5, .int j7)]) hx hb dX9_sizes_45 hl (by decide) rfl (fun ls hl => ?_)
            refine lv_iload hx hb dX9_sizes_47 (lv_at hl 0 rfl) ?_
            refine lv_iload_n hx hb dX9_sizes_49 rfl (lv_at hl 4 rfl) ?_
            refine lv_icmp_le (tgt := 60) hx hb dX9_sizes_50 (by decide) (fun c10 => ?_) (fun c10 => ?_)
            · have h := if_t c10 h
              refine lv_iinc (v := (j7 + 1)) (lv' := [(5, .int (j7 + 1)), (6, .int r9), (0, .ref q0), (1, .int x1), (2, .int x2), (3, .int j5), (4, .int j6)]) hx hb dX9_sizes_60 hl (k := 6) rfl rfl (by decide) rfl (fun ls hl => ?_)
              refine lv_goto (tgt := 28) hx hb dX9_sizes_63 (by decide) ?_
              exact ih _ _ _ _ _ _ (lp_n h hz) H locs ls hP (lv_sub hl [2, 3, 4, 5, 6, 0] rfl) KK
            · have h := if_f c10 h
              refine lv_iload hx hb dX9_sizes_53 (lv_at hl 0 rfl) ?_
              refine lv_istore_n (lv' := [(3, .int r9), (6, .int r9), (0, .ref q0), (1, .int x1), (2, .int x2), (4, .int j6), (5, .int j7)]) hx hb dX9_sizes_55 rfl hl (by decide) rfl (fun ls hl => ?_)
              refine lv_iload hx hb dX9_sizes_56 (lv_at hl 6 rfl) ?_
              refine lv_istore (lv' := [(4, .int j7), (3, .int r9), (6, .int r9), (0, .ref q0), (1, .int x1), (2, .int x2), (5, .int j7)]) hx hb dX9_sizes_58 hl (by decide) rfl (fun ls hl => ?_)
              refine lv_iinc (v := (j7 + 1)) (lv' := [(5, .int (j7 + 1)), (4, .int j7), (3, .int r9), (6, .int r9), (0, .ref q0), (1, .int x1), (2, .int x2)]) hx hb dX9_sizes_60 hl (k := 6) rfl rfl (by decide) rfl (fun ls hl => ?_)
              refine lv_goto (tgt := 28) hx hb dX9_sizes_63 (by decide) ?_
              exact ih _ _ _ _ _ _ (lp_n h hz) H locs ls hP (lv_sub hl [4, 5, 6, 2, 1, 0] rfl) KK
      refine L1 FU _ _ _ j5x j6x j7x hlp H locs ls hP (lv_sub hl [3, 4, 5, 2, 1, 0] rfl) (fun H locs ls hP hl => ?_)
      refine lv_iload_n hx hb dX9_sizes_66 rfl (lv_at hl 2 rfl) ?_
      refine lv_if_ne (tgt := 75) hx hb dX9_sizes_67 (by decide) (fun c11 => ?_) (fun c11 => ?_)
      · have h := if_f c11 h
        refine lv_iload_n hx hb dX9_sizes_75 rfl (lv_at hl 3 rfl) ?_
        rw [eZ]
        exact ret_i hC hr hlk hP dX9_sizes_76 () (⟨Option.some.inj h, rfl⟩) rfl
      · have h := if_t c11 h
        refine lv_iload hx hb dX9_sizes_70 (lv_at hl 4 rfl) ?_
        refine lv_goto (tgt := 76) hx hb dX9_sizes_72 (by decide) ?_
        rw [eZ]
        exact ret_i hC hr hlk hP dX9_sizes_76 () (⟨Option.some.inj h, rfl⟩) rfl
    · have h := if_t c4 h
      refine lv_iconst (v := -1) hx hb dX9_sizes_18 (by decide) ?_
      rw [eZ]
      exact ret_i hC hr hlk hP dX9_sizes_19 () (⟨Option.some.inj h, rfl⟩) rfl
set_option maxHeartbeats 8000000 in
set_option maxRecDepth 100000 in
theorem c_X9_heard (l : Launch) (dC : Nat → ClassId) (dI : Nat → Nat → Nat) (cc : Nat → ClassId) (q0 q1 q3 q11 q13 q16 q17 q21 q23 q25 q30 q18 q19 q20 : Nat) (walls_sounds : Int32) (walls_clogs : (Nat → Int32)) (walls_limits : (Nat → Int32)) (walls_clears : (Nat → Int32)) (x1 : Int32) (x2 : Int32) (x3 : Int32) (sz : Nat) (ret : Int32) (o_walls_clogs : (Nat → Int32)) (o_walls_limits : (Nat → Int32)) (o_walls_clears : (Nat → Int32)) (o_walls_sounds : Int32) (hu : f_X9_heard x1 x2 x3 walls_sounds walls_clogs walls_limits walls_clears = some (ret, o_walls_clogs, o_walls_limits, o_walls_clears, o_walls_sounds)) : Met l yX9_heard (mw yX9_heard cX9_heard 4 (some .int)) ({ frames := 2, cells := 0, slots := 0, locals := 45 } : Room) (va_Pc [.ref q0, .int x1, .int x2, .int x3] (mP (dC, dI) (ts cc) sz [(q0, .inr (9, [.ref q1, .ref q3, .ref q11, .ref q13, .ref q16, .ref q17, .ref q21, .ref q23, .ref q25, .ref q30])), (q17, .inr (7, [.ref q18, .ref q19, .ref q20, .int walls_sounds])), (q18, .inl (cc 0, 8, .inl walls_clogs)), (q19, .inl (cc 0, 8, .inl walls_limits)), (q20, .inl (cc 0, 8, .inl walls_clears))])) ((fun A => va_Qi (fun (r : Int32) (w : (Nat → Int32) × (Nat → Int32) × (Nat → Int32) × Int32) => r = ret ∧ w = (o_walls_clogs, o_walls_limits, o_walls_clears, o_walls_sounds)) (fun (w : (Nat → Int32) × (Nat → Int32) × (Nat → Int32) × Int32) t => va_P (dC, dI) classes [(q0, .inr (9, [.ref q1, .ref q3, .ref q11, .ref q13, .ref q16, .ref q17, .ref q21, .ref q23, .ref q25, .ref q30])), (q17, .inr (7, [.ref q18, .ref q19, .ref q20, .int w.2.2.2])), (q18, .inl (cc 0, 8, .inl w.1)), (q19, .inl (cc 0, 8, .inl w.2.1)), (q20, .inl (cc 0, 8, .inl w.2.2.1))] t.heap) A) (va_A [(q0, .inr (9, [.ref q1, .ref q3, .ref q11, .ref q13, .ref q16, .ref q17, .ref q21, .ref q23, .ref q25, .ref q30])), (q17, .inr (7, [.ref q18, .ref q19, .ref q20, .int walls_sounds])), (q18, .inl (cc 0, 8, .inl walls_clogs)), (q19, .inl (cc 0, 8, .inl walls_limits)), (q20, .inl (cc 0, 8, .inl walls_clears))] sz)) 0 0 (va_A [(q0, .inr (9, [.ref q1, .ref q3, .ref q11, .ref q13, .ref q16, .ref q17, .ref q21, .ref q23, .ref q25, .ref q30])), (q17, .inr (7, [.ref q18, .ref q19, .ref q20, .int walls_sounds])), (q18, .inl (cc 0, 8, .inl walls_clogs)), (q19, .inl (cc 0, 8, .inl walls_limits)), (q20, .inl (cc 0, 8, .inl walls_clears))] sz) := by
  refine met_go (Qc := fun A => va_Qi (fun (r : Int32) (w : (Nat → Int32) × (Nat → Int32) × (Nat → Int32) × Int32) => r = ret ∧ w = (o_walls_clogs, o_walls_limits, o_walls_clears, o_walls_sounds)) (fun (w : (Nat → Int32) × (Nat → Int32) × (Nat → Int32) × Int32) t => va_P (dC, dI) classes [(q0, .inr (9, [.ref q1, .ref q3, .ref q11, .ref q13, .ref q16, .ref q17, .ref q21, .ref q23, .ref q25, .ref q30])), (q17, .inr (7, [.ref q18, .ref q19, .ref q20, .int w.2.2.2])), (q18, .inl (cc 0, 8, .inl w.1)), (q19, .inl (cc 0, 8, .inl w.2.1)), (q20, .inl (cc 0, 8, .inl w.2.2.1))] t.heap) A) (by decide) (Nat.le_of_ble_eq_true rfl) ?_
  intro p e s m below meth c A ls H locs hC hr hlk hin hA hP hl _
  have hC : CX p m c cX9_heard 4 s ([.ref q0, .int x1, .int x2, .int x3] : List Value).toArray RX9 (dC, dI) (ts cc) := hC
  have hx := hC.1.1
  have hb := hC.1.2
  have h := hu
  have hu0 := hu
  unfold f_X9_heard at h
  have hl : lv_has ls 4 [(0, .ref q0), (1, .int x1), (2, .int x2), (3, .int x3)] := hl
  refine lv_iload_n hx hb dX9_heard_0 rfl (lv_at hl 1 rfl) ?_
  refine lv_iconst (v := 0) hx hb dX9_heard_1 (by decide) ?_
  refine lv_bipush (v := 9) hx hb dX9_heard_2 (by decide) ?_
  obtain ⟨r1, hu, h⟩ := bnd_h h
  refine kc_z (kS hC (c_X9_within l dC dI cc x1 0 9 H.size r1 hu) cs_X9_99 kw338 rfl rfl ⟨(Nat.le_of_ble_eq_true rfl), (Nat.le_of_ble_eq_true rfl)⟩ hP [] rfl rfl (As := [.int x1, .int 0, .int 9]) (rest := []) rfl rfl hl.1 (Nat.le_of_ble_eq_true rfl) dX9_heard_4 ⟨Nat.zero_le _, Nat.zero_le _⟩) hP hA [] rfl rfl (fun hz_r1 H locs hP => ?_)
  have hP : PD (dC, dI) A s.heap [(q0, .inr (9, [.ref q1, .ref q3, .ref q11, .ref q13, .ref q16, .ref q17, .ref q21, .ref q23, .ref q25, .ref q30])), (q17, .inr (7, [.ref q18, .ref q19, .ref q20, .int walls_sounds])), (q18, .inl (cc 0, 8, .inl walls_clogs)), (q19, .inl (cc 0, 8, .inl walls_limits)), (q20, .inl (cc 0, 8, .inl walls_clears))] H locs := hP
  refine lv_if_eq (tgt := 29) hx hb dX9_heard_7 (by decide) (fun c2 => ?_) (fun c2 => ?_)
  · have h := if_t c2 h
    refine lv_iconst (v := -1) hx hb dX9_heard_29 (by decide) ?_
    exact ret_i hC hr hlk hP dX9_heard_30 (walls_clogs, walls_limits, walls_clears, walls_sounds) (Prod.mk.inj (Option.some.inj h)) rfl
  · have h := if_f c2 h
    refine lv_iload_n hx hb dX9_heard_10 rfl (lv_at hl 2 rfl) ?_
    refine lv_iconst (v := 1) hx hb dX9_heard_11 (by decide) ?_
    refine lv_bipush (v := 9) hx hb dX9_heard_12 (by decide) ?_
    obtain ⟨r3, hu, h⟩ := bnd_h h
    refine kc_z (kS hC (c_X9_within l dC dI cc x2 1 9 H.size r3 hu) cs_X9_99 kw338 rfl rfl ⟨(Nat.le_of_ble_eq_true rfl), (Nat.le_of_ble_eq_true rfl)⟩ hP [] rfl rfl (As := [.int x2, .int 1, .int 9]) (rest := []) rfl rfl hl.1 (Nat.le_of_ble_eq_true rfl) dX9_heard_14 ⟨Nat.zero_le _, Nat.zero_le _⟩) hP hA [] rfl rfl (fun hz_r3 H locs hP => ?_)
    have hP : PD (dC, dI) A s.heap [(q0, .inr (9, [.ref q1, .ref q3, .ref q11, .ref q13, .ref q16, .ref q17, .ref q21, .ref q23, .ref q25, .ref q30])), (q17, .inr (7, [.ref q18, .ref q19, .ref q20, .int walls_sounds])), (q18, .inl (cc 0, 8, .inl walls_clogs)), (q19, .inl (cc 0, 8, .inl walls_limits)), (q20, .inl (cc 0, 8, .inl walls_clears))] H locs := hP
    refine lv_if_eq (tgt := 29) hx hb dX9_heard_17 (by decide) (fun c4 => ?_) (fun c4 => ?_)
    · have h := if_t c4 h
      refine lv_iconst (v := -1) hx hb dX9_heard_29 (by decide) ?_
      exact ret_i hC hr hlk hP dX9_heard_30 (walls_clogs, walls_limits, walls_clears, walls_sounds) (Prod.mk.inj (Option.some.inj h)) rfl
    · have h := if_f c4 h
      refine lv_iload_n hx hb dX9_heard_20 rfl (lv_at hl 3 rfl) ?_
      refine lv_iconst (v := 0) hx hb dX9_heard_21 (by decide) ?_
      refine lv_iconst (v := 1) hx hb dX9_heard_22 (by decide) ?_
      obtain ⟨r5, hu, h⟩ := bnd_h h
      refine kc_z (kS hC (c_X9_within l dC dI cc x3 0 1 H.size r5 hu) cs_X9_99 kw338 rfl rfl ⟨(Nat.le_of_ble_eq_true rfl), (Nat.le_of_ble_eq_true rfl)⟩ hP [] rfl rfl (As := [.int x3, .int 0, .int 1]) (rest := []) rfl rfl hl.1 (Nat.le_of_ble_eq_true rfl) dX9_heard_23 ⟨Nat.zero_le _, Nat.zero_le _⟩) hP hA [] rfl rfl (fun hz_r5 H locs hP => ?_)
      have hP : PD (dC, dI) A s.heap [(q0, .inr (9, [.ref q1, .ref q3, .ref q11, .ref q13, .ref q16, .ref q17, .ref q21, .ref q23, .ref q25, .ref q30])), (q17, .inr (7, [.ref q18, .ref q19, .ref q20, .int walls_sounds])), (q18, .inl (cc 0, 8, .inl walls_clogs)), (q19, .inl (cc 0, 8, .inl walls_limits)), (q20, .inl (cc 0, 8, .inl walls_clears))] H locs := hP
      refine lv_if_ne (tgt := 31) hx hb dX9_heard_26 (by decide) (fun c6 => ?_) (fun c6 => ?_)
      · have h := if_f c6 h
        refine lv_aload_n hx hb dX9_heard_31 rfl (lv_at hl 0 rfl) ?_
        refine g_get hC hP fg_X9_47 0 rfl rfl dX9_heard_32 ?_
        refine g_get hC hP fg_X9_210 1 rfl rfl dX9_heard_35 ?_
        refine lv_bipush (v := 8) hx hb dX9_heard_38 (by decide) ?_
        refine lv_icmp_lt (tgt := 46) hx hb dX9_heard_40 (by decide) (fun c7 => ?_) (fun c7 => ?_)
        · have h := if_t c7 h
          refine lv_aload_n hx hb dX9_heard_46 rfl (lv_at hl 0 rfl) ?_
          refine g_get hC hP fg_X9_47 0 rfl rfl dX9_heard_47 ?_
          refine lv_iload_n hx hb dX9_heard_50 rfl (lv_at hl 1 rfl) ?_
          refine lv_iload_n hx hb dX9_heard_51 rfl (lv_at hl 2 rfl) ?_
          refine lv_iload_n hx hb dX9_heard_52 rfl (lv_at hl 3 rfl) ?_
          obtain ⟨⟨w8, w9, w10, w11⟩, hu, h⟩ := bnd_h h
          refine kc_v (kV hC (c_X7_add l dC dI cc q17 q18 q19 q20 walls_sounds walls_clogs walls_limits walls_clears x1 x2 x3 H.size w8 w9 w10 w11 hu) cv_X9_213 kw687 rfl rfl ⟨(Nat.le_of_ble_eq_true rfl), (Nat.le_of_ble_eq_true rfl)⟩ hP [1, 2, 3, 4] rfl rfl rfl (q0 := 1) rfl (As := [.int x1, .int x2, .int x3]) (rest := []) rfl rfl hl.1 (Nat.le_of_ble_eq_true rfl) dX9_heard_53 ⟨Nat.zero_le _, Nat.zero_le _⟩) hP hA [1, 2, 3, 4] rfl rfl (fun H locs hP => ?_)
          have hP : PD (dC, dI) A s.heap [(q0, .inr (9, [.ref q1, .ref q3, .ref q11, .ref q13, .ref q16, .ref q17, .ref q21, .ref q23, .ref q25, .ref q30])), (q17, .inr (7, [.ref q18, .ref q19, .ref q20, .int w11])), (q18, .inl (cc 0, 8, .inl w8)), (q19, .inl (cc 0, 8, .inl w9)), (q20, .inl (cc 0, 8, .inl w10))] H locs := hP
          refine lv_aload_n hx hb dX9_heard_56 rfl (lv_at hl 0 rfl) ?_
          refine g_get hC hP fg_X9_47 0 rfl rfl dX9_heard_57 ?_
          refine g_get hC hP fg_X9_210 1 rfl rfl dX9_heard_60 ?_
          exact ret_i hC hr hlk hP dX9_heard_63 (w8, w9, w10, w11) (Prod.mk.inj (Option.some.inj h)) rfl
        · have h := if_f c7 h
          refine lv_bipush (v := -3) hx hb dX9_heard_43 (by decide) ?_
          exact ret_i hC hr hlk hP dX9_heard_45 (walls_clogs, walls_limits, walls_clears, walls_sounds) (Prod.mk.inj (Option.some.inj h)) rfl
      · have h := if_t c6 h
        refine lv_iconst (v := -1) hx hb dX9_heard_29 (by decide) ?_
        exact ret_i hC hr hlk hP dX9_heard_30 (walls_clogs, walls_limits, walls_clears, walls_sounds) (Prod.mk.inj (Option.some.inj h)) rfl
set_option maxHeartbeats 8000000 in
set_option maxRecDepth 100000 in
theorem c_X9_forget (l : Launch) (dC : Nat → ClassId) (dI : Nat → Nat → Nat) (cc : Nat → ClassId) (q0 q1 q3 q11 q13 q16 q17 q21 q23 q25 q30 q18 q19 q20 : Nat) (walls_sounds : Int32) (sz : Nat) (ret : Int32) (o_walls_sounds : Int32) (hu : f_X9_forget walls_sounds = some (ret, o_walls_sounds)) : Met l yX9_forget (mw yX9_forget cX9_forget 2 (some .int)) ({ frames := 0, cells := 0, slots := 0, locals := 0 } : Room) (va_Pc [.ref q0] (mP (dC, dI) (ts cc) sz [(q0, .inr (9, [.ref q1, .ref q3, .ref q11, .ref q13, .ref q16, .ref q17, .ref q21, .ref q23, .ref q25, .ref q30])), (q17, .inr (7, [.ref q18, .ref q19, .ref q20, .int walls_sounds]))])) ((fun A => va_Qi (fun (r : Int32) (w : Int32) => r = ret ∧ w = o_walls_sounds) (fun (w : Int32) t => va_P (dC, dI) classes [(q0, .inr (9, [.ref q1, .ref q3, .ref q11, .ref q13, .ref q16, .ref q17, .ref q21, .ref q23, .ref q25, .ref q30])), (q17, .inr (7, [.ref q18, .ref q19, .ref q20, .int w]))] t.heap) A) (va_A [(q0, .inr (9, [.ref q1, .ref q3, .ref q11, .ref q13, .ref q16, .ref q17, .ref q21, .ref q23, .ref q25, .ref q30])), (q17, .inr (7, [.ref q18, .ref q19, .ref q20, .int walls_sounds]))] sz)) 0 0 (va_A [(q0, .inr (9, [.ref q1, .ref q3, .ref q11, .ref q13, .ref q16, .ref q17, .ref q21, .ref q23, .ref q25, .ref q30])), (q17, .inr (7, [.ref q18, .ref q19, .ref q20, .int walls_sounds]))] sz) := by
  refine met_go (Qc := fun A => va_Qi (fun (r : Int32) (w : Int32) => r = ret ∧ w = o_walls_sounds) (fun (w : Int32) t => va_P (dC, dI) classes [(q0, .inr (9, [.ref q1, .ref q3, .ref q11, .ref q13, .ref q16, .ref q17, .ref q21, .ref q23, .ref q25, .ref q30])), (q17, .inr (7, [.ref q18, .ref q19, .ref q20, .int w]))] t.heap) A) (by decide) (Nat.le_of_ble_eq_true rfl) ?_
  intro p e s m below meth c A ls H locs hC hr hlk hin hA hP hl _
  have hC : CX p m c cX9_forget 2 s ([.ref q0] : List Value).toArray RX9 (dC, dI) (ts cc) := hC
  have hx := hC.1.1
  have hb := hC.1.2
  have h := hu
  have hu0 := hu
  unfold f_X9_forget at h
  have hl : lv_has ls 2 [(0, .ref q0)] := hl
  refine lv_aload_n hx hb dX9_forget_0 rfl (lv_at hl 0 rfl) ?_
  refine g_get hC hP fg_X9_47 0 rfl rfl dX9_forget_1 ?_
  refine g_get hC hP fg_X9_210 1 rfl rfl dX9_forget_4 ?_
  refine lv_istore_n (lv' := [(1, .int walls_sounds), (0, .ref q0)]) hx hb dX9_forget_7 rfl hl (by decide) rfl (fun ls hl => ?_)
  refine lv_aload_n hx hb dX9_forget_8 rfl (lv_at hl 1 rfl) ?_
  refine g_get hC hP fg_X9_47 0 rfl rfl dX9_forget_9 ?_
  refine lv_iconst (v := 0) hx hb dX9_forget_12 (by decide) ?_
  refine g_put hC hP fg_X9_210 1 rfl rfl rfl (Nat.le_of_ble_eq_true rfl) dX9_forget_13 (fun H locs hP => ?_)
  have hP : PD (dC, dI) A s.heap [(q0, .inr (9, [.ref q1, .ref q3, .ref q11, .ref q13, .ref q16, .ref q17, .ref q21, .ref q23, .ref q25, .ref q30])), (q17, .inr (7, [.ref q18, .ref q19, .ref q20, .int 0]))] H locs := hP
  refine lv_iload_n hx hb dX9_forget_16 rfl (lv_at hl 0 rfl) ?_
  exact ret_i hC hr hlk hP dX9_forget_17 0 (Prod.mk.inj (Option.some.inj h)) rfl
set_option maxHeartbeats 8000000 in
set_option maxRecDepth 100000 in
theorem c_X9_thick (l : Launch) (dC : Nat → ClassId) (dI : Nat → Nat → Nat) (cc : Nat → ClassId) (q0 q1 q3 q11 q13 q16 q17 q21 q23 q25 q30 q18 q19 q20 : Nat) (walls_sounds : Int32) (walls_clogs : (Nat → Int32)) (walls_limits : (Nat → Int32)) (walls_clears : (Nat → Int32)) (x1 : Int32) (sz : Nat) (ret : Int32) (hu : f_X9_thick x1 walls_sounds walls_clogs walls_limits walls_clears = some ret) : Met l yX9_thick (mw yX9_thick cX9_thick 2 (some .int)) ({ frames := 3, cells := 0, slots := 0, locals := 68 } : Room) (va_Pc [.ref q0, .int x1] (mP (dC, dI) (ts cc) sz [(q0, .inr (9, [.ref q1, .ref q3, .ref q11, .ref q13, .ref q16, .ref q17, .ref q21, .ref q23, .ref q25, .ref q30])), (q17, .inr (7, [.ref q18, .ref q19, .ref q20, .int walls_sounds])), (q18, .inl (cc 0, 8, .inl walls_clogs)), (q19, .inl (cc 0, 8, .inl walls_limits)), (q20, .inl (cc 0, 8, .inl walls_clears))])) ((fun A => va_Qi (fun (r : Int32) (w : Unit) => r = ret ∧ w = ()) (fun (w : Unit) t => va_P (dC, dI) classes [(q0, .inr (9, [.ref q1, .ref q3, .ref q11, .ref q13, .ref q16, .ref q17, .ref q21, .ref q23, .ref q25, .ref q30])), (q17, .inr (7, [.ref q18, .ref q19, .ref q20, .int walls_sounds])), (q18, .inl (cc 0, 8, .inl walls_clogs)), (q19, .inl (cc 0, 8, .inl walls_limits)), (q20, .inl (cc 0, 8, .inl walls_clears))] t.heap) A) (va_A [(q0, .inr (9, [.ref q1, .ref q3, .ref q11, .ref q13, .ref q16, .ref q17, .ref q21, .ref q23, .ref q25, .ref q30])), (q17, .inr (7, [.ref q18, .ref q19, .ref q20, .int walls_sounds])), (q18, .inl (cc 0, 8, .inl walls_clogs)), (q19, .inl (cc 0, 8, .inl walls_limits)), (q20, .inl (cc 0, 8, .inl walls_clears))] sz)) 0 0 (va_A [(q0, .inr (9, [.ref q1, .ref q3, .ref q11, .ref q13, .ref q16, .ref q17, .ref q21, .ref q23, .ref q25, .ref q30])), (q17, .inr (7, [.ref q18, .ref q19, .ref q20, .int walls_sounds])), (q18, .inl (cc 0, 8, .inl walls_clogs)), (q19, .inl (cc 0, 8, .inl walls_limits)), (q20, .inl (cc 0, 8, .inl walls_clears))] sz) := by
  refine met_go (Qc := fun A => va_Qi (fun (r : Int32) (w : Unit) => r = ret ∧ w = ()) (fun (w : Unit) t => va_P (dC, dI) classes [(q0, .inr (9, [.ref q1, .ref q3, .ref q11, .ref q13, .ref q16, .ref q17, .ref q21, .ref q23, .ref q25, .ref q30])), (q17, .inr (7, [.ref q18, .ref q19, .ref q20, .int walls_sounds])), (q18, .inl (cc 0, 8, .inl walls_clogs)), (q19, .inl (cc 0, 8, .inl walls_limits)), (q20, .inl (cc 0, 8, .inl walls_clears))] t.heap) A) (by decide) (Nat.le_of_ble_eq_true rfl) ?_
  intro p e s m below meth c A ls H locs hC hr hlk hin hA hP hl _
  have hC : CX p m c cX9_thick 2 s ([.ref q0, .int x1] : List Value).toArray RX9 (dC, dI) (ts cc) := hC
  have hx := hC.1.1
  have hb := hC.1.2
  have h := hu
  have hu0 := hu
  unfold f_X9_thick at h
  have hl : lv_has ls 2 [(0, .ref q0), (1, .int x1)] := hl
  refine lv_iload_n hx hb dX9_thick_0 rfl (lv_at hl 1 rfl) ?_
  refine lv_iconst (v := 0) hx hb dX9_thick_1 (by decide) ?_
  refine lv_bipush (v := 9) hx hb dX9_thick_2 (by decide) ?_
  obtain ⟨r1, hu, h⟩ := bnd_h h
  refine kc_z (kS hC (c_X9_within l dC dI cc x1 0 9 H.size r1 hu) cs_X9_99 kw338 rfl rfl ⟨(Nat.le_of_ble_eq_true rfl), (Nat.le_of_ble_eq_true rfl)⟩ hP [] rfl rfl (As := [.int x1, .int 0, .int 9]) (rest := []) rfl rfl hl.1 (Nat.le_of_ble_eq_true rfl) dX9_thick_4 ⟨Nat.zero_le _, Nat.zero_le _⟩) hP hA [] rfl rfl (fun hz_r1 H locs hP => ?_)
  have hP : PD (dC, dI) A s.heap [(q0, .inr (9, [.ref q1, .ref q3, .ref q11, .ref q13, .ref q16, .ref q17, .ref q21, .ref q23, .ref q25, .ref q30])), (q17, .inr (7, [.ref q18, .ref q19, .ref q20, .int walls_sounds])), (q18, .inl (cc 0, 8, .inl walls_clogs)), (q19, .inl (cc 0, 8, .inl walls_limits)), (q20, .inl (cc 0, 8, .inl walls_clears))] H locs := hP
  refine lv_if_ne (tgt := 12) hx hb dX9_thick_7 (by decide) (fun c2 => ?_) (fun c2 => ?_)
  · have h := if_f c2 h
    refine lv_aload_n hx hb dX9_thick_12 rfl (lv_at hl 0 rfl) ?_
    refine g_get hC hP fg_X9_47 0 rfl rfl dX9_thick_13 ?_
    refine lv_iload_n hx hb dX9_thick_16 rfl (lv_at hl 1 rfl) ?_
    obtain ⟨r3, hu, h⟩ := bnd_h h
    refine kc_i (kV hC (c_X7_thicknesses l dC dI cc q17 q18 q19 q20 walls_sounds walls_clogs walls_limits walls_clears x1 H.size r3 hu) cv_X9_216 kw700 rfl rfl ⟨(Nat.le_of_ble_eq_true rfl), (Nat.le_of_ble_eq_true rfl)⟩ hP [1, 2, 3, 4] rfl rfl rfl (q0 := 1) rfl (As := [.int x1]) (rest := []) rfl rfl hl.1 (Nat.le_of_ble_eq_true rfl) dX9_thick_17 ⟨Nat.zero_le _, Nat.zero_le _⟩) hP hA [1, 2, 3, 4] rfl rfl (fun H locs hP => ?_)
    have hP : PD (dC, dI) A s.heap [(q0, .inr (9, [.ref q1, .ref q3, .ref q11, .ref q13, .ref q16, .ref q17, .ref q21, .ref q23, .ref q25, .ref q30])), (q17, .inr (7, [.ref q18, .ref q19, .ref q20, .int walls_sounds])), (q18, .inl (cc 0, 8, .inl walls_clogs)), (q19, .inl (cc 0, 8, .inl walls_limits)), (q20, .inl (cc 0, 8, .inl walls_clears))] H locs := hP
    exact ret_i hC hr hlk hP dX9_thick_20 () (⟨Option.some.inj h, rfl⟩) rfl
  · have h := if_t c2 h
    refine lv_iconst (v := -1) hx hb dX9_thick_10 (by decide) ?_
    exact ret_i hC hr hlk hP dX9_thick_11 () (⟨Option.some.inj h, rfl⟩) rfl
set_option maxHeartbeats 8000000 in
set_option maxRecDepth 100000 in
theorem c_X9_whole (l : Launch) (dC : Nat → ClassId) (dI : Nat → Nat → Nat) (cc : Nat → ClassId) (q0 q1 q3 q11 q13 q16 q17 q21 q23 q25 q30 : Nat) (x1 : Int32) (x2 : Int32) (x3 : Int32) (sz : Nat) (ret : Int32) (hu : f_X9_whole x1 x2 x3 = some ret) : Met l yX9_whole (mw yX9_whole cX9_whole 6 (some .int)) ({ frames := 1, cells := 0, slots := 0, locals := 24 } : Room) (va_Pc [.ref q0, .int x1, .int x2, .int x3] (mP (dC, dI) (ts cc) sz [(q0, .inr (9, [.ref q1, .ref q3, .ref q11, .ref q13, .ref q16, .ref q17, .ref q21, .ref q23, .ref q25, .ref q30]))])) ((fun A => va_Qi (fun (r : Int32) (w : Unit) => r = ret ∧ w = ()) (fun (w : Unit) t => va_P (dC, dI) classes [(q0, .inr (9, [.ref q1, .ref q3, .ref q11, .ref q13, .ref q16, .ref q17, .ref q21, .ref q23, .ref q25, .ref q30]))] t.heap) A) (va_A [(q0, .inr (9, [.ref q1, .ref q3, .ref q11, .ref q13, .ref q16, .ref q17, .ref q21, .ref q23, .ref q25, .ref q30]))] sz)) 0 0 (va_A [(q0, .inr (9, [.ref q1, .ref q3, .ref q11, .ref q13, .ref q16, .ref q17, .ref q21, .ref q23, .ref q25, .ref q30]))] sz) := by
  refine met_go (Qc := fun A => va_Qi (fun (r : Int32) (w : Unit) => r = ret ∧ w = ()) (fun (w : Unit) t => va_P (dC, dI) classes [(q0, .inr (9, [.ref q1, .ref q3, .ref q11, .ref q13, .ref q16, .ref q17, .ref q21, .ref q23, .ref q25, .ref q30]))] t.heap) A) (by decide) (Nat.le_of_ble_eq_true rfl) ?_
  intro p e s m below meth c A ls H locs hC hr hlk hin hA hP hl _
  have hC : CX p m c cX9_whole 6 s ([.ref q0, .int x1, .int x2, .int x3] : List Value).toArray RX9 (dC, dI) (ts cc) := hC
  have hx := hC.1.1
  have hb := hC.1.2
  have h := hu
  have hu0 := hu
  unfold f_X9_whole at h
  have hl : lv_has ls 6 [(0, .ref q0), (1, .int x1), (2, .int x2), (3, .int x3)] := hl
  refine lv_iload_n hx hb dX9_whole_0 rfl (lv_at hl 1 rfl) ?_
  refine lv_iconst (v := 0) hx hb dX9_whole_1 (by decide) ?_
  refine lv_iconst (v := 4) hx hb dX9_whole_2 (by decide) ?_
  obtain ⟨r1, hu, h⟩ := bnd_h h
  refine kc_z (kS hC (c_X9_within l dC dI cc x1 0 4 H.size r1 hu) cs_X9_99 kw338 rfl rfl ⟨(Nat.le_of_ble_eq_true rfl), (Nat.le_of_ble_eq_true rfl)⟩ hP [] rfl rfl (As := [.int x1, .int 0, .int 4]) (rest := []) rfl rfl hl.1 (Nat.le_of_ble_eq_true rfl) dX9_whole_3 ⟨Nat.zero_le _, Nat.zero_le _⟩) hP hA [] rfl rfl (fun hz_r1 H locs hP => ?_)
  have hP : PD (dC, dI) A s.heap [(q0, .inr (9, [.ref q1, .ref q3, .ref q11, .ref q13, .ref q16, .ref q17, .ref q21, .ref q23, .ref q25, .ref q30]))] H locs := hP
  refine lv_if_eq (tgt := 28) hx hb dX9_whole_6 (by decide) (fun c2 => ?_) (fun c2 => ?_)
  · have h := if_t c2 h
    refine lv_iconst (v := -1) hx hb dX9_whole_28 (by decide) ?_
    exact ret_i hC hr hlk hP dX9_whole_29 () (⟨Option.some.inj h, rfl⟩) rfl
  · have h := if_f c2 h
    refine lv_iload_n hx hb dX9_whole_9 rfl (lv_at hl 2 rfl) ?_
    refine lv_iconst (v := 0) hx hb dX9_whole_10 (by decide) ?_
    refine lv_bipush (v := 10) hx hb dX9_whole_11 (by decide) ?_
    obtain ⟨r3, hu, h⟩ := bnd_h h
    refine kc_z (kS hC (c_X9_within l dC dI cc x2 0 10 H.size r3 hu) cs_X9_99 kw338 rfl rfl ⟨(Nat.le_of_ble_eq_true rfl), (Nat.le_of_ble_eq_true rfl)⟩ hP [] rfl rfl (As := [.int x2, .int 0, .int 10]) (rest := []) rfl rfl hl.1 (Nat.le_of_ble_eq_true rfl) dX9_whole_13 ⟨Nat.zero_le _, Nat.zero_le _⟩) hP hA [] rfl rfl (fun hz_r3 H locs hP => ?_)
    have hP : PD (dC, dI) A s.heap [(q0, .inr (9, [.ref q1, .ref q3, .ref q11, .ref q13, .ref q16, .ref q17, .ref q21, .ref q23, .ref q25, .ref q30]))] H locs := hP
    refine lv_if_eq (tgt := 28) hx hb dX9_whole_16 (by decide) (fun c4 => ?_) (fun c4 => ?_)
    · have h := if_t c4 h
      refine lv_iconst (v := -1) hx hb dX9_whole_28 (by decide) ?_
      exact ret_i hC hr hlk hP dX9_whole_29 () (⟨Option.some.inj h, rfl⟩) rfl
    · have h := if_f c4 h
      refine lv_iload_n hx hb dX9_whole_19 rfl (lv_at hl 3 rfl) ?_
      refine lv_iconst (v := 0) hx hb dX9_whole_20 (by decide) ?_
      refine lv_iconst (v := 1) hx hb dX9_whole_21 (by decide) ?_
      obtain ⟨r5, hu, h⟩ := bnd_h h
      refine kc_z (kS hC (c_X9_within l dC dI cc x3 0 1 H.size r5 hu) cs_X9_99 kw338 rfl rfl ⟨(Nat.le_of_ble_eq_true rfl), (Nat.le_of_ble_eq_true rfl)⟩ hP [] rfl rfl (As := [.int x3, .int 0, .int 1]) (rest := []) rfl rfl hl.1 (Nat.le_of_ble_eq_true rfl) dX9_whole_22 ⟨Nat.zero_le _, Nat.zero_le _⟩) hP hA [] rfl rfl (fun hz_r5 H locs hP => ?_)
      have hP : PD (dC, dI) A s.heap [(q0, .inr (9, [.ref q1, .ref q3, .ref q11, .ref q13, .ref q16, .ref q17, .ref q21, .ref q23, .ref q25, .ref q30]))] H locs := hP
      refine lv_if_ne (tgt := 30) hx hb dX9_whole_25 (by decide) (fun c6 => ?_) (fun c6 => ?_)
      · have h := if_f c6 h
        refine lv_iconst (v := 1) hx hb dX9_whole_30 (by decide) ?_
        refine lv_bipush (v := 10) hx hb dX9_whole_31 (by decide) ?_
        refine lv_iload_n hx hb dX9_whole_33 rfl (lv_at hl 2 rfl) ?_
        refine lv_isub hx hb dX9_whole_34 ?_
        obtain ⟨r7, hu, h⟩ := bnd_h h
        refine kc_i (kS hC (c_X9_commonDivisorWithTen l dC dI cc (10 - x2) H.size r7 hu) cs_X9_219 kw712 rfl rfl ⟨(Nat.le_of_ble_eq_true rfl), (Nat.le_of_ble_eq_true rfl)⟩ hP [] rfl rfl (As := [.int (10 - x2)]) (rest := [.int 1]) rfl rfl hl.1 (Nat.le_of_ble_eq_true rfl) dX9_whole_35 ⟨Nat.zero_le _, Nat.zero_le _⟩) hP hA [] rfl rfl (fun H locs hP => ?_)
        have hP : PD (dC, dI) A s.heap [(q0, .inr (9, [.ref q1, .ref q3, .ref q11, .ref q13, .ref q16, .ref q17, .ref q21, .ref q23, .ref q25, .ref q30]))] H locs := hP
        refine g_max hC hl.1 mh_X9_222 (Nat.le_of_ble_eq_true rfl) (Nat.le_of_ble_eq_true rfl) (Nat.zero_le _) (Nat.zero_le _) dX9_whole_38 ?_
        refine lv_topi (fun v8 ev => ?_)
        have h := nm_h ev h
        refine lv_istore (lv' := [(4, .int v8), (0, .ref q0), (1, .int x1), (2, .int x2), (3, .int x3)]) hx hb dX9_whole_41 hl (by decide) rfl (fun ls hl => ?_)
        refine lv_iload_n hx hb dX9_whole_43 rfl (lv_at hl 4 rfl) ?_
        refine lv_if_ne (tgt := 57) hx hb dX9_whole_44 (by decide) (fun c9 => ?_) (fun c9 => ?_)
        · have h := if_f c9 h
          refine lv_bipush (v := 10) hx hb dX9_whole_57 (by decide) ?_
          refine lv_iload hx hb dX9_whole_59 (lv_at hl 0 rfl) ?_
          obtain ⟨hne, h⟩ := dvI_h h
          refine lv_idiv hx hb dX9_whole_61 hne ?_
          refine lv_topi (fun v10 ev => ?_)
          have h := h v10 ev
          refine lv_istore (lv' := [(5, .int v10), (4, .int v8), (0, .ref q0), (1, .int x1), (2, .int x2), (3, .int x3)]) hx hb dX9_whole_62 hl (by decide) rfl (fun ls hl => ?_)
          refine lv_iload hx hb dX9_whole_64 (lv_at hl 0 rfl) ?_
          refine lv_iconst (v := 2) hx hb dX9_whole_66 (by decide) ?_
          refine lv_iload_n hx hb dX9_whole_67 rfl (lv_at hl 3 rfl) ?_
          refine lv_imul hx hb dX9_whole_68 ?_
          obtain ⟨r11, hu, h⟩ := bnd_h h
          refine kc_l (kS hC (c_X9_power l dC dI cc v10 (2 * x1) H.size r11 hu) cs_X9_227 kw716 rfl rfl ⟨(Nat.le_of_ble_eq_true rfl), (Nat.le_of_ble_eq_true rfl)⟩ hP [] rfl rfl (As := [.int v10, .int (2 * x1)]) (rest := []) rfl rfl hl.1 (Nat.le_of_ble_eq_true rfl) dX9_whole_69 ⟨Nat.zero_le _, Nat.zero_le _⟩) hP hA [] rfl rfl (fun H locs hP => ?_)
          have hP : PD (dC, dI) A s.heap [(q0, .inr (9, [.ref q1, .ref q3, .ref q11, .ref q13, .ref q16, .ref q17, .ref q21, .ref q23, .ref q25, .ref q30]))] H locs := hP
          refine lv_l2i hx hb dX9_whole_72 rfl ?_
          exact ret_i hC hr hlk hP dX9_whole_73 () (⟨Option.some.inj h, rfl⟩) rfl
        · have h := if_t c9 h
          refine lv_bipush (v := 10) hx hb dX9_whole_47 (by decide) ?_
          refine lv_iload_n hx hb dX9_whole_49 rfl (lv_at hl 3 rfl) ?_
          refine lv_isub hx hb dX9_whole_50 ?_
          refine lv_iload hx hb dX9_whole_51 (lv_at hl 0 rfl) ?_
          obtain ⟨hne, h⟩ := dvI_h h
          refine lv_idiv hx hb dX9_whole_53 hne ?_
          refine lv_topi (fun v12 ev => ?_)
          have h := h v12 ev
          refine lv_goto (tgt := 62) hx hb dX9_whole_54 (by decide) ?_
          refine lv_istore (lv' := [(5, .int v12), (4, .int v8), (0, .ref q0), (1, .int x1), (2, .int x2), (3, .int x3)]) hx hb dX9_whole_62 hl (by decide) rfl (fun ls hl => ?_)
          refine lv_iload hx hb dX9_whole_64 (lv_at hl 0 rfl) ?_
          refine lv_iconst (v := 2) hx hb dX9_whole_66 (by decide) ?_
          refine lv_iload_n hx hb dX9_whole_67 rfl (lv_at hl 3 rfl) ?_
          refine lv_imul hx hb dX9_whole_68 ?_
          obtain ⟨r13, hu, h⟩ := bnd_h h
          refine kc_l (kS hC (c_X9_power l dC dI cc v12 (2 * x1) H.size r13 hu) cs_X9_227 kw716 rfl rfl ⟨(Nat.le_of_ble_eq_true rfl), (Nat.le_of_ble_eq_true rfl)⟩ hP [] rfl rfl (As := [.int v12, .int (2 * x1)]) (rest := []) rfl rfl hl.1 (Nat.le_of_ble_eq_true rfl) dX9_whole_69 ⟨Nat.zero_le _, Nat.zero_le _⟩) hP hA [] rfl rfl (fun H locs hP => ?_)
          have hP : PD (dC, dI) A s.heap [(q0, .inr (9, [.ref q1, .ref q3, .ref q11, .ref q13, .ref q16, .ref q17, .ref q21, .ref q23, .ref q25, .ref q30]))] H locs := hP
          refine lv_l2i hx hb dX9_whole_72 rfl ?_
          exact ret_i hC hr hlk hP dX9_whole_73 () (⟨Option.some.inj h, rfl⟩) rfl
      · have h := if_t c6 h
        refine lv_iconst (v := -1) hx hb dX9_whole_28 (by decide) ?_
        exact ret_i hC hr hlk hP dX9_whole_29 () (⟨Option.some.inj h, rfl⟩) rfl
set_option maxHeartbeats 8000000 in
set_option maxRecDepth 100000 in
theorem c_X9_together (l : Launch) (dC : Nat → ClassId) (dI : Nat → Nat → Nat) (cc : Nat → ClassId) (q0 q1 q3 q11 q13 q16 q17 q21 q23 q25 q30 : Nat) (x1 : Int32) (x2 : Int32) (sz : Nat) (ret : Int32) (hu : f_X9_together x1 x2 = some ret) : Met l yX9_together (mw yX9_together cX9_together 7 (some .int)) ({ frames := 1, cells := 0, slots := 0, locals := 28 } : Room) (va_Pc [.ref q0, .int x1, .int x2] (mP (dC, dI) (ts cc) sz [(q0, .inr (9, [.ref q1, .ref q3, .ref q11, .ref q13, .ref q16, .ref q17, .ref q21, .ref q23, .ref q25, .ref q30]))])) ((fun A => va_Qi (fun (r : Int32) (w : Unit) => r = ret ∧ w = ()) (fun (w : Unit) t => va_P (dC, dI) classes [(q0, .inr (9, [.ref q1, .ref q3, .ref q11, .ref q13, .ref q16, .ref q17, .ref q21, .ref q23, .ref q25, .ref q30]))] t.heap) A) (va_A [(q0, .inr (9, [.ref q1, .ref q3, .ref q11, .ref q13, .ref q16, .ref q17, .ref q21, .ref q23, .ref q25, .ref q30]))] sz)) 0 0 (va_A [(q0, .inr (9, [.ref q1, .ref q3, .ref q11, .ref q13, .ref q16, .ref q17, .ref q21, .ref q23, .ref q25, .ref q30]))] sz) := by
  refine met_go (Qc := fun A => va_Qi (fun (r : Int32) (w : Unit) => r = ret ∧ w = ()) (fun (w : Unit) t => va_P (dC, dI) classes [(q0, .inr (9, [.ref q1, .ref q3, .ref q11, .ref q13, .ref q16, .ref q17, .ref q21, .ref q23, .ref q25, .ref q30]))] t.heap) A) (by decide) (Nat.le_of_ble_eq_true rfl) ?_
  intro p e s m below meth c A ls H locs hC hr hlk hin hA hP hl _
  have hC : CX p m c cX9_together 7 s ([.ref q0, .int x1, .int x2] : List Value).toArray RX9 (dC, dI) (ts cc) := hC
  have hx := hC.1.1
  have hb := hC.1.2
  have h := hu
  have hu0 := hu
  unfold f_X9_together at h
  have hl : lv_has ls 7 [(0, .ref q0), (1, .int x1), (2, .int x2)] := hl
  refine lv_iload_n hx hb dX9_together_0 rfl (lv_at hl 1 rfl) ?_
  refine lv_iconst (v := 0) hx hb dX9_together_1 (by decide) ?_
  refine lv_iconst (v := 3) hx hb dX9_together_2 (by decide) ?_
  obtain ⟨r1, hu, h⟩ := bnd_h h
  refine kc_z (kS hC (c_X9_within l dC dI cc x1 0 3 H.size r1 hu) cs_X9_99 kw338 rfl rfl ⟨(Nat.le_of_ble_eq_true rfl), (Nat.le_of_ble_eq_true rfl)⟩ hP [] rfl rfl (As := [.int x1, .int 0, .int 3]) (rest := []) rfl rfl hl.1 (Nat.le_of_ble_eq_true rfl) dX9_together_3 ⟨Nat.zero_le _, Nat.zero_le _⟩) hP hA [] rfl rfl (fun hz_r1 H locs hP => ?_)
  have hP : PD (dC, dI) A s.heap [(q0, .inr (9, [.ref q1, .ref q3, .ref q11, .ref q13, .ref q16, .ref q17, .ref q21, .ref q23, .ref q25, .ref q30]))] H locs := hP
  refine lv_if_eq (tgt := 19) hx hb dX9_together_6 (by decide) (fun c2 => ?_) (fun c2 => ?_)
  · have h := if_t c2 h
    refine lv_iconst (v := -1) hx hb dX9_together_19 (by decide) ?_
    exact ret_i hC hr hlk hP dX9_together_20 () (⟨Option.some.inj h, rfl⟩) rfl
  · have h := if_f c2 h
    refine lv_iload_n hx hb dX9_together_9 rfl (lv_at hl 2 rfl) ?_
    refine lv_iconst (v := 0) hx hb dX9_together_10 (by decide) ?_
    refine lv_bipush (v := 33) hx hb dX9_together_11 (by decide) ?_
    obtain ⟨r3, hu, h⟩ := bnd_h h
    refine kc_z (kS hC (c_X9_within l dC dI cc x2 0 33 H.size r3 hu) cs_X9_99 kw338 rfl rfl ⟨(Nat.le_of_ble_eq_true rfl), (Nat.le_of_ble_eq_true rfl)⟩ hP [] rfl rfl (As := [.int x2, .int 0, .int 33]) (rest := []) rfl rfl hl.1 (Nat.le_of_ble_eq_true rfl) dX9_together_13 ⟨Nat.zero_le _, Nat.zero_le _⟩) hP hA [] rfl rfl (fun hz_r3 H locs hP => ?_)
    have hP : PD (dC, dI) A s.heap [(q0, .inr (9, [.ref q1, .ref q3, .ref q11, .ref q13, .ref q16, .ref q17, .ref q21, .ref q23, .ref q25, .ref q30]))] H locs := hP
    refine lv_if_ne (tgt := 21) hx hb dX9_together_16 (by decide) (fun c4 => ?_) (fun c4 => ?_)
    · have h := if_f c4 h
      refine lv_iload_n hx hb dX9_together_21 rfl (lv_at hl 1 rfl) ?_
      refine lv_if_ne (tgt := 28) hx hb dX9_together_22 (by decide) (fun c5 => ?_) (fun c5 => ?_)
      · have h := if_f c5 h
        refine lv_iload_n hx hb dX9_together_28 rfl (lv_at hl 1 rfl) ?_
        refine lv_iload_n hx hb dX9_together_29 rfl (lv_at hl 2 rfl) ?_
        refine lv_iconst (v := 1) hx hb dX9_together_30 (by decide) ?_
        obtain ⟨r6, hu, h⟩ := bnd_h h
        refine kc_l (kS hC (c_X9_cutsInTheMean l dC dI cc x1 x2 1 H.size r6 hu) cs_X9_232 kw724 rfl rfl ⟨(Nat.le_of_ble_eq_true rfl), (Nat.le_of_ble_eq_true rfl)⟩ hP [] rfl rfl (As := [.int x1, .int x2, .int 1]) (rest := []) rfl rfl hl.1 (Nat.le_of_ble_eq_true rfl) dX9_together_31 ⟨Nat.zero_le _, Nat.zero_le _⟩) hP hA [] rfl rfl (fun H locs hP => ?_)
        have hP : PD (dC, dI) A s.heap [(q0, .inr (9, [.ref q1, .ref q3, .ref q11, .ref q13, .ref q16, .ref q17, .ref q21, .ref q23, .ref q25, .ref q30]))] H locs := hP
        refine lv_iload_n hx hb dX9_together_34 rfl (lv_at hl 1 rfl) ?_
        refine lv_iload_n hx hb dX9_together_35 rfl (lv_at hl 2 rfl) ?_
        refine lv_iconst (v := 0) hx hb dX9_together_36 (by decide) ?_
        obtain ⟨r7, hu, h⟩ := bnd_h h
        refine kc_l (kS hC (c_X9_cutsInTheMean l dC dI cc x1 x2 0 H.size r7 hu) cs_X9_232 kw724 rfl rfl ⟨(Nat.le_of_ble_eq_true rfl), (Nat.le_of_ble_eq_true rfl)⟩ hP [] rfl rfl (As := [.int x1, .int x2, .int 0]) (rest := [.long r6]) rfl rfl hl.1 (Nat.le_of_ble_eq_true rfl) dX9_together_37 ⟨Nat.zero_le _, Nat.zero_le _⟩) hP hA [] rfl rfl (fun H locs hP => ?_)
        have hP : PD (dC, dI) A s.heap [(q0, .inr (9, [.ref q1, .ref q3, .ref q11, .ref q13, .ref q16, .ref q17, .ref q21, .ref q23, .ref q25, .ref q30]))] H locs := hP
        refine lv_lsub hx hb dX9_together_40 ?_
        refine lv_lstore_n (lv' := [(3, .long (r6 - r7)), (0, .ref q0), (1, .int x1), (2, .int x2)]) hx hb dX9_together_41 rfl hl (by decide) rfl (fun ls hl => ?_)
        refine lv_lconst (v := 1) hx hb dX9_together_42 (by decide) ?_
        refine lv_bipush (v := 100) hx hb dX9_together_43 (by decide) ?_
        refine lv_iconst (v := 2) hx hb dX9_together_45 (by decide) ?_
        refine lv_iload_n hx hb dX9_together_46 rfl (lv_at hl 2 rfl) ?_
        refine lv_imul hx hb dX9_together_47 ?_
        refine lv_iconst (v := 1) hx hb dX9_together_48 (by decide) ?_
        refine lv_isub hx hb dX9_together_49 ?_
        obtain ⟨r8, hu, h⟩ := bnd_h h
        refine kc_l (kS hC (c_X9_power l dC dI cc 100 ((2 * x1) - 1) H.size r8 hu) cs_X9_227 kw716 rfl rfl ⟨(Nat.le_of_ble_eq_true rfl), (Nat.le_of_ble_eq_true rfl)⟩ hP [] rfl rfl (As := [.int 100, .int ((2 * x1) - 1)]) (rest := [.long 1]) rfl rfl hl.1 (Nat.le_of_ble_eq_true rfl) dX9_together_50 ⟨Nat.zero_le _, Nat.zero_le _⟩) hP hA [] rfl rfl (fun H locs hP => ?_)
        have hP : PD (dC, dI) A s.heap [(q0, .inr (9, [.ref q1, .ref q3, .ref q11, .ref q13, .ref q16, .ref q17, .ref q21, .ref q23, .ref q25, .ref q30]))] H locs := hP
        refine g_maxL hC hl.1 ml_X9_236 (Nat.le_of_ble_eq_true rfl) (Nat.le_of_ble_eq_true rfl) (Nat.zero_le _) (Nat.zero_le _) dX9_together_53 ?_
        refine lv_topl (fun v9 ev => ?_)
        have h := nm_h ev h
        refine lv_lstore (lv' := [(5, .long v9), (3, .long (r6 - r7)), (0, .ref q0), (1, .int x1), (2, .int x2)]) hx hb dX9_together_56 hl (by decide) rfl (fun ls hl => ?_)
        refine lv_ldc2 (v := 10000) hx hb hC.2.2.1 (hC.2.2.2.1 _ kw729) dX9_together_58 ?_
        refine lv_lload_n hx hb dX9_together_61 rfl (lv_at hl 1 rfl) ?_
        refine lv_lmul hx hb dX9_together_62 ?_
        refine lv_lload hx hb dX9_together_63 (lv_at hl 0 rfl) ?_
        obtain ⟨hne, h⟩ := dvL_h h
        refine lv_ldiv hx hb dX9_together_65 hne ?_
        refine lv_topl (fun v10 ev => ?_)
        have h := h v10 ev
        refine lv_l2i hx hb dX9_together_66 rfl ?_
        refine lv_ldc (v := 100000) hx hb hC.2.2.1 (hC.2.2.2.1 _ kw721) dX9_together_67 ?_
        refine lv_iadd hx hb dX9_together_69 ?_
        exact ret_i hC hr hlk hP dX9_together_70 () (⟨Option.some.inj h, rfl⟩) rfl
      · have h := if_t c5 h
        refine lv_ldc (v := 100000) hx hb hC.2.2.1 (hC.2.2.2.1 _ kw721) dX9_together_25 ?_
        exact ret_i hC hr hlk hP dX9_together_27 () (⟨Option.some.inj h, rfl⟩) rfl
    · have h := if_t c4 h
      refine lv_iconst (v := -1) hx hb dX9_together_19 (by decide) ?_
      exact ret_i hC hr hlk hP dX9_together_20 () (⟨Option.some.inj h, rfl⟩) rfl
set_option maxHeartbeats 8000000 in
set_option maxRecDepth 100000 in
theorem c_X9_year (l : Launch) (dC : Nat → ClassId) (dI : Nat → Nat → Nat) (cc : Nat → ClassId) (q0 q1 q3 q11 q13 q16 q17 q21 q23 q25 q30 q12 q31 q32 : Nat) (shelf_clogs : Int32) (shelf_day : Int32) (shelf_cells : (Nat → Int32)) (draws_wentAsPairs : Int32) (draws_shelf_clogs : Int32) (draws_shelf_day : Int32) (draws_shelf_cells : (Nat → Int32)) (x1 : Int32) (x2 : Int32) (x3 : Int32) (sz : Nat) (ret : Int32) (o_draws_shelf_cells : (Nat → Int32)) (o_draws_shelf_clogs : Int32) (o_draws_shelf_day : Int32) (o_draws_wentAsPairs : Int32) (hu : f_X9_year x1 x2 x3 shelf_clogs shelf_day shelf_cells draws_wentAsPairs draws_shelf_clogs draws_shelf_day draws_shelf_cells = some (ret, o_draws_shelf_cells, o_draws_shelf_clogs, o_draws_shelf_day, o_draws_wentAsPairs)) : Met l yX9_year (mw yX9_year cX9_year 4 (some .int)) ({ frames := 6, cells := 0, slots := 0, locals := 139 } : Room) (va_Pc [.ref q0, .int x1, .int x2, .int x3] (mP (dC, dI) (ts cc) sz [(q0, .inr (9, [.ref q1, .ref q3, .ref q11, .ref q13, .ref q16, .ref q17, .ref q21, .ref q23, .ref q25, .ref q30])), (q11, .inr (4, [.ref q12, .int shelf_clogs, .int shelf_day])), (q12, .inl (cc 0, 50, .inl shelf_cells)), (q30, .inr (8, [.ref q31, .int draws_wentAsPairs])), (q31, .inr (4, [.ref q32, .int draws_shelf_clogs, .int draws_shelf_day])), (q32, .inl (cc 0, 50, .inl draws_shelf_cells))])) ((fun A => va_Qi (fun (r : Int32) (w : (Nat → Int32) × Int32 × Int32 × Int32) => r = ret ∧ w = (o_draws_shelf_cells, o_draws_shelf_clogs, o_draws_shelf_day, o_draws_wentAsPairs)) (fun (w : (Nat → Int32) × Int32 × Int32 × Int32) t => va_P (dC, dI) classes [(q0, .inr (9, [.ref q1, .ref q3, .ref q11, .ref q13, .ref q16, .ref q17, .ref q21, .ref q23, .ref q25, .ref q30])), (q11, .inr (4, [.ref q12, .int shelf_clogs, .int shelf_day])), (q12, .inl (cc 0, 50, .inl shelf_cells)), (q30, .inr (8, [.ref q31, .int w.2.2.2])), (q31, .inr (4, [.ref q32, .int w.2.1, .int w.2.2.1])), (q32, .inl (cc 0, 50, .inl w.1))] t.heap) A) (va_A [(q0, .inr (9, [.ref q1, .ref q3, .ref q11, .ref q13, .ref q16, .ref q17, .ref q21, .ref q23, .ref q25, .ref q30])), (q11, .inr (4, [.ref q12, .int shelf_clogs, .int shelf_day])), (q12, .inl (cc 0, 50, .inl shelf_cells)), (q30, .inr (8, [.ref q31, .int draws_wentAsPairs])), (q31, .inr (4, [.ref q32, .int draws_shelf_clogs, .int draws_shelf_day])), (q32, .inl (cc 0, 50, .inl draws_shelf_cells))] sz)) 0 0 (va_A [(q0, .inr (9, [.ref q1, .ref q3, .ref q11, .ref q13, .ref q16, .ref q17, .ref q21, .ref q23, .ref q25, .ref q30])), (q11, .inr (4, [.ref q12, .int shelf_clogs, .int shelf_day])), (q12, .inl (cc 0, 50, .inl shelf_cells)), (q30, .inr (8, [.ref q31, .int draws_wentAsPairs])), (q31, .inr (4, [.ref q32, .int draws_shelf_clogs, .int draws_shelf_day])), (q32, .inl (cc 0, 50, .inl draws_shelf_cells))] sz) := by
  refine met_go (Qc := fun A => va_Qi (fun (r : Int32) (w : (Nat → Int32) × Int32 × Int32 × Int32) => r = ret ∧ w = (o_draws_shelf_cells, o_draws_shelf_clogs, o_draws_shelf_day, o_draws_wentAsPairs)) (fun (w : (Nat → Int32) × Int32 × Int32 × Int32) t => va_P (dC, dI) classes [(q0, .inr (9, [.ref q1, .ref q3, .ref q11, .ref q13, .ref q16, .ref q17, .ref q21, .ref q23, .ref q25, .ref q30])), (q11, .inr (4, [.ref q12, .int shelf_clogs, .int shelf_day])), (q12, .inl (cc 0, 50, .inl shelf_cells)), (q30, .inr (8, [.ref q31, .int w.2.2.2])), (q31, .inr (4, [.ref q32, .int w.2.1, .int w.2.2.1])), (q32, .inl (cc 0, 50, .inl w.1))] t.heap) A) (by decide) (Nat.le_of_ble_eq_true rfl) ?_
  intro p e s m below meth c A ls H locs hC hr hlk hin hA hP hl _
  have hC : CX p m c cX9_year 4 s ([.ref q0, .int x1, .int x2, .int x3] : List Value).toArray RX9 (dC, dI) (ts cc) := hC
  have hx := hC.1.1
  have hb := hC.1.2
  have h := hu
  have hu0 := hu
  unfold f_X9_year at h
  have hl : lv_has ls 4 [(0, .ref q0), (1, .int x1), (2, .int x2), (3, .int x3)] := hl
  refine lv_iload_n hx hb dX9_year_0 rfl (lv_at hl 1 rfl) ?_
  refine lv_iconst (v := 0) hx hb dX9_year_1 (by decide) ?_
  refine lv_sipush (v := 9999) hx hb dX9_year_2 (by decide) ?_
  obtain ⟨r1, hu, h⟩ := bnd_h h
  refine kc_z (kS hC (c_X9_within l dC dI cc x1 0 9999 H.size r1 hu) cs_X9_99 kw338 rfl rfl ⟨(Nat.le_of_ble_eq_true rfl), (Nat.le_of_ble_eq_true rfl)⟩ hP [] rfl rfl (As := [.int x1, .int 0, .int 9999]) (rest := []) rfl rfl hl.1 (Nat.le_of_ble_eq_true rfl) dX9_year_5 ⟨Nat.zero_le _, Nat.zero_le _⟩) hP hA [] rfl rfl (fun hz_r1 H locs hP => ?_)
  have hP : PD (dC, dI) A s.heap [(q0, .inr (9, [.ref q1, .ref q3, .ref q11, .ref q13, .ref q16, .ref q17, .ref q21, .ref q23, .ref q25, .ref q30])), (q11, .inr (4, [.ref q12, .int shelf_clogs, .int shelf_day])), (q12, .inl (cc 0, 50, .inl shelf_cells)), (q30, .inr (8, [.ref q31, .int draws_wentAsPairs])), (q31, .inr (4, [.ref q32, .int draws_shelf_clogs, .int draws_shelf_day])), (q32, .inl (cc 0, 50, .inl draws_shelf_cells))] H locs := hP
  refine lv_if_eq (tgt := 30) hx hb dX9_year_8 (by decide) (fun c2 => ?_) (fun c2 => ?_)
  · have h := if_t c2 h
    refine lv_iconst (v := -1) hx hb dX9_year_30 (by decide) ?_
    exact ret_i hC hr hlk hP dX9_year_31 (draws_shelf_cells, draws_shelf_clogs, draws_shelf_day, draws_wentAsPairs) (Prod.mk.inj (Option.some.inj h)) rfl
  · have h := if_f c2 h
    refine lv_iload_n hx hb dX9_year_11 rfl (lv_at hl 2 rfl) ?_
    refine lv_iconst (v := 1) hx hb dX9_year_12 (by decide) ?_
    refine lv_bipush (v := 60) hx hb dX9_year_13 (by decide) ?_
    obtain ⟨r3, hu, h⟩ := bnd_h h
    refine kc_z (kS hC (c_X9_within l dC dI cc x2 1 60 H.size r3 hu) cs_X9_99 kw338 rfl rfl ⟨(Nat.le_of_ble_eq_true rfl), (Nat.le_of_ble_eq_true rfl)⟩ hP [] rfl rfl (As := [.int x2, .int 1, .int 60]) (rest := []) rfl rfl hl.1 (Nat.le_of_ble_eq_true rfl) dX9_year_15 ⟨Nat.zero_le _, Nat.zero_le _⟩) hP hA [] rfl rfl (fun hz_r3 H locs hP => ?_)
    have hP : PD (dC, dI) A s.heap [(q0, .inr (9, [.ref q1, .ref q3, .ref q11, .ref q13, .ref q16, .ref q17, .ref q21, .ref q23, .ref q25, .ref q30])), (q11, .inr (4, [.ref q12, .int shelf_clogs, .int shelf_day])), (q12, .inl (cc 0, 50, .inl shelf_cells)), (q30, .inr (8, [.ref q31, .int draws_wentAsPairs])), (q31, .inr (4, [.ref q32, .int draws_shelf_clogs, .int draws_shelf_day])), (q32, .inl (cc 0, 50, .inl draws_shelf_cells))] H locs := hP
    refine lv_if_eq (tgt := 30) hx hb dX9_year_18 (by decide) (fun c4 => ?_) (fun c4 => ?_)
    · have h := if_t c4 h
      refine lv_iconst (v := -1) hx hb dX9_year_30 (by decide) ?_
      exact ret_i hC hr hlk hP dX9_year_31 (draws_shelf_cells, draws_shelf_clogs, draws_shelf_day, draws_wentAsPairs) (Prod.mk.inj (Option.some.inj h)) rfl
    · have h := if_f c4 h
      refine lv_iload_n hx hb dX9_year_21 rfl (lv_at hl 3 rfl) ?_
      refine lv_iconst (v := 0) hx hb dX9_year_22 (by decide) ?_
      refine lv_iconst (v := 1) hx hb dX9_year_23 (by decide) ?_
      obtain ⟨r5, hu, h⟩ := bnd_h h
      refine kc_z (kS hC (c_X9_within l dC dI cc x3 0 1 H.size r5 hu) cs_X9_99 kw338 rfl rfl ⟨(Nat.le_of_ble_eq_true rfl), (Nat.le_of_ble_eq_true rfl)⟩ hP [] rfl rfl (As := [.int x3, .int 0, .int 1]) (rest := []) rfl rfl hl.1 (Nat.le_of_ble_eq_true rfl) dX9_year_24 ⟨Nat.zero_le _, Nat.zero_le _⟩) hP hA [] rfl rfl (fun hz_r5 H locs hP => ?_)
      have hP : PD (dC, dI) A s.heap [(q0, .inr (9, [.ref q1, .ref q3, .ref q11, .ref q13, .ref q16, .ref q17, .ref q21, .ref q23, .ref q25, .ref q30])), (q11, .inr (4, [.ref q12, .int shelf_clogs, .int shelf_day])), (q12, .inl (cc 0, 50, .inl shelf_cells)), (q30, .inr (8, [.ref q31, .int draws_wentAsPairs])), (q31, .inr (4, [.ref q32, .int draws_shelf_clogs, .int draws_shelf_day])), (q32, .inl (cc 0, 50, .inl draws_shelf_cells))] H locs := hP
      refine lv_if_ne (tgt := 32) hx hb dX9_year_27 (by decide) (fun c6 => ?_) (fun c6 => ?_)
      · have h := if_f c6 h
        refine lv_aload_n hx hb dX9_year_32 rfl (lv_at hl 0 rfl) ?_
        refine g_get hC hP fg_X9_73 0 rfl rfl dX9_year_33 ?_
        refine lv_aload_n hx hb dX9_year_36 rfl (lv_at hl 0 rfl) ?_
        refine g_get hC hP fg_X9_26 0 rfl rfl dX9_year_37 ?_
        refine lv_iload_n hx hb dX9_year_40 rfl (lv_at hl 1 rfl) ?_
        refine lv_iload_n hx hb dX9_year_41 rfl (lv_at hl 2 rfl) ?_
        obtain ⟨⟨w7, w8, w9, w10⟩, hu, h⟩ := bnd_h h
        refine kc_v (kV hC (c_X8_live l dC dI cc q30 q31 q32 q11 q12 draws_wentAsPairs draws_shelf_clogs draws_shelf_day draws_shelf_cells shelf_clogs shelf_day shelf_cells x1 x2 H.size w7 w8 w9 w10 hu) cv_X9_241 kw737 rfl rfl ⟨(Nat.le_of_ble_eq_true rfl), (Nat.le_of_ble_eq_true rfl)⟩ hP [3, 4, 5, 1, 2] rfl rfl rfl (q0 := 3) rfl (As := [.ref q11, .int x1, .int x2]) (rest := []) rfl rfl hl.1 (Nat.le_of_ble_eq_true rfl) dX9_year_42 ⟨Nat.zero_le _, Nat.zero_le _⟩) hP hA [3, 4, 5, 1, 2] rfl rfl (fun H locs hP => ?_)
        have hP : PD (dC, dI) A s.heap [(q0, .inr (9, [.ref q1, .ref q3, .ref q11, .ref q13, .ref q16, .ref q17, .ref q21, .ref q23, .ref q25, .ref q30])), (q11, .inr (4, [.ref q12, .int shelf_clogs, .int shelf_day])), (q12, .inl (cc 0, 50, .inl shelf_cells)), (q30, .inr (8, [.ref q31, .int w10])), (q31, .inr (4, [.ref q32, .int w8, .int w9])), (q32, .inl (cc 0, 50, .inl w7))] H locs := hP
        refine lv_iload_n hx hb dX9_year_45 rfl (lv_at hl 3 rfl) ?_
        refine lv_if_ne (tgt := 59) hx hb dX9_year_46 (by decide) (fun c11 => ?_) (fun c11 => ?_)
        · have h := if_f c11 h
          refine lv_aload_n hx hb dX9_year_59 rfl (lv_at hl 0 rfl) ?_
          refine g_get hC hP fg_X9_73 0 rfl rfl dX9_year_60 ?_
          refine g_get hC hP fg_X9_248 3 rfl rfl dX9_year_63 ?_
          refine g_get hC hP fg_X9_110 4 rfl rfl dX9_year_66 ?_
          exact ret_i hC hr hlk hP dX9_year_69 (w7, w8, w9, w10) (Prod.mk.inj (Option.some.inj h)) rfl
        · have h := if_t c11 h
          refine lv_aload_n hx hb dX9_year_49 rfl (lv_at hl 0 rfl) ?_
          refine g_get hC hP fg_X9_73 0 rfl rfl dX9_year_50 ?_
          refine g_get hC hP fg_X9_245 3 rfl rfl dX9_year_53 ?_
          refine lv_goto (tgt := 69) hx hb dX9_year_56 (by decide) ?_
          exact ret_i hC hr hlk hP dX9_year_69 (w7, w8, w9, w10) (Prod.mk.inj (Option.some.inj h)) rfl
      · have h := if_t c6 h
        refine lv_iconst (v := -1) hx hb dX9_year_30 (by decide) ?_
        exact ret_i hC hr hlk hP dX9_year_31 (draws_shelf_cells, draws_shelf_clogs, draws_shelf_day, draws_wentAsPairs) (Prod.mk.inj (Option.some.inj h)) rfl
set_option maxHeartbeats 8000000 in
set_option maxRecDepth 100000 in
theorem c_X9_count (l : Launch) (dC : Nat → ClassId) (dI : Nat → Nat → Nat) (cc : Nat → ClassId) (q0 q1 q3 q11 q13 q16 q17 q21 q23 q25 q30 q2 q12 q14 q15 q18 q19 q20 q22 q24 : Nat) (text_length : Int32) (shelf_clogs : Int32) (shelf_day : Int32) (shelf_cells : (Nat → Int32)) (waiting_number : Int32) (waiting_stocking : Int32) (log_length : Int32) (log_block : Int32) (log_knots : Int64) (walls_sounds : Int32) (acts_height : Int32) (kept_height : Int32) (x1 : Int32) (sz : Nat) (ret : Int32) (hu : f_X9_count x1 text_length shelf_clogs shelf_day shelf_cells waiting_number waiting_stocking log_length log_knots walls_sounds acts_height kept_height = some ret) : Met l yX9_count (mw yX9_count cX9_count 2 (some .int)) ({ frames := 2, cells := 0, slots := 0, locals := 45 } : Room) (va_Pc [.ref q0, .int x1] (mP (dC, dI) (ts cc) sz [(q0, .inr (9, [.ref q1, .ref q3, .ref q11, .ref q13, .ref q16, .ref q17, .ref q21, .ref q23, .ref q25, .ref q30])), (q1, .inr (5, [.ref q2, .int text_length])), (q11, .inr (4, [.ref q12, .int shelf_clogs, .int shelf_day])), (q12, .inl (cc 0, 50, .inl shelf_cells)), (q13, .inr (6, [.ref q14, .ref q15, .int waiting_number, .int waiting_stocking])), (q16, .inr (0, [.int log_length, .int log_block, .long log_knots])), (q17, .inr (7, [.ref q18, .ref q19, .ref q20, .int walls_sounds])), (q21, .inr (2, [.ref q22, .int acts_height])), (q23, .inr (2, [.ref q24, .int kept_height]))])) ((fun A => va_Qi (fun (r : Int32) (w : Unit) => r = ret ∧ w = ()) (fun (w : Unit) t => va_P (dC, dI) classes [(q0, .inr (9, [.ref q1, .ref q3, .ref q11, .ref q13, .ref q16, .ref q17, .ref q21, .ref q23, .ref q25, .ref q30])), (q1, .inr (5, [.ref q2, .int text_length])), (q11, .inr (4, [.ref q12, .int shelf_clogs, .int shelf_day])), (q12, .inl (cc 0, 50, .inl shelf_cells)), (q13, .inr (6, [.ref q14, .ref q15, .int waiting_number, .int waiting_stocking])), (q16, .inr (0, [.int log_length, .int log_block, .long log_knots])), (q17, .inr (7, [.ref q18, .ref q19, .ref q20, .int walls_sounds])), (q21, .inr (2, [.ref q22, .int acts_height])), (q23, .inr (2, [.ref q24, .int kept_height]))] t.heap) A) (va_A [(q0, .inr (9, [.ref q1, .ref q3, .ref q11, .ref q13, .ref q16, .ref q17, .ref q21, .ref q23, .ref q25, .ref q30])), (q1, .inr (5, [.ref q2, .int text_length])), (q11, .inr (4, [.ref q12, .int shelf_clogs, .int shelf_day])), (q12, .inl (cc 0, 50, .inl shelf_cells)), (q13, .inr (6, [.ref q14, .ref q15, .int waiting_number, .int waiting_stocking])), (q16, .inr (0, [.int log_length, .int log_block, .long log_knots])), (q17, .inr (7, [.ref q18, .ref q19, .ref q20, .int walls_sounds])), (q21, .inr (2, [.ref q22, .int acts_height])), (q23, .inr (2, [.ref q24, .int kept_height]))] sz)) 0 0 (va_A [(q0, .inr (9, [.ref q1, .ref q3, .ref q11, .ref q13, .ref q16, .ref q17, .ref q21, .ref q23, .ref q25, .ref q30])), (q1, .inr (5, [.ref q2, .int text_length])), (q11, .inr (4, [.ref q12, .int shelf_clogs, .int shelf_day])), (q12, .inl (cc 0, 50, .inl shelf_cells)), (q13, .inr (6, [.ref q14, .ref q15, .int waiting_number, .int waiting_stocking])), (q16, .inr (0, [.int log_length, .int log_block, .long log_knots])), (q17, .inr (7, [.ref q18, .ref q19, .ref q20, .int walls_sounds])), (q21, .inr (2, [.ref q22, .int acts_height])), (q23, .inr (2, [.ref q24, .int kept_height]))] sz) := by
  refine met_go (Qc := fun A => va_Qi (fun (r : Int32) (w : Unit) => r = ret ∧ w = ()) (fun (w : Unit) t => va_P (dC, dI) classes [(q0, .inr (9, [.ref q1, .ref q3, .ref q11, .ref q13, .ref q16, .ref q17, .ref q21, .ref q23, .ref q25, .ref q30])), (q1, .inr (5, [.ref q2, .int text_length])), (q11, .inr (4, [.ref q12, .int shelf_clogs, .int shelf_day])), (q12, .inl (cc 0, 50, .inl shelf_cells)), (q13, .inr (6, [.ref q14, .ref q15, .int waiting_number, .int waiting_stocking])), (q16, .inr (0, [.int log_length, .int log_block, .long log_knots])), (q17, .inr (7, [.ref q18, .ref q19, .ref q20, .int walls_sounds])), (q21, .inr (2, [.ref q22, .int acts_height])), (q23, .inr (2, [.ref q24, .int kept_height]))] t.heap) A) (by decide) (Nat.le_of_ble_eq_true rfl) ?_
  intro p e s m below meth c A ls H locs hC hr hlk hin hA hP hl _
  have hC : CX p m c cX9_count 2 s ([.ref q0, .int x1] : List Value).toArray RX9 (dC, dI) (ts cc) := hC
  have hx := hC.1.1
  have hb := hC.1.2
  have h := hu
  have hu0 := hu
  unfold f_X9_count at h
  have hl : lv_has ls 2 [(0, .ref q0), (1, .int x1)] := hl
  refine lv_iload_n hx hb dX9_count_0 rfl (lv_at hl 1 rfl) ?_
  by_cases c1 : x1 = 0
  · have h := if_t c1 h
    refine lv_tableIn (tgt := 56) hx hb dX9_count_1 (by rw [c1]; decide) (by rw [c1]; decide) (by first | (rw [c1]; done) | (rw [c1]; rfl)) (by decide) ?_
    refine lv_aload_n hx hb dX9_count_56 rfl (lv_at hl 0 rfl) ?_
    refine g_get hC hP fg_X9_26 0 rfl rfl dX9_count_57 ?_
    refine g_get hC hP fg_X9_110 2 rfl rfl dX9_count_60 ?_
    exact ret_i hC hr hlk hP dX9_count_63 () (⟨Option.some.inj h, rfl⟩) rfl
  · have h := if_f c1 h
    by_cases c2 : x1 = 1
    · have h := if_t c2 h
      refine lv_tableIn (tgt := 64) hx hb dX9_count_1 (by rw [c2]; decide) (by rw [c2]; decide) (by first | (rw [c2]; done) | (rw [c2]; rfl)) (by decide) ?_
      refine lv_aload_n hx hb dX9_count_64 rfl (lv_at hl 0 rfl) ?_
      refine g_get hC hP fg_X9_33 0 rfl rfl dX9_count_65 ?_
      refine g_get hC hP fg_X9_130 4 rfl rfl dX9_count_68 ?_
      exact ret_i hC hr hlk hP dX9_count_71 () (⟨Option.some.inj h, rfl⟩) rfl
    · have h := if_f c2 h
      by_cases c3 : x1 = 2
      · have h := if_t c3 h
        refine lv_tableIn (tgt := 72) hx hb dX9_count_1 (by rw [c3]; decide) (by rw [c3]; decide) (by first | (rw [c3]; done) | (rw [c3]; rfl)) (by decide) ?_
        refine lv_aload_n hx hb dX9_count_72 rfl (lv_at hl 0 rfl) ?_
        refine g_get hC hP fg_X9_26 0 rfl rfl dX9_count_73 ?_
        refine g_get hC hP fg_X9_117 2 rfl rfl dX9_count_76 ?_
        exact ret_i hC hr hlk hP dX9_count_79 () (⟨Option.some.inj h, rfl⟩) rfl
      · have h := if_f c3 h
        by_cases c4 : x1 = 3
        · have h := if_t c4 h
          refine lv_tableIn (tgt := 80) hx hb dX9_count_1 (by rw [c4]; decide) (by rw [c4]; decide) (by first | (rw [c4]; done) | (rw [c4]; rfl)) (by decide) ?_
          refine lv_aload_n hx hb dX9_count_80 rfl (lv_at hl 0 rfl) ?_
          refine g_get hC hP fg_X9_40 0 rfl rfl dX9_count_81 ?_
          obtain ⟨r5, hu, h⟩ := bnd_h h
          refine kc_i (kV hC (c_X0_knotsInside l dC dI cc q16 log_length log_block log_knots H.size r5 hu) cv_X9_253 kw769 rfl rfl ⟨(Nat.le_of_ble_eq_true rfl), (Nat.le_of_ble_eq_true rfl)⟩ hP [5] rfl rfl rfl (q0 := 5) rfl (As := []) (rest := []) rfl rfl hl.1 (Nat.le_of_ble_eq_true rfl) dX9_count_84 ⟨Nat.zero_le _, Nat.zero_le _⟩) hP hA [5] rfl rfl (fun H locs hP => ?_)
          have hP : PD (dC, dI) A s.heap [(q0, .inr (9, [.ref q1, .ref q3, .ref q11, .ref q13, .ref q16, .ref q17, .ref q21, .ref q23, .ref q25, .ref q30])), (q1, .inr (5, [.ref q2, .int text_length])), (q11, .inr (4, [.ref q12, .int shelf_clogs, .int shelf_day])), (q12, .inl (cc 0, 50, .inl shelf_cells)), (q13, .inr (6, [.ref q14, .ref q15, .int waiting_number, .int waiting_stocking])), (q16, .inr (0, [.int log_length, .int log_block, .long log_knots])), (q17, .inr (7, [.ref q18, .ref q19, .ref q20, .int walls_sounds])), (q21, .inr (2, [.ref q22, .int acts_height])), (q23, .inr (2, [.ref q24, .int kept_height]))] H locs := hP
          exact ret_i hC hr hlk hP dX9_count_87 () (⟨Option.some.inj h, rfl⟩) rfl
        · have h := if_f c4 h
          by_cases c6 : x1 = 4
          · have h := if_t c6 h
            refine lv_tableIn (tgt := 88) hx hb dX9_count_1 (by rw [c6]; decide) (by rw [c6]; decide) (by first | (rw [c6]; done) | (rw [c6]; rfl)) (by decide) ?_
            refine lv_aload_n hx hb dX9_count_88 rfl (lv_at hl 0 rfl) ?_
            refine g_get hC hP fg_X9_26 0 rfl rfl dX9_count_89 ?_
            obtain ⟨r7, hu, h⟩ := bnd_h h
            refine kc_i (kV hC (c_X4_holedOnes l dC dI cc q11 q12 shelf_clogs shelf_day shelf_cells H.size r7 hu) cv_X9_256 kw779 rfl rfl ⟨(Nat.le_of_ble_eq_true rfl), (Nat.le_of_ble_eq_true rfl)⟩ hP [2, 3] rfl rfl rfl (q0 := 2) rfl (As := []) (rest := []) rfl rfl hl.1 (Nat.le_of_ble_eq_true rfl) dX9_count_92 ⟨Nat.zero_le _, Nat.zero_le _⟩) hP hA [2, 3] rfl rfl (fun H locs hP => ?_)
            have hP : PD (dC, dI) A s.heap [(q0, .inr (9, [.ref q1, .ref q3, .ref q11, .ref q13, .ref q16, .ref q17, .ref q21, .ref q23, .ref q25, .ref q30])), (q1, .inr (5, [.ref q2, .int text_length])), (q11, .inr (4, [.ref q12, .int shelf_clogs, .int shelf_day])), (q12, .inl (cc 0, 50, .inl shelf_cells)), (q13, .inr (6, [.ref q14, .ref q15, .int waiting_number, .int waiting_stocking])), (q16, .inr (0, [.int log_length, .int log_block, .long log_knots])), (q17, .inr (7, [.ref q18, .ref q19, .ref q20, .int walls_sounds])), (q21, .inr (2, [.ref q22, .int acts_height])), (q23, .inr (2, [.ref q24, .int kept_height]))] H locs := hP
            exact ret_i hC hr hlk hP dX9_count_95 () (⟨Option.some.inj h, rfl⟩) rfl
          · have h := if_f c6 h
            by_cases c8 : x1 = 5
            · have h := if_t c8 h
              refine lv_tableIn (tgt := 96) hx hb dX9_count_1 (by rw [c8]; decide) (by rw [c8]; decide) (by first | (rw [c8]; done) | (rw [c8]; rfl)) (by decide) ?_
              refine lv_aload_n hx hb dX9_count_96 rfl (lv_at hl 0 rfl) ?_
              refine g_get hC hP fg_X9_47 0 rfl rfl dX9_count_97 ?_
              refine g_get hC hP fg_X9_210 6 rfl rfl dX9_count_100 ?_
              exact ret_i hC hr hlk hP dX9_count_103 () (⟨Option.some.inj h, rfl⟩) rfl
            · have h := if_f c8 h
              by_cases c9 : x1 = 6
              · have h := if_t c9 h
                refine lv_tableIn (tgt := 104) hx hb dX9_count_1 (by rw [c9]; decide) (by rw [c9]; decide) (by first | (rw [c9]; done) | (rw [c9]; rfl)) (by decide) ?_
                refine lv_aload_n hx hb dX9_count_104 rfl (lv_at hl 0 rfl) ?_
                refine g_get hC hP fg_X9_56 0 rfl rfl dX9_count_105 ?_
                refine g_get hC hP fg_X9_165 7 rfl rfl dX9_count_108 ?_
                exact ret_i hC hr hlk hP dX9_count_111 () (⟨Option.some.inj h, rfl⟩) rfl
              · have h := if_f c9 h
                by_cases c10 : x1 = 7
                · have h := if_t c10 h
                  refine lv_tableIn (tgt := 112) hx hb dX9_count_1 (by rw [c10]; decide) (by rw [c10]; decide) (by first | (rw [c10]; done) | (rw [c10]; rfl)) (by decide) ?_
                  refine lv_aload_n hx hb dX9_count_112 rfl (lv_at hl 0 rfl) ?_
                  refine g_get hC hP fg_X9_60 0 rfl rfl dX9_count_113 ?_
                  refine g_get hC hP fg_X9_165 8 rfl rfl dX9_count_116 ?_
                  exact ret_i hC hr hlk hP dX9_count_119 () (⟨Option.some.inj h, rfl⟩) rfl
                · have h := if_f c10 h
                  by_cases c11 : x1 = 8
                  · have h := if_t c11 h
                    refine lv_tableIn (tgt := 120) hx hb dX9_count_1 (by rw [c11]; decide) (by rw [c11]; decide) (by first | (rw [c11]; done) | (rw [c11]; rfl)) (by decide) ?_
                    refine lv_aload_n hx hb dX9_count_120 rfl (lv_at hl 0 rfl) ?_
                    refine g_get hC hP fg_X9_10 0 rfl rfl dX9_count_121 ?_
                    refine g_get hC hP fg_X9_103 1 rfl rfl dX9_count_124 ?_
                    exact ret_i hC hr hlk hP dX9_count_127 () (⟨Option.some.inj h, rfl⟩) rfl
                  · have h := if_f c11 h
                    by_cases c12 : x1 = 9
                    · have h := if_t c12 h
                      refine lv_tableIn (tgt := 128) hx hb dX9_count_1 (by rw [c12]; decide) (by rw [c12]; decide) (by first | (rw [c12]; done) | (rw [c12]; rfl)) (by decide) ?_
                      refine lv_aload_n hx hb dX9_count_128 rfl (lv_at hl 0 rfl) ?_
                      refine g_get hC hP fg_X9_33 0 rfl rfl dX9_count_129 ?_
                      refine g_get hC hP fg_X9_259 4 rfl rfl dX9_count_132 ?_
                      exact ret_i hC hr hlk hP dX9_count_135 () (⟨Option.some.inj h, rfl⟩) rfl
                    · have h := if_f c12 h
                      refine lv_tableOut (tgt := 136) hx hb dX9_count_1 (sw_out_X9_count_1 c1 c2 c3 c4 c6 c8 c9 c10 c11 c12) (by decide) ?_
                      refine lv_iconst (v := -1) hx hb dX9_count_136 (by decide) ?_
                      exact ret_i hC hr hlk hP dX9_count_137 () (⟨Option.some.inj h, rfl⟩) rfl
