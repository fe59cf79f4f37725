theorem kw391 : Cond.methodLink RX9 252 yX2_clear ∈ Tg := mem_Tg (List.mem_append_right _ (List.mem_of_getElem? (i := 391) (by decide +kernel))) (by decide +kernel)
theorem kw392 : Cond.instanceMethod yX2_clear ∈ Tg := mem_Tg (List.mem_append_right _ (List.mem_of_getElem? (i := 392) (by decide +kernel))) (by decide +kernel)
theorem kw393 : Cond.selects RX2 yX2_clear yX2_clear ∈ Tg := mem_Tg (List.mem_append_right _ (List.mem_of_getElem? (i := 393) (by decide +kernel))) (by decide +kernel)
theorem dX9_back_0 : decode cX9_back 0 = .ok (.aload_n 0, 1) := by decide +kernel
theorem dX9_back_1 : decode cX9_back 1 = .ok (.getfield 60, 3) := by decide +kernel
theorem dX9_back_4 : decode cX9_back 4 = .ok (.aload_n 0, 1) := by decide +kernel
theorem dX9_back_5 : decode cX9_back 5 = .ok (.getfield 26, 3) := by decide +kernel
theorem dX9_back_8 : decode cX9_back 8 = .ok (.invokevirtual 161, 3) := by decide +kernel
theorem dX9_back_11 : decode cX9_back 11 = .ok (.ifCond .ne 6, 3) := by decide +kernel
theorem dX9_back_17 : decode cX9_back 17 = .ok (.aload_n 0, 1) := by decide +kernel
theorem dX9_back_18 : decode cX9_back 18 = .ok (.getfield 56, 3) := by decide +kernel
theorem kw394 : Cond.code yX2_clear cX2_clear 1 none ∈ Tg := mem_Tg (List.mem_append_right _ (List.mem_of_getElem? (i := 394) (by decide +kernel))) (by decide +kernel)
theorem dX9_back_21 : decode cX9_back 21 = .ok (.invokevirtual 252, 3) := by decide +kernel
theorem dX9_back_24 : decode cX9_back 24 = .ok (.aload_n 0, 1) := by decide +kernel
theorem dX9_back_25 : decode cX9_back 25 = .ok (.getfield 60, 3) := by decide +kernel
theorem dX9_back_28 : decode cX9_back 28 = .ok (.getfield 165, 3) := by decide +kernel
theorem dX9_back_31 : decode cX9_back 31 = .ok (.ireturn, 1) := by decide +kernel
theorem dX9_back_14 : decode cX9_back 14 = .ok (.bipush (-2), 2) := by decide +kernel
theorem dX9_back_16 : decode cX9_back 16 = .ok (.ireturn, 1) := by decide +kernel
theorem cv_X9_252 : CVw RX9 252 RX2 yX2_clear 0 := ⟨by decide +kernel, kw391, kw392, kw393, kw8⟩
set_option maxHeartbeats 8000000 in
set_option maxRecDepth 100000 in
theorem c_X9_back (l : Launch) (dC : Nat → ClassId) (dI : Nat → Nat → Nat) (cc : Nat → ClassId) (q0 q1 q3 q11 q13 q16 q17 q21 q23 q25 q30 q12 q22 q24 : Nat) (kept_qa kept_qb : Nat → Nat) (shelf_clogs : Int32) (shelf_day : Int32) (shelf_cells : (Nat → Int32)) (acts_height : Int32) (kept_height : Int32) (kept_pp : (Nat → Nat)) (kept_CC : (Nat → Nat → Int32)) (kept_CK : (Nat → Int32)) (kept_CY : (Nat → Int32)) (sz : Nat) (ret : Int32) (o_shelf_cells : (Nat → Int32)) (o_shelf_clogs : Int32) (o_shelf_day : Int32) (o_acts_height : Int32) (o_kept_height : Int32) (hu : f_X9_back shelf_clogs shelf_day shelf_cells acts_height kept_height kept_pp kept_CC kept_CK kept_CY = some (ret, o_shelf_cells, o_shelf_clogs, o_shelf_day, o_acts_height, o_kept_height)) : Met l yX9_back (mw yX9_back cX9_back 1 (some .int)) ({ frames := 4, cells := 0, slots := 0, locals := 103 } : Room) (va_Pc [.ref q0] (mP (dC, dI) (ts cc) sz [(q0, .inr (9, [.ref q1, .ref q3, .ref q11, .ref q13, .ref q16, .ref q17, .ref q21, .ref q23, .ref q25, .ref q30])), (q11, .inr (4, [.ref q12, .int shelf_clogs, .int shelf_day])), (q12, .inl (cc 0, 50, .inl shelf_cells)), (q21, .inr (2, [.ref q22, .int acts_height])), (q23, .inr (2, [.ref q24, .int kept_height])), (q24, .inl (cc 3, 2, .inr (.inr (.inr (.inr fun j => some (kept_qa (kept_pp j))))))), ((kept_qa 0), .inr (4, [.ref (kept_qb 0), .int (kept_CK 0), .int (kept_CY 0)])), ((kept_qb 0), .inl (cc 0, 50, .inl (kept_CC 0))), ((kept_qa 1), .inr (4, [.ref (kept_qb 1), .int (kept_CK 1), .int (kept_CY 1)])), ((kept_qb 1), .inl (cc 0, 50, .inl (kept_CC 1)))])) ((fun A => va_Qi (fun (r : Int32) (w : (Nat → Int32) × Int32 × Int32 × Int32 × Int32) => r = ret ∧ w = (o_shelf_cells, o_shelf_clogs, o_shelf_day, o_acts_height, o_kept_height)) (fun (w : (Nat → Int32) × Int32 × Int32 × Int32 × Int32) t => va_P (dC, dI) classes [(q0, .inr (9, [.ref q1, .ref q3, .ref q11, .ref q13, .ref q16, .ref q17, .ref q21, .ref q23, .ref q25, .ref q30])), (q11, .inr (4, [.ref q12, .int w.2.1, .int w.2.2.1])), (q12, .inl (cc 0, 50, .inl w.1)), (q21, .inr (2, [.ref q22, .int w.2.2.2.1])), (q23, .inr (2, [.ref q24, .int w.2.2.2.2])), (q24, .inl (cc 3, 2, .inr (.inr (.inr (.inr fun j => some (kept_qa (kept_pp j))))))), ((kept_qa 0), .inr (4, [.ref (kept_qb 0), .int (kept_CK 0), .int (kept_CY 0)])), ((kept_qb 0), .inl (cc 0, 50, .inl (kept_CC 0))), ((kept_qa 1), .inr (4, [.ref (kept_qb 1), .int (kept_CK 1), .int (kept_CY 1)])), ((kept_qb 1), .inl (cc 0, 50, .inl (kept_CC 1)))] t.heap) A) (va_A [(q0, .inr (9, [.ref q1, .ref q3, .ref q11, .ref q13, .ref q16, .ref q17, .ref q21, .ref q23, .ref q25, .ref q30])), (q11, .inr (4, [.ref q12, .int shelf_clogs, .int shelf_day])), (q12, .inl (cc 0, 50, .inl shelf_cells)), (q21, .inr (2, [.ref q22, .int acts_height])), (q23, .inr (2, [.ref q24, .int kept_height])), (q24, .inl (cc 3, 2, .inr (.inr (.inr (.inr fun j => some (kept_qa (kept_pp j))))))), ((kept_qa 0), .inr (4, [.ref (kept_qb 0), .int (kept_CK 0), .int (kept_CY 0)])), ((kept_qb 0), .inl (cc 0, 50, .inl (kept_CC 0))), ((kept_qa 1), .inr (4, [.ref (kept_qb 1), .int (kept_CK 1), .int (kept_CY 1)])), ((kept_qb 1), .inl (cc 0, 50, .inl (kept_CC 1)))] sz)) 0 0 (va_A [(q0, .inr (9, [.ref q1, .ref q3, .ref q11, .ref q13, .ref q16, .ref q17, .ref q21, .ref q23, .ref q25, .ref q30])), (q11, .inr (4, [.ref q12, .int shelf_clogs, .int shelf_day])), (q12, .inl (cc 0, 50, .inl shelf_cells)), (q21, .inr (2, [.ref q22, .int acts_height])), (q23, .inr (2, [.ref q24, .int kept_height])), (q24, .inl (cc 3, 2, .inr (.inr (.inr (.inr fun j => some (kept_qa (kept_pp j))))))), ((kept_qa 0), .inr (4, [.ref (kept_qb 0), .int (kept_CK 0), .int (kept_CY 0)])), ((kept_qb 0), .inl (cc 0, 50, .inl (kept_CC 0))), ((kept_qa 1), .inr (4, [.ref (kept_qb 1), .int (kept_CK 1), .int (kept_CY 1)])), ((kept_qb 1), .inl (cc 0, 50, .inl (kept_CC 1)))] sz) := by
  refine met_go (Qc := fun A => va_Qi (fun (r : Int32) (w : (Nat → Int32) × Int32 × Int32 × Int32 × Int32) => r = ret ∧ w = (o_shelf_cells, o_shelf_clogs, o_shelf_day, o_acts_height, o_kept_height)) (fun (w : (Nat → Int32) × Int32 × Int32 × Int32 × Int32) t => va_P (dC, dI) classes [(q0, .inr (9, [.ref q1, .ref q3, .ref q11, .ref q13, .ref q16, .ref q17, .ref q21, .ref q23, .ref q25, .ref q30])), (q11, .inr (4, [.ref q12, .int w.2.1, .int w.2.2.1])), (q12, .inl (cc 0, 50, .inl w.1)), (q21, .inr (2, [.ref q22, .int w.2.2.2.1])), (q23, .inr (2, [.ref q24, .int w.2.2.2.2])), (q24, .inl (cc 3, 2, .inr (.inr (.inr (.inr fun j => some (kept_qa (kept_pp j))))))), ((kept_qa 0), .inr (4, [.ref (kept_qb 0), .int (kept_CK 0), .int (kept_CY 0)])), ((kept_qb 0), .inl (cc 0, 50, .inl (kept_CC 0))), ((kept_qa 1), .inr (4, [.ref (kept_qb 1), .int (kept_CK 1), .int (kept_CY 1)])), ((kept_qb 1), .inl (cc 0, 50, .inl (kept_CC 1)))] t.heap) A) (by decide) (Nat.le_of_ble_eq_true rfl) ?_
  intro p e s m below meth c A ls H locs hC hr hlk hin hA hP hl _
  have hC : CX p m c cX9_back 1 s ([.ref q0] : List Value).toArray RX9 (dC, dI) (ts cc) := hC
  have hx := hC.1.1
  have hb := hC.1.2
  have h := hu
  have hu0 := hu
  unfold f_X9_back at h
  have hl : lv_has ls 1 [(0, .ref q0)] := hl
  refine lv_aload_n hx hb dX9_back_0 rfl (lv_at hl 0 rfl) ?_
  refine g_get hC hP fg_X9_60 0 rfl rfl dX9_back_1 ?_
  refine lv_aload_n hx hb dX9_back_4 rfl (lv_at hl 0 rfl) ?_
  refine g_get hC hP fg_X9_26 0 rfl rfl dX9_back_5 ?_
  obtain ⟨⟨r1, w2, w3, w4, w5⟩, hu, h⟩ := bnd_h h
  refine kc_z (kV hC (c_X2_popInto_2 l dC dI cc q23 q24 q11 q12 kept_qa kept_qb kept_height kept_pp kept_CC kept_CK kept_CY shelf_clogs shelf_day shelf_cells H.size r1 w2 w3 w4 w5 hu) cv_X9_161 kw549 rfl rfl ⟨(Nat.le_of_ble_eq_true rfl), (Nat.le_of_ble_eq_true rfl)⟩ hP [4, 5, 6, 7, 8, 9, 1, 2] rfl rfl rfl (q0 := 4) rfl (As := [.ref q11]) (rest := []) rfl rfl hl.1 (Nat.le_of_ble_eq_true rfl) dX9_back_8 ⟨Nat.zero_le _, Nat.zero_le _⟩) hP hA [4, 5, 6, 7, 8, 9, 1, 2] rfl rfl (fun hz_r1 H locs hP => ?_)
  have hP : PD (dC, dI) A s.heap [(q0, .inr (9, [.ref q1, .ref q3, .ref q11, .ref q13, .ref q16, .ref q17, .ref q21, .ref q23, .ref q25, .ref q30])), (q11, .inr (4, [.ref q12, .int w4, .int w5])), (q12, .inl (cc 0, 50, .inl w3)), (q21, .inr (2, [.ref q22, .int acts_height])), (q23, .inr (2, [.ref q24, .int w2])), (q24, .inl (cc 3, 2, .inr (.inr (.inr (.inr fun j => some (kept_qa (kept_pp j))))))), ((kept_qa 0), .inr (4, [.ref (kept_qb 0), .int (kept_CK 0), .int (kept_CY 0)])), ((kept_qb 0), .inl (cc 0, 50, .inl (kept_CC 0))), ((kept_qa 1), .inr (4, [.ref (kept_qb 1), .int (kept_CK 1), .int (kept_CY 1)])), ((kept_qb 1), .inl (cc 0, 50, .inl (kept_CC 1)))] H locs := hP
  refine lv_if_ne (tgt := 17) hx hb dX9_back_11 (by decide) (fun c6 => ?_) (fun c6 => ?_)
  · have h := if_f c6 h
    refine lv_aload_n hx hb dX9_back_17 rfl (lv_at hl 0 rfl) ?_
    refine g_get hC hP fg_X9_56 0 rfl rfl dX9_back_18 ?_
    obtain ⟨w7, hu, h⟩ := bnd_h h
    refine kc_v (kV hC (c_X2_clear_8 l dC dI cc q21 q22 acts_height H.size w7 hu) cv_X9_252 kw394 rfl rfl ⟨(Nat.le_of_ble_eq_true rfl), (Nat.le_of_ble_eq_true rfl)⟩ hP [3] rfl rfl rfl (q0 := 3) rfl (As := []) (rest := []) rfl rfl hl.1 (Nat.le_of_ble_eq_true rfl) dX9_back_21 ⟨Nat.zero_le _, Nat.zero_le _⟩) hP hA [3] rfl rfl (fun H locs hP => ?_)
    have hP : PD (dC, dI) A s.heap [(q0, .inr (9, [.ref q1, .ref q3, .ref q11, .ref q13, .ref q16, .ref q17, .ref q21, .ref q23, .ref q25, .ref q30])), (q11, .inr (4, [.ref q12, .int w4, .int w5])), (q12, .inl (cc 0, 50, .inl w3)), (q21, .inr (2, [.ref q22, .int w7])), (q23, .inr (2, [.ref q24, .int w2])), (q24, .inl (cc 3, 2, .inr (.inr (.inr (.inr fun j => some (kept_qa (kept_pp j))))))), ((kept_qa 0), .inr (4, [.ref (kept_qb 0), .int (kept_CK 0), .int (kept_CY 0)])), ((kept_qb 0), .inl (cc 0, 50, .inl (kept_CC 0))), ((kept_qa 1), .inr (4, [.ref (kept_qb 1), .int (kept_CK 1), .int (kept_CY 1)])), ((kept_qb 1), .inl (cc 0, 50, .inl (kept_CC 1)))] H locs := hP
    refine lv_aload_n hx hb dX9_back_24 rfl (lv_at hl 0 rfl) ?_
    refine g_get hC hP fg_X9_60 0 rfl rfl dX9_back_25 ?_
    refine g_get hC hP fg_X9_165 4 rfl rfl dX9_back_28 ?_
    exact ret_i hC hr hlk hP dX9_back_31 (w3, w4, w5, w7, w2) (Prod.mk.inj (Option.some.inj h)) rfl
  · have h := if_t c6 h
    refine lv_bipush (v := -2) hx hb dX9_back_14 (by decide) ?_
    exact ret_i hC hr hlk hP dX9_back_16 (w3, w4, w5, acts_height, w2) (Prod.mk.inj (Option.some.inj h)) rfl
