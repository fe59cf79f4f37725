theorem kw757 : Cond.methodLink RX9 249 yX2_isFull ∈ Tg := mem_Tg (List.mem_append_right _ (List.mem_of_getElem? (i := 757) (by decide +kernel))) (by decide +kernel)
theorem dX9_keep_0 : decode cX9_keep 0 = .ok (.aload_n 0, 1) := by decide +kernel
theorem dX9_keep_1 : decode cX9_keep 1 = .ok (.getfield 60, 3) := by decide +kernel
theorem dX9_keep_4 : decode cX9_keep 4 = .ok (.invokevirtual 249, 3) := by decide +kernel
theorem dX9_keep_7 : decode cX9_keep 7 = .ok (.ifCond .eq 6, 3) := by decide +kernel
theorem dX9_keep_13 : decode cX9_keep 13 = .ok (.aload_n 0, 1) := by decide +kernel
theorem dX9_keep_14 : decode cX9_keep 14 = .ok (.getfield 60, 3) := by decide +kernel
theorem dX9_keep_17 : decode cX9_keep 17 = .ok (.aload_n 0, 1) := by decide +kernel
theorem dX9_keep_18 : decode cX9_keep 18 = .ok (.getfield 26, 3) := by decide +kernel
theorem dX9_keep_21 : decode cX9_keep 21 = .ok (.invokevirtual 139, 3) := by decide +kernel
theorem dX9_keep_24 : decode cX9_keep 24 = .ok (.aload_n 0, 1) := by decide +kernel
theorem dX9_keep_25 : decode cX9_keep 25 = .ok (.getfield 60, 3) := by decide +kernel
theorem dX9_keep_28 : decode cX9_keep 28 = .ok (.getfield 165, 3) := by decide +kernel
theorem dX9_keep_31 : decode cX9_keep 31 = .ok (.ireturn, 1) := by decide +kernel
theorem dX9_keep_10 : decode cX9_keep 10 = .ok (.bipush (-3), 2) := by decide +kernel
theorem dX9_keep_12 : decode cX9_keep 12 = .ok (.ireturn, 1) := by decide +kernel
theorem cv_X9_249 : CVw RX9 249 RX2 yX2_isFull 0 := ⟨by decide +kernel, kw757, kw493, kw494, kw8⟩
set_option maxHeartbeats 8000000 in
set_option maxRecDepth 100000 in
theorem c_X9_keep (l : Launch) (dC : Nat → ClassId) (dI : Nat → Nat → Nat) (cc : Nat → ClassId) (q0 q1 q3 q11 q13 q16 q17 q21 q23 q25 q30 q12 q24 : Nat) (kept_qa kept_qb : Nat → Nat) (shelf_clogs : Int32) (shelf_day : Int32) (shelf_cells : (Nat → Int32)) (kept_height : Int32) (kept_pp : (Nat → Nat)) (kept_CC : (Nat → Nat → Int32)) (kept_CK : (Nat → Int32)) (kept_CY : (Nat → Int32)) (sz : Nat) (ret : Int32) (o_kept_pp : (Nat → Nat)) (o_kept_CC : (Nat → Nat → Int32)) (o_kept_CK : (Nat → Int32)) (o_kept_CY : (Nat → Int32)) (o_kept_height : Int32) (hu : f_X9_keep shelf_clogs shelf_day shelf_cells kept_height kept_pp kept_CC kept_CK kept_CY = some (ret, o_kept_pp, o_kept_CC, o_kept_CK, o_kept_CY, o_kept_height)) : Met l yX9_keep (mw yX9_keep cX9_keep 1 (some .int)) ({ frames := 4, cells := 0, slots := 0, locals := 103 } : Room) (va_Pc [.ref q0] (mP (dC, dI) (ts cc) sz [(q0, .inr (9, [.ref q1, .ref q3, .ref q11, .ref q13, .ref q16, .ref q17, .ref q21, .ref q23, .ref q25, .ref q30])), (q11, .inr (4, [.ref q12, .int shelf_clogs, .int shelf_day])), (q12, .inl (cc 0, 50, .inl shelf_cells)), (q23, .inr (2, [.ref q24, .int kept_height])), (q24, .inl (cc 3, 2, .inr (.inr (.inr (.inr fun j => some (kept_qa (kept_pp j))))))), ((kept_qa 0), .inr (4, [.ref (kept_qb 0), .int (kept_CK 0), .int (kept_CY 0)])), ((kept_qb 0), .inl (cc 0, 50, .inl (kept_CC 0))), ((kept_qa 1), .inr (4, [.ref (kept_qb 1), .int (kept_CK 1), .int (kept_CY 1)])), ((kept_qb 1), .inl (cc 0, 50, .inl (kept_CC 1)))])) ((fun A => va_Qi (fun (r : Int32) (w : (Nat → Nat) × (Nat → Nat → Int32) × (Nat → Int32) × (Nat → Int32) × Int32) => r = ret ∧ w = (o_kept_pp, o_kept_CC, o_kept_CK, o_kept_CY, o_kept_height)) (fun (w : (Nat → Nat) × (Nat → Nat → Int32) × (Nat → Int32) × (Nat → Int32) × Int32) t => va_P (dC, dI) classes [(q0, .inr (9, [.ref q1, .ref q3, .ref q11, .ref q13, .ref q16, .ref q17, .ref q21, .ref q23, .ref q25, .ref q30])), (q11, .inr (4, [.ref q12, .int shelf_clogs, .int shelf_day])), (q12, .inl (cc 0, 50, .inl shelf_cells)), (q23, .inr (2, [.ref q24, .int w.2.2.2.2])), (q24, .inl (cc 3, 2, .inr (.inr (.inr (.inr fun j => some (kept_qa (w.1 j))))))), ((kept_qa 0), .inr (4, [.ref (kept_qb 0), .int (w.2.2.1 0), .int (w.2.2.2.1 0)])), ((kept_qb 0), .inl (cc 0, 50, .inl (w.2.1 0))), ((kept_qa 1), .inr (4, [.ref (kept_qb 1), .int (w.2.2.1 1), .int (w.2.2.2.1 1)])), ((kept_qb 1), .inl (cc 0, 50, .inl (w.2.1 1)))] t.heap) A) (va_A [(q0, .inr (9, [.ref q1, .ref q3, .ref q11, .ref q13, .ref q16, .ref q17, .ref q21, .ref q23, .ref q25, .ref q30])), (q11, .inr (4, [.ref q12, .int shelf_clogs, .int shelf_day])), (q12, .inl (cc 0, 50, .inl shelf_cells)), (q23, .inr (2, [.ref q24, .int kept_height])), (q24, .inl (cc 3, 2, .inr (.inr (.inr (.inr fun j => some (kept_qa (kept_pp j))))))), ((kept_qa 0), .inr (4, [.ref (kept_qb 0), .int (kept_CK 0), .int (kept_CY 0)])), ((kept_qb 0), .inl (cc 0, 50, .inl (kept_CC 0))), ((kept_qa 1), .inr (4, [.ref (kept_qb 1), .int (kept_CK 1), .int (kept_CY 1)])), ((kept_qb 1), .inl (cc 0, 50, .inl (kept_CC 1)))] sz)) 0 0 (va_A [(q0, .inr (9, [.ref q1, .ref q3, .ref q11, .ref q13, .ref q16, .ref q17, .ref q21, .ref q23, .ref q25, .ref q30])), (q11, .inr (4, [.ref q12, .int shelf_clogs, .int shelf_day])), (q12, .inl (cc 0, 50, .inl shelf_cells)), (q23, .inr (2, [.ref q24, .int kept_height])), (q24, .inl (cc 3, 2, .inr (.inr (.inr (.inr fun j => some (kept_qa (kept_pp j))))))), ((kept_qa 0), .inr (4, [.ref (kept_qb 0), .int (kept_CK 0), .int (kept_CY 0)])), ((kept_qb 0), .inl (cc 0, 50, .inl (kept_CC 0))), ((kept_qa 1), .inr (4, [.ref (kept_qb 1), .int (kept_CK 1), .int (kept_CY 1)])), ((kept_qb 1), .inl (cc 0, 50, .inl (kept_CC 1)))] sz) := by
  refine met_go (Qc := fun A => va_Qi (fun (r : Int32) (w : (Nat → Nat) × (Nat → Nat → Int32) × (Nat → Int32) × (Nat → Int32) × Int32) => r = ret ∧ w = (o_kept_pp, o_kept_CC, o_kept_CK, o_kept_CY, o_kept_height)) (fun (w : (Nat → Nat) × (Nat → Nat → Int32) × (Nat → Int32) × (Nat → Int32) × Int32) t => va_P (dC, dI) classes [(q0, .inr (9, [.ref q1, .ref q3, .ref q11, .ref q13, .ref q16, .ref q17, .ref q21, .ref q23, .ref q25, .ref q30])), (q11, .inr (4, [.ref q12, .int shelf_clogs, .int shelf_day])), (q12, .inl (cc 0, 50, .inl shelf_cells)), (q23, .inr (2, [.ref q24, .int w.2.2.2.2])), (q24, .inl (cc 3, 2, .inr (.inr (.inr (.inr fun j => some (kept_qa (w.1 j))))))), ((kept_qa 0), .inr (4, [.ref (kept_qb 0), .int (w.2.2.1 0), .int (w.2.2.2.1 0)])), ((kept_qb 0), .inl (cc 0, 50, .inl (w.2.1 0))), ((kept_qa 1), .inr (4, [.ref (kept_qb 1), .int (w.2.2.1 1), .int (w.2.2.2.1 1)])), ((kept_qb 1), .inl (cc 0, 50, .inl (w.2.1 1)))] t.heap) A) (by decide) (Nat.le_of_ble_eq_true rfl) ?_
  intro p e s m below meth c A ls H locs hC hr hlk hin hA hP hl _
  have hC : CX p m c cX9_keep 1 s ([.ref q0] : List Value).toArray RX9 (dC, dI) (ts cc) := hC
  have hx := hC.1.1
  have hb := hC.1.2
  have h := hu
  have hu0 := hu
  unfold f_X9_keep at h
  have hl : lv_has ls 1 [(0, .ref q0)] := hl
  refine lv_aload_n hx hb dX9_keep_0 rfl (lv_at hl 0 rfl) ?_
  refine g_get hC hP fg_X9_60 0 rfl rfl dX9_keep_1 ?_
  obtain ⟨r1, hu, h⟩ := bnd_h h
  refine kc_z (kV hC (c_X2_isFull_2 l dC dI cc q23 q24 kept_qa kept_qb kept_height kept_pp H.size r1 hu) cv_X9_249 kw495 rfl rfl ⟨(Nat.le_of_ble_eq_true rfl), (Nat.le_of_ble_eq_true rfl)⟩ hP [3, 4] rfl rfl rfl (q0 := 3) rfl (As := []) (rest := []) rfl rfl hl.1 (Nat.le_of_ble_eq_true rfl) dX9_keep_4 ⟨Nat.zero_le _, Nat.zero_le _⟩) hP hA [3, 4] rfl rfl (fun hz_r1 H locs hP => ?_)
  have hP : PD (dC, dI) A s.heap [(q0, .inr (9, [.ref q1, .ref q3, .ref q11, .ref q13, .ref q16, .ref q17, .ref q21, .ref q23, .ref q25, .ref q30])), (q11, .inr (4, [.ref q12, .int shelf_clogs, .int shelf_day])), (q12, .inl (cc 0, 50, .inl shelf_cells)), (q23, .inr (2, [.ref q24, .int kept_height])), (q24, .inl (cc 3, 2, .inr (.inr (.inr (.inr fun j => some (kept_qa (kept_pp j))))))), ((kept_qa 0), .inr (4, [.ref (kept_qb 0), .int (kept_CK 0), .int (kept_CY 0)])), ((kept_qb 0), .inl (cc 0, 50, .inl (kept_CC 0))), ((kept_qa 1), .inr (4, [.ref (kept_qb 1), .int (kept_CK 1), .int (kept_CY 1)])), ((kept_qb 1), .inl (cc 0, 50, .inl (kept_CC 1)))] H locs := hP
  refine lv_if_eq (tgt := 13) hx hb dX9_keep_7 (by decide) (fun c2 => ?_) (fun c2 => ?_)
  · have h := if_t c2 h
    refine lv_aload_n hx hb dX9_keep_13 rfl (lv_at hl 0 rfl) ?_
    refine g_get hC hP fg_X9_60 0 rfl rfl dX9_keep_14 ?_
    refine lv_aload_n hx hb dX9_keep_17 rfl (lv_at hl 0 rfl) ?_
    refine g_get hC hP fg_X9_26 0 rfl rfl dX9_keep_18 ?_
    obtain ⟨⟨w3, w4, w5, w6, w7⟩, hu, h⟩ := bnd_h h
    refine kc_v (kV hC (c_X2_push_2 l dC dI cc q23 q24 q11 q12 kept_qa kept_qb kept_height kept_pp kept_CC kept_CK kept_CY shelf_clogs shelf_day shelf_cells H.size w3 w4 w5 w6 w7 hu) cv_X9_139 kw491 rfl rfl ⟨(Nat.le_of_ble_eq_true rfl), (Nat.le_of_ble_eq_true rfl)⟩ hP [3, 4, 5, 6, 7, 8, 1, 2] rfl rfl rfl (q0 := 3) rfl (As := [.ref q11]) (rest := []) rfl rfl hl.1 (Nat.le_of_ble_eq_true rfl) dX9_keep_21 ⟨Nat.zero_le _, Nat.zero_le _⟩) hP hA [3, 4, 5, 6, 7, 8, 1, 2] rfl rfl (fun H locs hP => ?_)
    have hP : PD (dC, dI) A s.heap [(q0, .inr (9, [.ref q1, .ref q3, .ref q11, .ref q13, .ref q16, .ref q17, .ref q21, .ref q23, .ref q25, .ref q30])), (q11, .inr (4, [.ref q12, .int shelf_clogs, .int shelf_day])), (q12, .inl (cc 0, 50, .inl shelf_cells)), (q23, .inr (2, [.ref q24, .int w7])), (q24, .inl (cc 3, 2, .inr (.inr (.inr (.inr fun j => some (kept_qa (w3 j))))))), ((kept_qa 0), .inr (4, [.ref (kept_qb 0), .int (w5 0), .int (w6 0)])), ((kept_qb 0), .inl (cc 0, 50, .inl (w4 0))), ((kept_qa 1), .inr (4, [.ref (kept_qb 1), .int (w5 1), .int (w6 1)])), ((kept_qb 1), .inl (cc 0, 50, .inl (w4 1)))] H locs := hP
    refine lv_aload_n hx hb dX9_keep_24 rfl (lv_at hl 0 rfl) ?_
    refine g_get hC hP fg_X9_60 0 rfl rfl dX9_keep_25 ?_
    refine g_get hC hP fg_X9_165 3 rfl rfl dX9_keep_28 ?_
    exact ret_i hC hr hlk hP dX9_keep_31 (w3, w4, w5, w6, w7) (Prod.mk.inj (Option.some.inj h)) rfl
  · have h := if_f c2 h
    refine lv_bipush (v := -3) hx hb dX9_keep_10 (by decide) ?_
    exact ret_i hC hr hlk hP dX9_keep_12 (kept_pp, kept_CC, kept_CK, kept_CY, kept_height) (Prod.mk.inj (Option.some.inj h)) rfl
