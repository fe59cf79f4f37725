set_option maxHeartbeats 8000000 in
set_option maxRecDepth 100000 in
theorem c_X4_clear (l : Launch) (dC : Nat → ClassId) (dI : Nat → Nat → Nat) (cc : Nat → ClassId) (q0 q1 : Nat) (clogs : Int32) (day : Int32) (sz : Nat) (o_clogs : Int32) (o_day : Int32) (hu : f_X4_clear = some (o_clogs, o_day)) : Met l yX4_clear (mw yX4_clear cX4_clear 1 none) ({ frames := 0, cells := 0, slots := 0, locals := 0 } : Room) (va_Pc [.ref q0] (mP (dC, dI) (ts cc) sz [(q0, .inr (4, [.ref q1, .int clogs, .int day]))])) ((fun A => va_Qv (fun (w : Int32 × Int32) => w = (o_clogs, o_day)) (fun (w : Int32 × Int32) t => va_P (dC, dI) classes [(q0, .inr (4, [.ref q1, .int w.1, .int w.2]))] t.heap) A) (va_A [(q0, .inr (4, [.ref q1, .int clogs, .int day]))] sz)) 0 0 (va_A [(q0, .inr (4, [.ref q1, .int clogs, .int day]))] sz) := by
  refine met_go (Qc := fun A => va_Qv (fun (w : Int32 × Int32) => w = (o_clogs, o_day)) (fun (w : Int32 × Int32) t => va_P (dC, dI) classes [(q0, .inr (4, [.ref q1, .int w.1, .int w.2]))] t.heap) A) (by decide) (Nat.le_of_ble_eq_true rfl) ?_
  intro p e s m below meth c A ls H locs hC hr hlk hin hA hP hl _
  have hC : CX p m c cX4_clear 1 s ([.ref q0] : List Value).toArray RX4 (dC, dI) (ts cc) := hC
  have hx := hC.1.1
  have hb := hC.1.2
  have h := hu
  have hu0 := hu
  unfold f_X4_clear at h
  have hl : lv_has ls 1 [(0, .ref q0)] := hl
  refine lv_aload_n hx hb dX4_clear_0 rfl (lv_at hl 0 rfl) ?_
  refine lv_iconst (v := 0) hx hb dX4_clear_1 (by decide) ?_
  refine g_put hC hP fg_X4_15 0 rfl rfl rfl (Nat.le_of_ble_eq_true rfl) dX4_clear_2 (fun H locs hP => ?_)
  have hP : PD (dC, dI) A s.heap [(q0, .inr (4, [.ref q1, .int 0, .int day]))] H locs := hP
  refine lv_aload_n hx hb dX4_clear_5 rfl (lv_at hl 0 rfl) ?_
  refine lv_iconst (v := 0) hx hb dX4_clear_6 (by decide) ?_
  refine g_put hC hP fg_X4_19 0 rfl rfl rfl (Nat.le_of_ble_eq_true rfl) dX4_clear_7 (fun H locs hP => ?_)
  have hP : PD (dC, dI) A s.heap [(q0, .inr (4, [.ref q1, .int 0, .int 0]))] H locs := hP
  exact ret_v hC hr hlk hP dX4_clear_10 (0, 0) (Option.some.inj h) rfl
set_option maxHeartbeats 8000000 in
set_option maxRecDepth 100000 in
theorem c_X4_copy (l : Launch) (dC : Nat → ClassId) (dI : Nat → Nat → Nat) (cc : Nat → ClassId) (q0 q1 q2 q3 : Nat) (clogs : Int32) (day : Int32) (cells : (Nat → Int32)) (o1_clogs : Int32) (o1_day : Int32) (o1_cells : (Nat → Int32)) (sz : Nat) (o_cells : (Nat → Int32)) (o_clogs : Int32) (o_day : Int32) (hu : f_X4_copy cells o1_clogs o1_day o1_cells = some (o_cells, o_clogs, o_day)) : Met l yX4_copy (mw yX4_copy cX4_copy 2 none) ({ frames := 2, cells := 0, slots := 0, locals := 61 } : Room) (va_Pc [.ref q0, .ref q2] (mP (dC, dI) (ts cc) sz [(q0, .inr (4, [.ref q1, .int clogs, .int day])), (q1, .inl (cc 0, 50, .inl cells)), (q2, .inr (4, [.ref q3, .int o1_clogs, .int o1_day])), (q3, .inl (cc 0, 50, .inl o1_cells))])) ((fun A => va_Qv (fun (w : (Nat → Int32) × Int32 × Int32) => w = (o_cells, o_clogs, o_day)) (fun (w : (Nat → Int32) × Int32 × Int32) t => va_P (dC, dI) classes [(q0, .inr (4, [.ref q1, .int w.2.1, .int w.2.2])), (q1, .inl (cc 0, 50, .inl w.1)), (q2, .inr (4, [.ref q3, .int o1_clogs, .int o1_day])), (q3, .inl (cc 0, 50, .inl o1_cells))] t.heap) A) (va_A [(q0, .inr (4, [.ref q1, .int clogs, .int day])), (q1, .inl (cc 0, 50, .inl cells)), (q2, .inr (4, [.ref q3, .int o1_clogs, .int o1_day])), (q3, .inl (cc 0, 50, .inl o1_cells))] sz)) 0 0 (va_A [(q0, .inr (4, [.ref q1, .int clogs, .int day])), (q1, .inl (cc 0, 50, .inl cells)), (q2, .inr (4, [.ref q3, .int o1_clogs, .int o1_day])), (q3, .inl (cc 0, 50, .inl o1_cells))] sz) := by
  refine met_go (Qc := fun A => va_Qv (fun (w : (Nat → Int32) × Int32 × Int32) => w = (o_cells, o_clogs, o_day)) (fun (w : (Nat → Int32) × Int32 × Int32) t => va_P (dC, dI) classes [(q0, .inr (4, [.ref q1, .int w.2.1, .int w.2.2])), (q1, .inl (cc 0, 50, .inl w.1)), (q2, .inr (4, [.ref q3, .int o1_clogs, .int o1_day])), (q3, .inl (cc 0, 50, .inl o1_cells))] t.heap) A) (by decide) (Nat.le_of_ble_eq_true rfl) ?_
  intro p e s m below meth c A ls H locs hC hr hlk hin hA hP hl _
  have hC : CX p m c cX4_copy 2 s ([.ref q0, .ref q2] : List Value).toArray RX4 (dC, dI) (ts cc) := hC
  have hx := hC.1.1
  have hb := hC.1.2
  have h := hu
  have hu0 := hu
  unfold f_X4_copy at h
  have hl : lv_has ls 2 [(0, .ref q0), (1, .ref q2)] := hl
  refine lv_aload_n hx hb dX4_copy_0 rfl (lv_at hl 1 rfl) ?_
  refine lv_ifnull hx hb dX4_copy_1 ?_
  refine lv_aload_n hx hb dX4_copy_4 rfl (lv_at hl 1 rfl) ?_
  refine g_get hC hP fg_X4_9 2 rfl rfl dX4_copy_5 ?_
  refine lv_aload_n hx hb dX4_copy_8 rfl (lv_at hl 0 rfl) ?_
  refine g_get hC hP fg_X4_9 0 rfl rfl dX4_copy_9 ?_
  obtain ⟨w1, hu, h⟩ := bnd_h h
  refine kc_v (kN hC (c_X9_copyRow l dC dI cc q3 q1 50 50 o1_cells cells H.size w1 hu) cn_X4_22 kw375 rfl rfl ⟨(Nat.le_of_ble_eq_true rfl), (Nat.le_of_ble_eq_true rfl)⟩ hP [3, 1] rfl rfl (As := [.ref q3, .ref q1]) (rest := []) rfl rfl hl.1 (Nat.le_of_ble_eq_true rfl) dX4_copy_12 ⟨Nat.zero_le _, Nat.zero_le _⟩) hP hA [3, 1] rfl rfl (fun H locs hP => ?_)
  have hP : PD (dC, dI) A s.heap [(q0, .inr (4, [.ref q1, .int clogs, .int day])), (q1, .inl (cc 0, 50, .inl w1)), (q2, .inr (4, [.ref q3, .int o1_clogs, .int o1_day])), (q3, .inl (cc 0, 50, .inl o1_cells))] H locs := hP
  refine lv_aload_n hx hb dX4_copy_15 rfl (lv_at hl 0 rfl) ?_
  refine lv_aload_n hx hb dX4_copy_16 rfl (lv_at hl 1 rfl) ?_
  refine g_get hC hP fg_X4_15 2 rfl rfl dX4_copy_17 ?_
  refine g_put hC hP fg_X4_15 0 rfl rfl rfl (Nat.le_of_ble_eq_true rfl) dX4_copy_20 (fun H locs hP => ?_)
  have hP : PD (dC, dI) A s.heap [(q0, .inr (4, [.ref q1, .int o1_clogs, .int day])), (q1, .inl (cc 0, 50, .inl w1)), (q2, .inr (4, [.ref q3, .int o1_clogs, .int o1_day])), (q3, .inl (cc 0, 50, .inl o1_cells))] H locs := hP
  refine lv_aload_n hx hb dX4_copy_23 rfl (lv_at hl 0 rfl) ?_
  refine lv_aload_n hx hb dX4_copy_24 rfl (lv_at hl 1 rfl) ?_
  refine g_get hC hP fg_X4_19 2 rfl rfl dX4_copy_25 ?_
  refine g_put hC hP fg_X4_19 0 rfl rfl rfl (Nat.le_of_ble_eq_true rfl) dX4_copy_28 (fun H locs hP => ?_)
  have hP : PD (dC, dI) A s.heap [(q0, .inr (4, [.ref q1, .int o1_clogs, .int o1_day])), (q1, .inl (cc 0, 50, .inl w1)), (q2, .inr (4, [.ref q3, .int o1_clogs, .int o1_day])), (q3, .inl (cc 0, 50, .inl o1_cells))] H locs := hP
  exact ret_v hC hr hlk hP dX4_copy_31 (w1, o1_clogs, o1_day) (Option.some.inj h) rfl
set_option maxHeartbeats 8000000 in
set_option maxRecDepth 100000 in
theorem c_X4_holds (l : Launch) (dC : Nat → ClassId) (dI : Nat → Nat → Nat) (cc : Nat → ClassId) (q0 q1 : Nat) (clogs : Int32) (day : Int32) (x1 : Int32) (sz : Nat) (ret : Int32) (hu : f_X4_holds x1 clogs = some ret) : Met l yX4_holds (mw yX4_holds cX4_holds 2 (some .boolean)) ({ frames := 1, cells := 0, slots := 0, locals := 22 } : Room) (va_Pc [.ref q0, .int x1] (mP (dC, dI) (ts cc) sz [(q0, .inr (4, [.ref q1, .int clogs, .int day]))])) ((fun A => va_Qi (fun (r : Int32) (w : Unit) => narrow .boolean (.int r) = .int r ∧ (r = ret ∧ w = ())) (fun (w : Unit) t => va_P (dC, dI) classes [(q0, .inr (4, [.ref q1, .int clogs, .int day]))] t.heap) A) (va_A [(q0, .inr (4, [.ref q1, .int clogs, .int day]))] sz)) 0 0 (va_A [(q0, .inr (4, [.ref q1, .int clogs, .int day]))] sz) := by
  refine met_go (Qc := fun A => va_Qi (fun (r : Int32) (w : Unit) => narrow .boolean (.int r) = .int r ∧ (r = ret ∧ w = ())) (fun (w : Unit) t => va_P (dC, dI) classes [(q0, .inr (4, [.ref q1, .int clogs, .int day]))] t.heap) A) (by decide) (Nat.le_of_ble_eq_true rfl) ?_
  intro p e s m below meth c A ls H locs hC hr hlk hin hA hP hl _
  have hC : CX p m c cX4_holds 2 s ([.ref q0, .int x1] : List Value).toArray RX4 (dC, dI) (ts cc) := hC
  have hx := hC.1.1
  have hb := hC.1.2
  have h := hu
  have hu0 := hu
  unfold f_X4_holds at h
  have hl : lv_has ls 2 [(0, .ref q0), (1, .int x1)] := hl
  refine lv_iload_n hx hb dX4_holds_0 rfl (lv_at hl 1 rfl) ?_
  refine lv_iconst (v := 0) hx hb dX4_holds_1 (by decide) ?_
  refine lv_aload_n hx hb dX4_holds_2 rfl (lv_at hl 0 rfl) ?_
  refine g_get hC hP fg_X4_15 0 rfl rfl dX4_holds_3 ?_
  refine lv_iconst (v := 1) hx hb dX4_holds_6 (by decide) ?_
  refine lv_isub hx hb dX4_holds_7 ?_
  obtain ⟨r1, hu, h⟩ := bnd_h h
  refine kc_z (kN hC (c_X9_within l dC dI cc x1 0 (clogs - 1) H.size r1 hu) cn_X4_26 kw338 rfl rfl ⟨(Nat.le_of_ble_eq_true rfl), (Nat.le_of_ble_eq_true rfl)⟩ hP [] rfl rfl (As := [.int x1, .int 0, .int (clogs - 1)]) (rest := []) rfl rfl hl.1 (Nat.le_of_ble_eq_true rfl) dX4_holds_8 ⟨Nat.zero_le _, Nat.zero_le _⟩) hP hA [] rfl rfl (fun hz_r1 H locs hP => ?_)
  have hP : PD (dC, dI) A s.heap [(q0, .inr (4, [.ref q1, .int clogs, .int day]))] H locs := hP
  exact ret_z hC hr hz_r1 hlk hP dX4_holds_11 () (⟨Option.some.inj h, rfl⟩) rfl
set_option maxHeartbeats 8000000 in
set_option maxRecDepth 100000 in
theorem c_X4_cell (l : Launch) (dC : Nat → ClassId) (dI : Nat → Nat → Nat) (cc : Nat → ClassId) (q0 q1 : Nat) (clogs : Int32) (day : Int32) (cells : (Nat → Int32)) (x1 : Int32) (x2 : Int32) (sz : Nat) (ret : Int32) (hu : f_X4_cell x1 x2 clogs cells = some ret) : Met l yX4_cell (mw yX4_cell cX4_cell 4 (some .int)) ({ frames := 0, cells := 0, slots := 0, locals := 0 } : Room) (va_Pc [.ref q0, .int x1, .int x2] (mP (dC, dI) (ts cc) sz [(q0, .inr (4, [.ref q1, .int clogs, .int day])), (q1, .inl (cc 0, 50, .inl cells))])) ((fun A => va_Qi (fun (r : Int32) (w : Unit) => r = ret ∧ w = ()) (fun (w : Unit) t => va_P (dC, dI) classes [(q0, .inr (4, [.ref q1, .int clogs, .int day])), (q1, .inl (cc 0, 50, .inl cells))] t.heap) A) (va_A [(q0, .inr (4, [.ref q1, .int clogs, .int day])), (q1, .inl (cc 0, 50, .inl cells))] sz)) 0 0 (va_A [(q0, .inr (4, [.ref q1, .int clogs, .int day])), (q1, .inl (cc 0, 50, .inl cells))] sz) := by
  refine met_go (Qc := fun A => va_Qi (fun (r : Int32) (w : Unit) => r = ret ∧ w = ()) (fun (w : Unit) t => va_P (dC, dI) classes [(q0, .inr (4, [.ref q1, .int clogs, .int day])), (q1, .inl (cc 0, 50, .inl cells))] t.heap) A) (by decide) (Nat.le_of_ble_eq_true rfl) ?_
  intro p e s m below meth c A ls H locs hC hr hlk hin hA hP hl _
  have hC : CX p m c cX4_cell 4 s ([.ref q0, .int x1, .int x2] : List Value).toArray RX4 (dC, dI) (ts cc) := hC
  have hx := hC.1.1
  have hb := hC.1.2
  have h := hu
  have hu0 := hu
  unfold f_X4_cell at h
  have hl : lv_has ls 4 [(0, .ref q0), (1, .int x1), (2, .int x2)] := hl
  refine lv_iload_n hx hb dX4_cell_0 rfl (lv_at hl 1 rfl) ?_
  refine lv_if_lt (tgt := 21) hx hb dX4_cell_1 (by decide) (fun c1 => ?_) (fun c1 => ?_)
  · have h := if_t c1 h
    refine lv_iconst (v := 0) hx hb dX4_cell_21 (by decide) ?_
    exact ret_i hC hr hlk hP dX4_cell_22 () (⟨Option.some.inj h, rfl⟩) rfl
  · have h := if_f c1 h
    refine lv_iload_n hx hb dX4_cell_4 rfl (lv_at hl 1 rfl) ?_
    refine lv_aload_n hx hb dX4_cell_5 rfl (lv_at hl 0 rfl) ?_
    refine g_get hC hP fg_X4_15 0 rfl rfl dX4_cell_6 ?_
    refine lv_icmp_ge (tgt := 21) hx hb dX4_cell_9 (by decide) (fun c2 => ?_) (fun c2 => ?_)
    · have h := if_t c2 h
      refine lv_iconst (v := 0) hx hb dX4_cell_21 (by decide) ?_
      exact ret_i hC hr hlk hP dX4_cell_22 () (⟨Option.some.inj h, rfl⟩) rfl
    · have h := if_f c2 h
      refine lv_iload_n hx hb dX4_cell_12 rfl (lv_at hl 2 rfl) ?_
      refine lv_if_lt (tgt := 21) hx hb dX4_cell_13 (by decide) (fun c3 => ?_) (fun c3 => ?_)
      · have h := if_t c3 h
        refine lv_iconst (v := 0) hx hb dX4_cell_21 (by decide) ?_
        exact ret_i hC hr hlk hP dX4_cell_22 () (⟨Option.some.inj h, rfl⟩) rfl
      · have h := if_f c3 h
        refine lv_iload_n hx hb dX4_cell_16 rfl (lv_at hl 2 rfl) ?_
        refine lv_iconst (v := 5) hx hb dX4_cell_17 (by decide) ?_
        refine lv_icmp_lt (tgt := 23) hx hb dX4_cell_18 (by decide) (fun c4 => ?_) (fun c4 => ?_)
        · have h := if_t c4 h
          refine lv_iload_n hx hb dX4_cell_23 rfl (lv_at hl 1 rfl) ?_
          refine lv_iconst (v := 5) hx hb dX4_cell_24 (by decide) ?_
          refine lv_imul hx hb dX4_cell_25 ?_
          refine lv_iload_n hx hb dX4_cell_26 rfl (lv_at hl 2 rfl) ?_
          refine lv_iadd hx hb dX4_cell_27 ?_
          refine lv_istore_n (lv' := [(3, .int ((x1 * 5) + x2)), (0, .ref q0), (1, .int x1), (2, .int x2)]) hx hb dX4_cell_28 rfl hl (by decide) rfl (fun ls hl => ?_)
          refine lv_iload_n hx hb dX4_cell_29 rfl (lv_at hl 0 rfl) ?_
          refine lv_aload_n hx hb dX4_cell_30 rfl (lv_at hl 1 rfl) ?_
          refine g_get hC hP fg_X4_9 0 rfl rfl dX4_cell_31 ?_
          refine g_alen hC hP 1 0 rfl rfl (v := 50) rfl dX4_cell_34 ?_
          refine lv_icmp_ge (tgt := 47) hx hb dX4_cell_35 (by decide) (fun c5 => ?_) (fun c5 => ?_)
          · have h := if_t c5 h
            refine lv_iconst (v := 0) hx hb dX4_cell_47 (by decide) ?_
            exact ret_i hC hr hlk hP dX4_cell_48 () (⟨Option.some.inj h, rfl⟩) rfl
          · have h := if_f c5 h
            refine lv_aload_n hx hb dX4_cell_38 rfl (lv_at hl 1 rfl) ?_
            refine g_get hC hP fg_X4_9 0 rfl rfl dX4_cell_39 ?_
            refine lv_iload_n hx hb dX4_cell_42 rfl (lv_at hl 0 rfl) ?_
            obtain ⟨hin, h⟩ := rd_h h
            refine g_iald hC hP 1 0 rfl rfl hin dX4_cell_43 (fun v6 ev => ?_)
            have h := h v6 ev
            refine lv_goto (tgt := 48) hx hb dX4_cell_44 (by decide) ?_
            exact ret_i hC hr hlk hP dX4_cell_48 () (⟨Option.some.inj h, rfl⟩) rfl
        · have h := if_f c4 h
          refine lv_iconst (v := 0) hx hb dX4_cell_21 (by decide) ?_
          exact ret_i hC hr hlk hP dX4_cell_22 () (⟨Option.some.inj h, rfl⟩) rfl
set_option maxHeartbeats 8000000 in
set_option maxRecDepth 100000 in
theorem c_X4_pierce (l : Launch) (dC : Nat → ClassId) (dI : Nat → Nat → Nat) (cc : Nat → ClassId) (q0 q1 : Nat) (clogs : Int32) (day : Int32) (cells : (Nat → Int32)) (x1 : Int32) (sz : Nat) (o_cells : (Nat → Int32)) (hu : f_X4_pierce x1 clogs cells = some o_cells) : Met l yX4_pierce (mw yX4_pierce cX4_pierce 2 none) ({ frames := 2, cells := 0, slots := 0, locals := 43 } : Room) (va_Pc [.ref q0, .int x1] (mP (dC, dI) (ts cc) sz [(q0, .inr (4, [.ref q1, .int clogs, .int day])), (q1, .inl (cc 0, 50, .inl cells))])) ((fun A => va_Qv (fun (w : (Nat → Int32)) => w = o_cells) (fun (w : (Nat → Int32)) t => va_P (dC, dI) classes [(q0, .inr (4, [.ref q1, .int clogs, .int day])), (q1, .inl (cc 0, 50, .inl w))] t.heap) A) (va_A [(q0, .inr (4, [.ref q1, .int clogs, .int day])), (q1, .inl (cc 0, 50, .inl cells))] sz)) 0 0 (va_A [(q0, .inr (4, [.ref q1, .int clogs, .int day])), (q1, .inl (cc 0, 50, .inl cells))] sz) := by
  refine met_go (Qc := fun A => va_Qv (fun (w : (Nat → Int32)) => w = o_cells) (fun (w : (Nat → Int32)) t => va_P (dC, dI) classes [(q0, .inr (4, [.ref q1, .int clogs, .int day])), (q1, .inl (cc 0, 50, .inl w))] t.heap) A) (by decide) (Nat.le_of_ble_eq_true rfl) ?_
  intro p e s m below meth c A ls H locs hC hr hlk hin hA hP hl _
  have hC : CX p m c cX4_pierce 2 s ([.ref q0, .int x1] : List Value).toArray RX4 (dC, dI) (ts cc) := hC
  have hx := hC.1.1
  have hb := hC.1.2
  have h := hu
  have hu0 := hu
  unfold f_X4_pierce at h
  have hl : lv_has ls 2 [(0, .ref q0), (1, .int x1)] := hl
  refine lv_aload_n hx hb dX4_pierce_0 rfl (lv_at hl 0 rfl) ?_
  refine lv_iload_n hx hb dX4_pierce_1 rfl (lv_at hl 1 rfl) ?_
  obtain ⟨r1, hu, h⟩ := bnd_h h
  refine kc_z (kV hC (c_X4_holds l dC dI cc q0 q1 clogs day x1 H.size r1 hu) cv_X4_30 kw454 rfl rfl ⟨(Nat.le_of_ble_eq_true rfl), (Nat.le_of_ble_eq_true rfl)⟩ hP [0] rfl rfl rfl (q0 := 0) rfl (As := [.int x1]) (rest := []) rfl rfl hl.1 (Nat.le_of_ble_eq_true rfl) dX4_pierce_2 ⟨Nat.zero_le _, Nat.zero_le _⟩) hP hA [0] rfl rfl (fun hz_r1 H locs hP => ?_)
  have hP : PD (dC, dI) A s.heap [(q0, .inr (4, [.ref q1, .int clogs, .int day])), (q1, .inl (cc 0, 50, .inl cells))] H locs := hP
  refine lv_if_eq (tgt := 21) hx hb dX4_pierce_5 (by decide) (fun c2 => ?_) (fun c2 => ?_)
  · have h := if_t c2 h
    exact ret_v hC hr hlk hP dX4_pierce_21 cells (Option.some.inj h) rfl
  · have h := if_f c2 h
    refine lv_aload_n hx hb dX4_pierce_8 rfl (lv_at hl 0 rfl) ?_
    refine g_get hC hP fg_X4_9 0 rfl rfl dX4_pierce_9 ?_
    refine lv_iload_n hx hb dX4_pierce_12 rfl (lv_at hl 1 rfl) ?_
    refine lv_iconst (v := 5) hx hb dX4_pierce_13 (by decide) ?_
    refine lv_imul hx hb dX4_pierce_14 ?_
    refine lv_iconst (v := 0) hx hb dX4_pierce_15 (by decide) ?_
    refine lv_iadd hx hb dX4_pierce_16 ?_
    refine lv_iconst (v := 2) hx hb dX4_pierce_17 (by decide) ?_
    obtain ⟨w3, hu, h⟩ := bnd_h h
    refine kc_v (kN hC (c_X9_put l dC dI cc q1 50 cells ((x1 * 5) + 0) 2 H.size w3 hu) cn_X4_34 kw320 rfl rfl ⟨(Nat.le_of_ble_eq_true rfl), (Nat.le_of_ble_eq_true rfl)⟩ hP [1] rfl rfl (As := [.ref q1, .int ((x1 * 5) + 0), .int 2]) (rest := []) rfl rfl hl.1 (Nat.le_of_ble_eq_true rfl) dX4_pierce_18 ⟨Nat.zero_le _, Nat.zero_le _⟩) hP hA [1] rfl rfl (fun H locs hP => ?_)
    have hP : PD (dC, dI) A s.heap [(q0, .inr (4, [.ref q1, .int clogs, .int day])), (q1, .inl (cc 0, 50, .inl w3))] H locs := hP
    exact ret_v hC hr hlk hP dX4_pierce_21 w3 (Option.some.inj h) rfl
set_option maxHeartbeats 8000000 in
set_option maxRecDepth 100000 in
theorem c_X4_isOfSide (l : Launch) (dC : Nat → ClassId) (dI : Nat → Nat → Nat) (cc : Nat → ClassId) (q0 q1 : Nat) (clogs : Int32) (day : Int32) (cells : (Nat → Int32)) (x1 : Int32) (x2 : Int32) (sz : Nat) (ret : Int32) (hu : f_X4_isOfSide x1 x2 clogs cells = some ret) : Met l yX4_isOfSide (mw yX4_isOfSide cX4_isOfSide 3 (some .boolean)) ({ frames := 2, cells := 0, slots := 0, locals := 43 } : Room) (va_Pc [.ref q0, .int x1, .int x2] (mP (dC, dI) (ts cc) sz [(q0, .inr (4, [.ref q1, .int clogs, .int day])), (q1, .inl (cc 0, 50, .inl cells))])) ((fun A => va_Qi (fun (r : Int32) (w : Unit) => narrow .boolean (.int r) = .int r ∧ (r = ret ∧ w = ())) (fun (w : Unit) t => va_P (dC, dI) classes [(q0, .inr (4, [.ref q1, .int clogs, .int day])), (q1, .inl (cc 0, 50, .inl cells))] t.heap) A) (va_A [(q0, .inr (4, [.ref q1, .int clogs, .int day])), (q1, .inl (cc 0, 50, .inl cells))] sz)) 0 0 (va_A [(q0, .inr (4, [.ref q1, .int clogs, .int day])), (q1, .inl (cc 0, 50, .inl cells))] sz) := by
  refine met_go (Qc := fun A => va_Qi (fun (r : Int32) (w : Unit) => narrow .boolean (.int r) = .int r ∧ (r = ret ∧ w = ())) (fun (w : Unit) t => va_P (dC, dI) classes [(q0, .inr (4, [.ref q1, .int clogs, .int day])), (q1, .inl (cc 0, 50, .inl cells))] t.heap) A) (by decide) (Nat.le_of_ble_eq_true rfl) ?_
  intro p e s m below meth c A ls H locs hC hr hlk hin hA hP hl _
  have hC : CX p m c cX4_isOfSide 3 s ([.ref q0, .int x1, .int x2] : List Value).toArray RX4 (dC, dI) (ts cc) := hC
  have hx := hC.1.1
  have hb := hC.1.2
  have h := hu
  have hu0 := hu
  unfold f_X4_isOfSide at h
  have hl : lv_has ls 3 [(0, .ref q0), (1, .int x1), (2, .int x2)] := hl
  refine lv_aload_n hx hb dX4_isOfSide_0 rfl (lv_at hl 0 rfl) ?_
  refine lv_iload_n hx hb dX4_isOfSide_1 rfl (lv_at hl 1 rfl) ?_
  obtain ⟨r1, hu, h⟩ := bnd_h h
  refine kc_z (kV hC (c_X4_holds l dC dI cc q0 q1 clogs day x1 H.size r1 hu) cv_X4_30 kw454 rfl rfl ⟨(Nat.le_of_ble_eq_true rfl), (Nat.le_of_ble_eq_true rfl)⟩ hP [0] rfl rfl rfl (q0 := 0) rfl (As := [.int x1]) (rest := []) rfl rfl hl.1 (Nat.le_of_ble_eq_true rfl) dX4_isOfSide_2 ⟨Nat.zero_le _, Nat.zero_le _⟩) hP hA [0] rfl rfl (fun hz_r1 H locs hP => ?_)
  have hP : PD (dC, dI) A s.heap [(q0, .inr (4, [.ref q1, .int clogs, .int day])), (q1, .inl (cc 0, 50, .inl cells))] H locs := hP
  refine lv_if_eq (tgt := 22) hx hb dX4_isOfSide_5 (by decide) (fun c2 => ?_) (fun c2 => ?_)
  · have h := if_t c2 h
    refine lv_iconst (v := 0) hx hb dX4_isOfSide_22 (by decide) ?_
    exact ret_z hC hr rfl hlk hP dX4_isOfSide_23 () (⟨Option.some.inj h, rfl⟩) rfl
  · have h := if_f c2 h
    refine lv_aload_n hx hb dX4_isOfSide_8 rfl (lv_at hl 0 rfl) ?_
    refine lv_iload_n hx hb dX4_isOfSide_9 rfl (lv_at hl 1 rfl) ?_
    refine lv_iconst (v := 1) hx hb dX4_isOfSide_10 (by decide) ?_
    obtain ⟨r3, hu, h⟩ := bnd_h h
    refine kc_i (kV hC (c_X4_cell l dC dI cc q0 q1 clogs day cells x1 1 H.size r3 hu) cv_X4_38 kw463 rfl rfl ⟨(Nat.le_of_ble_eq_true rfl), (Nat.le_of_ble_eq_true rfl)⟩ hP [0, 1] rfl rfl rfl (q0 := 0) rfl (As := [.int x1, .int 1]) (rest := []) rfl rfl hl.1 (Nat.le_of_ble_eq_true rfl) dX4_isOfSide_11 ⟨Nat.zero_le _, Nat.zero_le _⟩) hP hA [0, 1] rfl rfl (fun H locs hP => ?_)
    have hP : PD (dC, dI) A s.heap [(q0, .inr (4, [.ref q1, .int clogs, .int day])), (q1, .inl (cc 0, 50, .inl cells))] H locs := hP
    refine lv_iload_n hx hb dX4_isOfSide_14 rfl (lv_at hl 2 rfl) ?_
    refine lv_icmp_ne (tgt := 22) hx hb dX4_isOfSide_15 (by decide) (fun c4 => ?_) (fun c4 => ?_)
    · have h := if_f c4 h
      refine lv_iconst (v := 0) hx hb dX4_isOfSide_22 (by decide) ?_
      exact ret_z hC hr rfl hlk hP dX4_isOfSide_23 () (⟨Option.some.inj h, rfl⟩) rfl
    · have h := if_t c4 h
      refine lv_iconst (v := 1) hx hb dX4_isOfSide_18 (by decide) ?_
      refine lv_goto (tgt := 23) hx hb dX4_isOfSide_19 (by decide) ?_
      exact ret_z hC hr rfl hlk hP dX4_isOfSide_23 () (⟨Option.some.inj h, rfl⟩) rfl
set_option maxHeartbeats 8000000 in
set_option maxRecDepth 100000 in
theorem c_X4_ofSide (l : Launch) (dC : Nat → ClassId) (dI : Nat → Nat → Nat) (cc : Nat → ClassId) (q0 q1 : Nat) (clogs : Int32) (day : Int32) (cells : (Nat → Int32)) (x1 : Int32) (sz : Nat) (ret : Int32) (hu : f_X4_ofSide x1 clogs cells = some ret) : Met l yX4_ofSide (mw yX4_ofSide cX4_ofSide 4 (some .int)) ({ frames := 3, cells := 0, slots := 0, locals := 65 } : Room) (va_Pc [.ref q0, .int x1] (mP (dC, dI) (ts cc) sz [(q0, .inr (4, [.ref q1, .int clogs, .int day])), (q1, .inl (cc 0, 50, .inl cells))])) ((fun A => va_Qi (fun (r : Int32) (w : Unit) => r = ret ∧ w = ()) (fun (w : Unit) t => va_P (dC, dI) classes [(q0, .inr (4, [.ref q1, .int clogs, .int day])), (q1, .inl (cc 0, 50, .inl cells))] t.heap) A) (va_A [(q0, .inr (4, [.ref q1, .int clogs, .int day])), (q1, .inl (cc 0, 50, .inl cells))] sz)) 0 0 (va_A [(q0, .inr (4, [.ref q1, .int clogs, .int day])), (q1, .inl (cc 0, 50, .inl cells))] sz) := by
  refine met_go (Qc := fun A => va_Qi (fun (r : Int32) (w : Unit) => r = ret ∧ w = ()) (fun (w : Unit) t => va_P (dC, dI) classes [(q0, .inr (4, [.ref q1, .int clogs, .int day])), (q1, .inl (cc 0, 50, .inl cells))] t.heap) A) (by decide) (Nat.le_of_ble_eq_true rfl) ?_
  intro p e s m below meth c A ls H locs hC hr hlk hin hA hP hl _
  have hC : CX p m c cX4_ofSide 4 s ([.ref q0, .int x1] : List Value).toArray RX4 (dC, dI) (ts cc) := hC
  have hx := hC.1.1
  have hb := hC.1.2
  have h := hu
  have hu0 := hu
  unfold f_X4_ofSide at h
  have hl : lv_has ls 4 [(0, .ref q0), (1, .int x1)] := hl
  refine W_abs (fun Z eZ => ?_)
  refine lv_iconst (v := 0) hx hb dX4_ofSide_0 (by decide) ?_
  refine lv_istore_n (lv' := [(2, .int 0), (0, .ref q0), (1, .int x1)]) hx hb dX4_ofSide_1 rfl hl (by decide) rfl (fun ls hl => ?_)
  refine lv_iconst (v := 0) hx hb dX4_ofSide_2 (by decide) ?_
  refine lv_istore_n (lv' := [(3, .int 0), (2, .int 0), (0, .ref q0), (1, .int x1)]) hx hb dX4_ofSide_3 rfl hl (by decide) rfl (fun ls hl => ?_)
  obtain ⟨⟨j1x, j2x⟩, hlp, h⟩ := bnd_h h
  have L1 : ∀ (n : Nat) (j1 : Int32) (j2 : Int32) (j1x : Int32) (j2x : Int32), lp (u2 (b_X4_ofSide_1 cells clogs x1)) n (j1, j2) = some (j1x, j2x) → ∀ (H : Heap) (locs : List Loc) (ls : Array Slot), PD (dC, dI) A s.heap [(q0, .inr (4, [.ref q1, .int clogs, .int day])), (q1, .inl (cc 0, 50, .inl cells))] H locs → lv_has ls 4 [(0, .ref q0), (1, .int x1), (2, .int j1), (3, .int j2)] → (∀ (H : Heap) (locs : List Loc) (ls : Array Slot), PD (dC, dI) A s.heap [(q0, .inr (4, [.ref q1, .int clogs, .int day])), (q1, .inl (cc 0, 50, .inl cells))] H locs → lv_has ls 4 [(0, .ref q0), (1, .int x1), (2, .int j1x), (3, .int j2x)] → W p l e ({ frames := 3, cells := 0, slots := 0, locals := 65 } : Room) s m ([.ref q0, .int x1] : List Value).toArray below meth c H locs 0 0 Z (F0 m 33 ls [])) → W p l e ({ frames := 3, cells := 0, slots := 0, locals := 65 } : Room) s m ([.ref q0, .int x1] : List Value).toArray below meth c H locs 0 0 Z (F0 m 4 ls []) := by
    intro n
    induction n with
    | zero => intro j1 j2 j1x j2x h; exact (lp_0 h).elim
    | succ n ih =>
      intro j1 j2 j1x j2x h H locs ls hP hl KK
      obtain ⟨y, h, hz⟩ := lp_h h
      refine lv_iload_n hx hb dX4_ofSide_4 rfl (lv_at hl 3 rfl) ?_
      refine lv_aload_n hx hb dX4_ofSide_5 rfl (lv_at hl 0 rfl) ?_
      refine g_get hC hP fg_X4_15 0 rfl rfl dX4_ofSide_6 ?_
      refine lv_icmp_ge (tgt := 33) hx hb dX4_ofSide_9 (by decide) (fun c3 => ?_) (fun c3 => ?_)
      · have h := if_t c3 h
        cases lp_e h hz
        exact KK H locs ls hP (lv_sub hl [0, 1, 2, 3] rfl)
      · have h := if_f c3 h
        refine lv_aload_n hx hb dX4_ofSide_12 rfl (lv_at hl 0 rfl) ?_
        refine lv_iload_n hx hb dX4_ofSide_13 rfl (lv_at hl 3 rfl) ?_
        refine lv_iload_n hx hb dX4_ofSide_14 rfl (lv_at hl 1 rfl) ?_
        obtain ⟨r4, hu, h⟩ := bnd_h h
        refine kc_z (kV hC (c_X4_isOfSide l dC dI cc q0 q1 clogs day cells j2 x1 H.size r4 hu) cv_X4_42 kw518 rfl rfl ⟨(Nat.le_of_ble_eq_true rfl), (Nat.le_of_ble_eq_true rfl)⟩ hP [0, 1] rfl rfl rfl (q0 := 0) rfl (As := [.int j2, .int x1]) (rest := []) rfl rfl hl.1 (Nat.le_of_ble_eq_true rfl) dX4_ofSide_15 ⟨Nat.zero_le _, Nat.zero_le _⟩) hP hA [0, 1] rfl rfl (fun hz_r4 H locs hP => ?_)
        have hP : PD (dC, dI) A s.heap [(q0, .inr (4, [.ref q1, .int clogs, .int day])), (q1, .inl (cc 0, 50, .inl cells))] H locs := hP
        refine lv_if_eq (tgt := 27) hx hb dX4_ofSide_18 (by decide) (fun c5 => ?_) (fun c5 => ?_)
        · have h := if_t c5 h
          refine lv_iinc (v := (j2 + 1)) (lv' := [(3, .int (j2 + 1)), (0, .ref q0), (1, .int x1), (2, .int j1)]) hx hb dX4_ofSide_27 hl (k := 3) rfl rfl (by decide) rfl (fun ls hl => ?_)
          refine lv_goto (tgt := 4) hx hb dX4_ofSide_30 (by decide) ?_
          exact ih _ _ _ _ (lp_n h hz) H locs ls hP (lv_sub hl [1, 2, 3, 0] rfl) KK
        · have h := if_f c5 h
          refine lv_iload_n hx hb dX4_ofSide_21 rfl (lv_at hl 2 rfl) ?_
          refine lv_iconst (v := 1) hx hb dX4_ofSide_22 (by decide) ?_
          refine lv_iload_n hx hb dX4_ofSide_23 rfl (lv_at hl 3 rfl) ?_
          refine lv_ishl hx hb dX4_ofSide_24 ?_
          refine lv_ior hx hb dX4_ofSide_25 ?_
          refine lv_istore_n (lv' := [(2, .int (j1 ||| (1 <<< (j2 &&& 31)))), (0, .ref q0), (1, .int x1), (3, .int j2)]) hx hb dX4_ofSide_26 rfl hl (by decide) rfl (fun ls hl => ?_)
          refine lv_iinc (v := (j2 + 1)) (lv' := [(3, .int (j2 + 1)), (2, .int (j1 ||| (1 <<< (j2 &&& 31)))), (0, .ref q0), (1, .int x1)]) hx hb dX4_ofSide_27 hl (k := 3) rfl rfl (by decide) rfl (fun ls hl => ?_)
          refine lv_goto (tgt := 4) hx hb dX4_ofSide_30 (by decide) ?_
          exact ih _ _ _ _ (lp_n h hz) H locs ls hP (lv_sub hl [2, 3, 1, 0] rfl) KK
  refine L1 FU _ _ j1x j2x hlp H locs ls hP (lv_sub hl [2, 3, 1, 0] rfl) (fun H locs ls hP hl => ?_)
  refine lv_iload_n hx hb dX4_ofSide_33 rfl (lv_at hl 2 rfl) ?_
  rw [eZ]
  exact ret_i hC hr hlk hP dX4_ofSide_34 () (⟨Option.some.inj h, rfl⟩) rfl
set_option maxHeartbeats 8000000 in
set_option maxRecDepth 100000 in
theorem c_X4_holedOnes (l : Launch) (dC : Nat → ClassId) (dI : Nat → Nat → Nat) (cc : Nat → ClassId) (q0 q1 : Nat) (clogs : Int32) (day : Int32) (cells : (Nat → Int32)) (sz : Nat) (ret : Int32) (hu : f_X4_holedOnes clogs cells = some ret) : Met l yX4_holedOnes (mw yX4_holedOnes cX4_holedOnes 3 (some .int)) ({ frames := 1, cells := 0, slots := 0, locals := 23 } : Room) (va_Pc [.ref q0] (mP (dC, dI) (ts cc) sz [(q0, .inr (4, [.ref q1, .int clogs, .int day])), (q1, .inl (cc 0, 50, .inl cells))])) ((fun A => va_Qi (fun (r : Int32) (w : Unit) => r = ret ∧ w = ()) (fun (w : Unit) t => va_P (dC, dI) classes [(q0, .inr (4, [.ref q1, .int clogs, .int day])), (q1, .inl (cc 0, 50, .inl cells))] t.heap) A) (va_A [(q0, .inr (4, [.ref q1, .int clogs, .int day])), (q1, .inl (cc 0, 50, .inl cells))] sz)) 0 0 (va_A [(q0, .inr (4, [.ref q1, .int clogs, .int day])), (q1, .inl (cc 0, 50, .inl cells))] sz) := by
  refine met_go (Qc := fun A => va_Qi (fun (r : Int32) (w : Unit) => r = ret ∧ w = ()) (fun (w : Unit) t => va_P (dC, dI) classes [(q0, .inr (4, [.ref q1, .int clogs, .int day])), (q1, .inl (cc 0, 50, .inl cells))] t.heap) A) (by decide) (Nat.le_of_ble_eq_true rfl) ?_
  intro p e s m below meth c A ls H locs hC hr hlk hin hA hP hl _
  have hC : CX p m c cX4_holedOnes 3 s ([.ref q0] : List Value).toArray RX4 (dC, dI) (ts cc) := hC
  have hx := hC.1.1
  have hb := hC.1.2
  have h := hu
  have hu0 := hu
  unfold f_X4_holedOnes at h
  have hl : lv_has ls 3 [(0, .ref q0)] := hl
  refine W_abs (fun Z eZ => ?_)
  refine lv_iconst (v := 0) hx hb dX4_holedOnes_0 (by decide) ?_
  refine lv_istore_n (lv' := [(1, .int 0), (0, .ref q0)]) hx hb dX4_holedOnes_1 rfl hl (by decide) rfl (fun ls hl => ?_)
  refine lv_iconst (v := 0) hx hb dX4_holedOnes_2 (by decide) ?_
  refine lv_istore_n (lv' := [(2, .int 0), (1, .int 0), (0, .ref q0)]) hx hb dX4_holedOnes_3 rfl hl (by decide) rfl (fun ls hl => ?_)
  obtain ⟨⟨j1x, j2x⟩, hlp, h⟩ := bnd_h h
  have L1 : ∀ (n : Nat) (j1 : Int32) (j2 : Int32) (j1x : Int32) (j2x : Int32), lp (u2 (b_X4_holedOnes_1 cells clogs)) n (j1, j2) = some (j1x, j2x) → ∀ (H : Heap) (locs : List Loc) (ls : Array Slot), PD (dC, dI) A s.heap [(q0, .inr (4, [.ref q1, .int clogs, .int day])), (q1, .inl (cc 0, 50, .inl cells))] H locs → lv_has ls 3 [(0, .ref q0), (1, .int j1), (2, .int j2)] → (∀ (H : Heap) (locs : List Loc) (ls : Array Slot), PD (dC, dI) A s.heap [(q0, .inr (4, [.ref q1, .int clogs, .int day])), (q1, .inl (cc 0, 50, .inl cells))] H locs → lv_has ls 3 [(0, .ref q0), (1, .int j1x), (2, .int j2x)] → W p l e ({ frames := 1, cells := 0, slots := 0, locals := 23 } : Room) s m ([.ref q0] : List Value).toArray below meth c H locs 0 0 Z (F0 m 31 ls [])) → W p l e ({ frames := 1, cells := 0, slots := 0, locals := 23 } : Room) s m ([.ref q0] : List Value).toArray below meth c H locs 0 0 Z (F0 m 4 ls []) := by
    intro n
    induction n with
    | zero => intro j1 j2 j1x j2x h; exact (lp_0 h).elim
    | succ n ih =>
      intro j1 j2 j1x j2x h H locs ls hP hl KK
      obtain ⟨y, h, hz⟩ := lp_h h
      refine lv_iload_n hx hb dX4_holedOnes_4 rfl (lv_at hl 2 rfl) ?_
      refine lv_aload_n hx hb dX4_holedOnes_5 rfl (lv_at hl 0 rfl) ?_
      refine g_get hC hP fg_X4_15 0 rfl rfl dX4_holedOnes_6 ?_
      refine lv_icmp_ge (tgt := 31) hx hb dX4_holedOnes_9 (by decide) (fun c3 => ?_) (fun c3 => ?_)
      · have h := if_t c3 h
        cases lp_e h hz
        exact KK H locs ls hP (lv_sub hl [0, 1, 2] rfl)
      · have h := if_f c3 h
        refine lv_aload_n hx hb dX4_holedOnes_12 rfl (lv_at hl 0 rfl) ?_
        refine lv_iload_n hx hb dX4_holedOnes_13 rfl (lv_at hl 2 rfl) ?_
        refine lv_iconst (v := 0) hx hb dX4_holedOnes_14 (by decide) ?_
        obtain ⟨r4, hu, h⟩ := bnd_h h
        refine kc_i (kV hC (c_X4_cell l dC dI cc q0 q1 clogs day cells j2 0 H.size r4 hu) cv_X4_38 kw463 rfl rfl ⟨(Nat.le_of_ble_eq_true rfl), (Nat.le_of_ble_eq_true rfl)⟩ hP [0, 1] rfl rfl rfl (q0 := 0) rfl (As := [.int j2, .int 0]) (rest := []) rfl rfl hl.1 (Nat.le_of_ble_eq_true rfl) dX4_holedOnes_15 ⟨Nat.zero_le _, Nat.zero_le _⟩) hP hA [0, 1] rfl rfl (fun H locs hP => ?_)
        have hP : PD (dC, dI) A s.heap [(q0, .inr (4, [.ref q1, .int clogs, .int day])), (q1, .inl (cc 0, 50, .inl cells))] H locs := hP
        refine lv_iconst (v := 2) hx hb dX4_holedOnes_18 (by decide) ?_
        refine lv_icmp_ne (tgt := 25) hx hb dX4_holedOnes_19 (by decide) (fun c5 => ?_) (fun c5 => ?_)
        · have h := if_f c5 h
          refine lv_iinc (v := (j2 + 1)) (lv' := [(2, .int (j2 + 1)), (0, .ref q0), (1, .int j1)]) hx hb dX4_holedOnes_25 hl (k := 2) rfl rfl (by decide) rfl (fun ls hl => ?_)
          refine lv_goto (tgt := 4) hx hb dX4_holedOnes_28 (by decide) ?_
          exact ih _ _ _ _ (lp_n h hz) H locs ls hP (lv_sub hl [1, 2, 0] rfl) KK
        · have h := if_t c5 h
          refine lv_iinc (v := (j1 + 1)) (lv' := [(1, .int (j1 + 1)), (0, .ref q0), (2, .int j2)]) hx hb dX4_holedOnes_22 hl (k := 1) rfl rfl (by decide) rfl (fun ls hl => ?_)
          refine lv_iinc (v := (j2 + 1)) (lv' := [(2, .int (j2 + 1)), (1, .int (j1 + 1)), (0, .ref q0)]) hx hb dX4_holedOnes_25 hl (k := 2) rfl rfl (by decide) rfl (fun ls hl => ?_)
          refine lv_goto (tgt := 4) hx hb dX4_holedOnes_28 (by decide) ?_
          exact ih _ _ _ _ (lp_n h hz) H locs ls hP (lv_sub hl [2, 1, 0] rfl) KK
  refine L1 FU _ _ j1x j2x hlp H locs ls hP (lv_sub hl [2, 1, 0] rfl) (fun H locs ls hP hl => ?_)
  refine lv_iload_n hx hb dX4_holedOnes_31 rfl (lv_at hl 1 rfl) ?_
  rw [eZ]
  exact ret_i hC hr hlk hP dX4_holedOnes_32 () (⟨Option.some.inj h, rfl⟩) rfl
set_option maxHeartbeats 8000000 in
set_option maxRecDepth 100000 in
theorem c_X4_add (l : Launch) (dC : Nat → ClassId) (dI : Nat → Nat → Nat) (cc : Nat → ClassId) (q0 q1 : Nat) (clogs : Int32) (day : Int32) (cells : (Nat → Int32)) (x1 : Int32) (x2 : Int32) (x3 : Int32) (x4 : Int32) (sz : Nat) (o_cells : (Nat → Int32)) (o_clogs : Int32) (hu : f_X4_add x1 x2 x3 x4 clogs day cells = some (o_cells, o_clogs)) : Met l yX4_add (mw yX4_add cX4_add 6 none) ({ frames := 1, cells := 0, slots := 0, locals := 22 } : Room) (va_Pc [.ref q0, .int x1, .int x2, .int x3, .int x4] (mP (dC, dI) (ts cc) sz [(q0, .inr (4, [.ref q1, .int clogs, .int day])), (q1, .inl (cc 0, 50, .inl cells))])) ((fun A => va_Qv (fun (w : (Nat → Int32) × Int32) => w = (o_cells, o_clogs)) (fun (w : (Nat → Int32) × Int32) t => va_P (dC, dI) classes [(q0, .inr (4, [.ref q1, .int w.2, .int day])), (q1, .inl (cc 0, 50, .inl w.1))] t.heap) A) (va_A [(q0, .inr (4, [.ref q1, .int clogs, .int day])), (q1, .inl (cc 0, 50, .inl cells))] sz)) 0 0 (va_A [(q0, .inr (4, [.ref q1, .int clogs, .int day])), (q1, .inl (cc 0, 50, .inl cells))] sz) := by
  refine met_go (Qc := fun A => va_Qv (fun (w : (Nat → Int32) × Int32) => w = (o_cells, o_clogs)) (fun (w : (Nat → Int32) × Int32) t => va_P (dC, dI) classes [(q0, .inr (4, [.ref q1, .int w.2, .int day])), (q1, .inl (cc 0, 50, .inl w.1))] t.heap) A) (by decide) (Nat.le_of_ble_eq_true rfl) ?_
  intro p e s m below meth c A ls H locs hC hr hlk hin hA hP hl _
  have hC : CX p m c cX4_add 6 s ([.ref q0, .int x1, .int x2, .int x3, .int x4] : List Value).toArray RX4 (dC, dI) (ts cc) := hC
  have hx := hC.1.1
  have hb := hC.1.2
  have h := hu
  have hu0 := hu
  unfold f_X4_add at h
  have hl : lv_has ls 6 [(0, .ref q0), (1, .int x1), (2, .int x2), (3, .int x3), (4, .int x4)] := hl
  refine lv_aload_n hx hb dX4_add_0 rfl (lv_at hl 0 rfl) ?_
  refine g_get hC hP fg_X4_15 0 rfl rfl dX4_add_1 ?_
  refine lv_bipush (v := 10) hx hb dX4_add_4 (by decide) ?_
  refine lv_icmp_ge (tgt := 91) hx hb dX4_add_6 (by decide) (fun c1 => ?_) (fun c1 => ?_)
  · have h := if_t c1 h
    exact ret_v hC hr hlk hP dX4_add_91 (cells, clogs) (Option.some.inj h) rfl
  · have h := if_f c1 h
    refine lv_aload_n hx hb dX4_add_9 rfl (lv_at hl 0 rfl) ?_
    refine g_get hC hP fg_X4_15 0 rfl rfl dX4_add_10 ?_
    refine lv_iconst (v := 5) hx hb dX4_add_13 (by decide) ?_
    refine lv_imul hx hb dX4_add_14 ?_
    refine lv_istore (lv' := [(5, .int (clogs * 5)), (0, .ref q0), (1, .int x1), (2, .int x2), (3, .int x3), (4, .int x4)]) hx hb dX4_add_15 hl (by decide) rfl (fun ls hl => ?_)
    refine lv_aload_n hx hb dX4_add_17 rfl (lv_at hl 1 rfl) ?_
    refine g_get hC hP fg_X4_9 0 rfl rfl dX4_add_18 ?_
    refine lv_iload hx hb dX4_add_21 (lv_at hl 0 rfl) ?_
    refine lv_iconst (v := 0) hx hb dX4_add_23 (by decide) ?_
    refine lv_iadd hx hb dX4_add_24 ?_
    refine lv_iload_n hx hb dX4_add_25 rfl (lv_at hl 2 rfl) ?_
    obtain ⟨w2, hu, h⟩ := bnd_h h
    refine kc_v (kN hC (c_X9_put l dC dI cc q1 50 cells ((clogs * 5) + 0) x1 H.size w2 hu) cn_X4_34 kw320 rfl rfl ⟨(Nat.le_of_ble_eq_true rfl), (Nat.le_of_ble_eq_true rfl)⟩ hP [1] rfl rfl (As := [.ref q1, .int ((clogs * 5) + 0), .int x1]) (rest := []) rfl rfl hl.1 (Nat.le_of_ble_eq_true rfl) dX4_add_26 ⟨Nat.zero_le _, Nat.zero_le _⟩) hP hA [1] rfl rfl (fun H locs hP => ?_)
    have hP : PD (dC, dI) A s.heap [(q0, .inr (4, [.ref q1, .int clogs, .int day])), (q1, .inl (cc 0, 50, .inl w2))] H locs := hP
    refine lv_aload_n hx hb dX4_add_29 rfl (lv_at hl 1 rfl) ?_
    refine g_get hC hP fg_X4_9 0 rfl rfl dX4_add_30 ?_
    refine lv_iload hx hb dX4_add_33 (lv_at hl 0 rfl) ?_
    refine lv_iconst (v := 1) hx hb dX4_add_35 (by decide) ?_
    refine lv_iadd hx hb dX4_add_36 ?_
    refine lv_iload_n hx hb dX4_add_37 rfl (lv_at hl 3 rfl) ?_
    obtain ⟨w3, hu, h⟩ := bnd_h h
    refine kc_v (kN hC (c_X9_put l dC dI cc q1 50 w2 ((clogs * 5) + 1) x2 H.size w3 hu) cn_X4_34 kw320 rfl rfl ⟨(Nat.le_of_ble_eq_true rfl), (Nat.le_of_ble_eq_true rfl)⟩ hP [1] rfl rfl (As := [.ref q1, .int ((clogs * 5) + 1), .int x2]) (rest := []) rfl rfl hl.1 (Nat.le_of_ble_eq_true rfl) dX4_add_38 ⟨Nat.zero_le _, Nat.zero_le _⟩) hP hA [1] rfl rfl (fun H locs hP => ?_)
    have hP : PD (dC, dI) A s.heap [(q0, .inr (4, [.ref q1, .int clogs, .int day])), (q1, .inl (cc 0, 50, .inl w3))] H locs := hP
    refine lv_aload_n hx hb dX4_add_41 rfl (lv_at hl 1 rfl) ?_
    refine g_get hC hP fg_X4_9 0 rfl rfl dX4_add_42 ?_
    refine lv_iload hx hb dX4_add_45 (lv_at hl 0 rfl) ?_
    refine lv_iconst (v := 2) hx hb dX4_add_47 (by decide) ?_
    refine lv_iadd hx hb dX4_add_48 ?_
    refine lv_iload_n hx hb dX4_add_49 rfl (lv_at hl 4 rfl) ?_
    obtain ⟨w4, hu, h⟩ := bnd_h h
    refine kc_v (kN hC (c_X9_put l dC dI cc q1 50 w3 ((clogs * 5) + 2) x3 H.size w4 hu) cn_X4_34 kw320 rfl rfl ⟨(Nat.le_of_ble_eq_true rfl), (Nat.le_of_ble_eq_true rfl)⟩ hP [1] rfl rfl (As := [.ref q1, .int ((clogs * 5) + 2), .int x3]) (rest := []) rfl rfl hl.1 (Nat.le_of_ble_eq_true rfl) dX4_add_50 ⟨Nat.zero_le _, Nat.zero_le _⟩) hP hA [1] rfl rfl (fun H locs hP => ?_)
    have hP : PD (dC, dI) A s.heap [(q0, .inr (4, [.ref q1, .int clogs, .int day])), (q1, .inl (cc 0, 50, .inl w4))] H locs := hP
    refine lv_aload_n hx hb dX4_add_53 rfl (lv_at hl 1 rfl) ?_
    refine g_get hC hP fg_X4_9 0 rfl rfl dX4_add_54 ?_
    refine lv_iload hx hb dX4_add_57 (lv_at hl 0 rfl) ?_
    refine lv_iconst (v := 3) hx hb dX4_add_59 (by decide) ?_
    refine lv_iadd hx hb dX4_add_60 ?_
    refine lv_iload hx hb dX4_add_61 (lv_at hl 5 rfl) ?_
    obtain ⟨w5, hu, h⟩ := bnd_h h
    refine kc_v (kN hC (c_X9_put l dC dI cc q1 50 w4 ((clogs * 5) + 3) x4 H.size w5 hu) cn_X4_34 kw320 rfl rfl ⟨(Nat.le_of_ble_eq_true rfl), (Nat.le_of_ble_eq_true rfl)⟩ hP [1] rfl rfl (As := [.ref q1, .int ((clogs * 5) + 3), .int x4]) (rest := []) rfl rfl hl.1 (Nat.le_of_ble_eq_true rfl) dX4_add_63 ⟨Nat.zero_le _, Nat.zero_le _⟩) hP hA [1] rfl rfl (fun H locs hP => ?_)
    have hP : PD (dC, dI) A s.heap [(q0, .inr (4, [.ref q1, .int clogs, .int day])), (q1, .inl (cc 0, 50, .inl w5))] H locs := hP
    refine lv_aload_n hx hb dX4_add_66 rfl (lv_at hl 1 rfl) ?_
    refine g_get hC hP fg_X4_9 0 rfl rfl dX4_add_67 ?_
    refine lv_iload hx hb dX4_add_70 (lv_at hl 0 rfl) ?_
    refine lv_iconst (v := 4) hx hb dX4_add_72 (by decide) ?_
    refine lv_iadd hx hb dX4_add_73 ?_
    refine lv_aload_n hx hb dX4_add_74 rfl (lv_at hl 1 rfl) ?_
    refine g_get hC hP fg_X4_19 0 rfl rfl dX4_add_75 ?_
    obtain ⟨w6, hu, h⟩ := bnd_h h
    refine kc_v (kN hC (c_X9_put l dC dI cc q1 50 w5 ((clogs * 5) + 4) day H.size w6 hu) cn_X4_34 kw320 rfl rfl ⟨(Nat.le_of_ble_eq_true rfl), (Nat.le_of_ble_eq_true rfl)⟩ hP [1] rfl rfl (As := [.ref q1, .int ((clogs * 5) + 4), .int day]) (rest := []) rfl rfl hl.1 (Nat.le_of_ble_eq_true rfl) dX4_add_78 ⟨Nat.zero_le _, Nat.zero_le _⟩) hP hA [1] rfl rfl (fun H locs hP => ?_)
    have hP : PD (dC, dI) A s.heap [(q0, .inr (4, [.ref q1, .int clogs, .int day])), (q1, .inl (cc 0, 50, .inl w6))] H locs := hP
    refine lv_aload_n hx hb dX4_add_81 rfl (lv_at hl 1 rfl) ?_
    refine lv_dup hx hb dX4_add_82 rfl ?_
    refine g_get hC hP fg_X4_15 0 rfl rfl dX4_add_83 ?_
    refine lv_iconst (v := 1) hx hb dX4_add_86 (by decide) ?_
    refine lv_iadd hx hb dX4_add_87 ?_
    refine g_put hC hP fg_X4_15 0 rfl rfl rfl (Nat.le_of_ble_eq_true rfl) dX4_add_88 (fun H locs hP => ?_)
    have hP : PD (dC, dI) A s.heap [(q0, .inr (4, [.ref q1, .int (clogs + 1), .int day])), (q1, .inl (cc 0, 50, .inl w6))] H locs := hP
    exact ret_v hC hr hlk hP dX4_add_91 (w6, (clogs + 1)) (Option.some.inj h) rfl
set_option maxHeartbeats 8000000 in
set_option maxRecDepth 100000 in
theorem c_X4_removeOne (l : Launch) (dC : Nat → ClassId) (dI : Nat → Nat → Nat) (cc : Nat → ClassId) (q0 q1 : Nat) (clogs : Int32) (day : Int32) (cells : (Nat → Int32)) (x1 : Int32) (sz : Nat) (o_cells : (Nat → Int32)) (o_clogs : Int32) (hu : f_X4_removeOne x1 clogs cells = some (o_cells, o_clogs)) : Met l yX4_removeOne (mw yX4_removeOne cX4_removeOne 3 none) ({ frames := 2, cells := 0, slots := 0, locals := 43 } : Room) (va_Pc [.ref q0, .int x1] (mP (dC, dI) (ts cc) sz [(q0, .inr (4, [.ref q1, .int clogs, .int day])), (q1, .inl (cc 0, 50, .inl cells))])) ((fun A => va_Qv (fun (w : (Nat → Int32) × Int32) => w = (o_cells, o_clogs)) (fun (w : (Nat → Int32) × Int32) t => va_P (dC, dI) classes [(q0, .inr (4, [.ref q1, .int w.2, .int day])), (q1, .inl (cc 0, 50, .inl w.1))] t.heap) A) (va_A [(q0, .inr (4, [.ref q1, .int clogs, .int day])), (q1, .inl (cc 0, 50, .inl cells))] sz)) 0 0 (va_A [(q0, .inr (4, [.ref q1, .int clogs, .int day])), (q1, .inl (cc 0, 50, .inl cells))] sz) := by
  refine met_go (Qc := fun A => va_Qv (fun (w : (Nat → Int32) × Int32) => w = (o_cells, o_clogs)) (fun (w : (Nat → Int32) × Int32) t => va_P (dC, dI) classes [(q0, .inr (4, [.ref q1, .int w.2, .int day])), (q1, .inl (cc 0, 50, .inl w.1))] t.heap) A) (by decide) (Nat.le_of_ble_eq_true rfl) ?_
  intro p e s m below meth c A ls H locs hC hr hlk hin hA hP hl _
  have hC : CX p m c cX4_removeOne 3 s ([.ref q0, .int x1] : List Value).toArray RX4 (dC, dI) (ts cc) := hC
  have hx := hC.1.1
  have hb := hC.1.2
  have h := hu
  have hu0 := hu
  unfold f_X4_removeOne at h
  have hl : lv_has ls 3 [(0, .ref q0), (1, .int x1)] := hl
  refine W_abs (fun Z eZ => ?_)
  refine lv_aload_n hx hb dX4_removeOne_0 rfl (lv_at hl 0 rfl) ?_
  refine lv_iload_n hx hb dX4_removeOne_1 rfl (lv_at hl 1 rfl) ?_
  obtain ⟨r1, hu, h⟩ := bnd_h h
  refine kc_z (kV hC (c_X4_holds l dC dI cc q0 q1 clogs day x1 H.size r1 hu) cv_X4_30 kw454 rfl rfl ⟨(Nat.le_of_ble_eq_true rfl), (Nat.le_of_ble_eq_true rfl)⟩ hP [0] rfl rfl rfl (q0 := 0) rfl (As := [.int x1]) (rest := []) rfl rfl hl.1 (Nat.le_of_ble_eq_true rfl) dX4_removeOne_2 ⟨Nat.zero_le _, Nat.zero_le _⟩) hP hA [0] rfl rfl (fun hz_r1 H locs hP => ?_)
  have hP : PD (dC, dI) A s.heap [(q0, .inr (4, [.ref q1, .int clogs, .int day])), (q1, .inl (cc 0, 50, .inl cells))] H locs := hP
  refine lv_if_eq (tgt := 58) hx hb dX4_removeOne_5 (by decide) (fun c2 => ?_) (fun c2 => ?_)
  · have h := if_t c2 h
    rw [eZ]
    exact ret_v hC hr hlk hP dX4_removeOne_58 (cells, clogs) (Option.some.inj h) rfl
  · have h := if_f c2 h
    refine lv_iload_n hx hb dX4_removeOne_8 rfl (lv_at hl 1 rfl) ?_
    refine lv_iconst (v := 5) hx hb dX4_removeOne_9 (by decide) ?_
    refine lv_imul hx hb dX4_removeOne_10 ?_
    refine lv_istore_n (lv' := [(2, .int (x1 * 5)), (0, .ref q0), (1, .int x1)]) hx hb dX4_removeOne_11 rfl hl (by decide) rfl (fun ls hl => ?_)
    obtain ⟨⟨j3x, w4x⟩, hlp, h⟩ := bnd_h h
    have L1 : ∀ (n : Nat) (j3 : Int32) (w4 : (Nat → Int32)) (j3x : Int32) (w4x : (Nat → Int32)), lp (u2 (b_X4_removeOne_1 clogs)) n (j3, w4) = some (j3x, w4x) → ∀ (H : Heap) (locs : List Loc) (ls : Array Slot), PD (dC, dI) A s.heap [(q0, .inr (4, [.ref q1, .int clogs, .int day])), (q1, .inl (cc 0, 50, .inl w4))] H locs → lv_has ls 3 [(0, .ref q0), (2, .int j3)] → (∀ (H : Heap) (locs : List Loc) (ls : Array Slot), PD (dC, dI) A s.heap [(q0, .inr (4, [.ref q1, .int clogs, .int day])), (q1, .inl (cc 0, 50, .inl w4x))] H locs → lv_has ls 3 [(0, .ref q0), (2, .int j3x)] → W p l e ({ frames := 2, cells := 0, slots := 0, locals := 43 } : Room) s m ([.ref q0, .int x1] : List Value).toArray below meth c H locs 0 0 Z (F0 m 48 ls [])) → W p l e ({ frames := 2, cells := 0, slots := 0, locals := 43 } : Room) s m ([.ref q0, .int x1] : List Value).toArray below meth c H locs 0 0 Z (F0 m 12 ls []) := by
      intro n
      induction n with
      | zero => intro j3 w4 j3x w4x h; exact (lp_0 h).elim
      | succ n ih =>
        intro j3 w4 j3x w4x h H locs ls hP hl KK
        obtain ⟨y, h, hz⟩ := lp_h h
        refine lv_iload_n hx hb dX4_removeOne_12 rfl (lv_at hl 1 rfl) ?_
        refine lv_aload_n hx hb dX4_removeOne_13 rfl (lv_at hl 0 rfl) ?_
        refine g_get hC hP fg_X4_15 0 rfl rfl dX4_removeOne_14 ?_
        refine lv_iconst (v := 1) hx hb dX4_removeOne_17 (by decide) ?_
        refine lv_isub hx hb dX4_removeOne_18 ?_
        refine lv_iconst (v := 5) hx hb dX4_removeOne_19 (by decide) ?_
        refine lv_imul hx hb dX4_removeOne_20 ?_
        refine lv_icmp_ge (tgt := 48) hx hb dX4_removeOne_21 (by decide) (fun c5 => ?_) (fun c5 => ?_)
        · have h := if_t c5 h
          cases lp_e h hz
          exact KK H locs ls hP (lv_sub hl [0, 1] rfl)
        · have h := if_f c5 h
          refine lv_aload_n hx hb dX4_removeOne_24 rfl (lv_at hl 0 rfl) ?_
          refine g_get hC hP fg_X4_9 0 rfl rfl dX4_removeOne_25 ?_
          refine lv_iload_n hx hb dX4_removeOne_28 rfl (lv_at hl 1 rfl) ?_
          refine lv_aload_n hx hb dX4_removeOne_29 rfl (lv_at hl 0 rfl) ?_
          refine g_get hC hP fg_X4_9 0 rfl rfl dX4_removeOne_30 ?_
          refine lv_iload_n hx hb dX4_removeOne_33 rfl (lv_at hl 1 rfl) ?_
          refine lv_iconst (v := 5) hx hb dX4_removeOne_34 (by decide) ?_
          refine lv_iadd hx hb dX4_removeOne_35 ?_
          obtain ⟨r6, hu, h⟩ := bnd_h h
          refine kc_i (kN hC (c_X9_at l dC dI cc q1 50 w4 (j3 + 5) H.size r6 hu) cn_X4_58 kw332 rfl rfl ⟨(Nat.le_of_ble_eq_true rfl), (Nat.le_of_ble_eq_true rfl)⟩ hP [1] rfl rfl (As := [.ref q1, .int (j3 + 5)]) (rest := [.int j3, .ref q1]) rfl rfl hl.1 (Nat.le_of_ble_eq_true rfl) dX4_removeOne_36 ⟨Nat.zero_le _, Nat.zero_le _⟩) hP hA [1] rfl rfl (fun H locs hP => ?_)
          have hP : PD (dC, dI) A s.heap [(q0, .inr (4, [.ref q1, .int clogs, .int day])), (q1, .inl (cc 0, 50, .inl w4))] H locs := hP
          obtain ⟨w7, hu, h⟩ := bnd_h h
          refine kc_v (kN hC (c_X9_put l dC dI cc q1 50 w4 j3 r6 H.size w7 hu) cn_X4_34 kw320 rfl rfl ⟨(Nat.le_of_ble_eq_true rfl), (Nat.le_of_ble_eq_true rfl)⟩ hP [1] rfl rfl (As := [.ref q1, .int j3, .int r6]) (rest := []) rfl rfl hl.1 (Nat.le_of_ble_eq_true rfl) dX4_removeOne_39 ⟨Nat.zero_le _, Nat.zero_le _⟩) hP hA [1] rfl rfl (fun H locs hP => ?_)
          have hP : PD (dC, dI) A s.heap [(q0, .inr (4, [.ref q1, .int clogs, .int day])), (q1, .inl (cc 0, 50, .inl w7))] H locs := hP
          refine lv_iinc (v := (j3 + 1)) (lv' := [(2, .int (j3 + 1)), (0, .ref q0)]) hx hb dX4_removeOne_42 hl (k := 1) rfl rfl (by decide) rfl (fun ls hl => ?_)
          refine lv_goto (tgt := 12) hx hb dX4_removeOne_45 (by decide) ?_
          exact ih _ _ _ _ (lp_n h hz) H locs ls hP (lv_sub hl [1, 0] rfl) KK
    refine L1 FU _ _ j3x w4x hlp H locs ls hP (lv_sub hl [1, 0] rfl) (fun H locs ls hP hl => ?_)
    refine lv_aload_n hx hb dX4_removeOne_48 rfl (lv_at hl 0 rfl) ?_
    refine lv_dup hx hb dX4_removeOne_49 rfl ?_
    refine g_get hC hP fg_X4_15 0 rfl rfl dX4_removeOne_50 ?_
    refine lv_iconst (v := 1) hx hb dX4_removeOne_53 (by decide) ?_
    refine lv_isub hx hb dX4_removeOne_54 ?_
    refine g_put hC hP fg_X4_15 0 rfl rfl rfl (Nat.le_of_ble_eq_true rfl) dX4_removeOne_55 (fun H locs hP => ?_)
    have hP : PD (dC, dI) A s.heap [(q0, .inr (4, [.ref q1, .int (clogs - 1), .int day])), (q1, .inl (cc 0, 50, .inl w4x))] H locs := hP
    rw [eZ]
    exact ret_v hC hr hlk hP dX4_removeOne_58 (w4x, (clogs - 1)) (Option.some.inj h) rfl
set_option maxHeartbeats 8000000 in
set_option maxRecDepth 100000 in
theorem c_X4_removeTwo (l : Launch) (dC : Nat → ClassId) (dI : Nat → Nat → Nat) (cc : Nat → ClassId) (q0 q1 : Nat) (clogs : Int32) (day : Int32) (cells : (Nat → Int32)) (x1 : Int32) (x2 : Int32) (sz : Nat) (o_cells : (Nat → Int32)) (o_clogs : Int32) (hu : f_X4_removeTwo x1 x2 clogs cells = some (o_cells, o_clogs)) : Met l yX4_removeTwo (mw yX4_removeTwo cX4_removeTwo 3 none) ({ frames := 3, cells := 0, slots := 0, locals := 65 } : Room) (va_Pc [.ref q0, .int x1, .int x2] (mP (dC, dI) (ts cc) sz [(q0, .inr (4, [.ref q1, .int clogs, .int day])), (q1, .inl (cc 0, 50, .inl cells))])) ((fun A => va_Qv (fun (w : (Nat → Int32) × Int32) => w = (o_cells, o_clogs)) (fun (w : (Nat → Int32) × Int32) t => va_P (dC, dI) classes [(q0, .inr (4, [.ref q1, .int w.2, .int day])), (q1, .inl (cc 0, 50, .inl w.1))] t.heap) A) (va_A [(q0, .inr (4, [.ref q1, .int clogs, .int day])), (q1, .inl (cc 0, 50, .inl cells))] sz)) 0 0 (va_A [(q0, .inr (4, [.ref q1, .int clogs, .int day])), (q1, .inl (cc 0, 50, .inl cells))] sz) := by
  refine met_go (Qc := fun A => va_Qv (fun (w : (Nat → Int32) × Int32) => w = (o_cells, o_clogs)) (fun (w : (Nat → Int32) × Int32) t => va_P (dC, dI) classes [(q0, .inr (4, [.ref q1, .int w.2, .int day])), (q1, .inl (cc 0, 50, .inl w.1))] t.heap) A) (by decide) (Nat.le_of_ble_eq_true rfl) ?_
  intro p e s m below meth c A ls H locs hC hr hlk hin hA hP hl _
  have hC : CX p m c cX4_removeTwo 3 s ([.ref q0, .int x1, .int x2] : List Value).toArray RX4 (dC, dI) (ts cc) := hC
  have hx := hC.1.1
  have hb := hC.1.2
  have h := hu
  have hu0 := hu
  unfold f_X4_removeTwo at h
  have hl : lv_has ls 3 [(0, .ref q0), (1, .int x1), (2, .int x2)] := hl
  refine lv_aload_n hx hb dX4_removeTwo_0 rfl (lv_at hl 0 rfl) ?_
  refine lv_iload_n hx hb dX4_removeTwo_1 rfl (lv_at hl 1 rfl) ?_
  refine lv_iload_n hx hb dX4_removeTwo_2 rfl (lv_at hl 2 rfl) ?_
  refine g_max hC hl.1 mh_X4_46 (Nat.le_of_ble_eq_true rfl) (Nat.le_of_ble_eq_true rfl) (Nat.zero_le _) (Nat.zero_le _) dX4_removeTwo_3 ?_
  refine lv_topi (fun v1 ev => ?_)
  have h := nm_h ev h
  obtain ⟨⟨w2, w3⟩, hu, h⟩ := bnd_h h
  refine kc_v (kV hC (c_X4_removeOne l dC dI cc q0 q1 clogs day cells v1 H.size w2 w3 hu) cv_X4_51 kw532 rfl rfl ⟨(Nat.le_of_ble_eq_true rfl), (Nat.le_of_ble_eq_true rfl)⟩ hP [0, 1] rfl rfl rfl (q0 := 0) rfl (As := [.int v1]) (rest := []) rfl rfl hl.1 (Nat.le_of_ble_eq_true rfl) dX4_removeTwo_6 ⟨Nat.zero_le _, Nat.zero_le _⟩) hP hA [0, 1] rfl rfl (fun H locs hP => ?_)
  have hP : PD (dC, dI) A s.heap [(q0, .inr (4, [.ref q1, .int w3, .int day])), (q1, .inl (cc 0, 50, .inl w2))] H locs := hP
  refine lv_aload_n hx hb dX4_removeTwo_9 rfl (lv_at hl 0 rfl) ?_
  refine lv_iload_n hx hb dX4_removeTwo_10 rfl (lv_at hl 1 rfl) ?_
  refine lv_iload_n hx hb dX4_removeTwo_11 rfl (lv_at hl 2 rfl) ?_
  refine g_min hC hl.1 mh_X4_55 (Nat.le_of_ble_eq_true rfl) (Nat.le_of_ble_eq_true rfl) (Nat.zero_le _) (Nat.zero_le _) dX4_removeTwo_12 ?_
  refine lv_topi (fun v4 ev => ?_)
  have h := nm_h ev h
  obtain ⟨⟨w5, w6⟩, hu, h⟩ := bnd_h h
  refine kc_v (kV hC (c_X4_removeOne l dC dI cc q0 q1 w3 day w2 v4 H.size w5 w6 hu) cv_X4_51 kw532 rfl rfl ⟨(Nat.le_of_ble_eq_true rfl), (Nat.le_of_ble_eq_true rfl)⟩ hP [0, 1] rfl rfl rfl (q0 := 0) rfl (As := [.int v4]) (rest := []) rfl rfl hl.1 (Nat.le_of_ble_eq_true rfl) dX4_removeTwo_15 ⟨Nat.zero_le _, Nat.zero_le _⟩) hP hA [0, 1] rfl rfl (fun H locs hP => ?_)
  have hP : PD (dC, dI) A s.heap [(q0, .inr (4, [.ref q1, .int w6, .int day])), (q1, .inl (cc 0, 50, .inl w5))] H locs := hP
  exact ret_v hC hr hlk hP dX4_removeTwo_18 (w5, w6) (Option.some.inj h) rfl
set_option maxHeartbeats 8000000 in
set_option maxRecDepth 100000 in
theorem c_X4_driedBy (l : Launch) (dC : Nat → ClassId) (dI : Nat → Nat → Nat) (cc : Nat → ClassId) (q0 q1 : Nat) (clogs : Int32) (day : Int32) (cells : (Nat → Int32)) (x1 : Int32) (x2 : Int32) (sz : Nat) (ret : Int32) (hu : f_X4_driedBy x1 x2 clogs cells = some ret) : Met l yX4_driedBy (mw yX4_driedBy cX4_driedBy 3 (some .int)) ({ frames := 1, cells := 0, slots := 0, locals := 23 } : Room) (va_Pc [.ref q0, .int x1, .int x2] (mP (dC, dI) (ts cc) sz [(q0, .inr (4, [.ref q1, .int clogs, .int day])), (q1, .inl (cc 0, 50, .inl cells))])) ((fun A => va_Qi (fun (r : Int32) (w : Unit) => r = ret ∧ w = ()) (fun (w : Unit) t => va_P (dC, dI) classes [(q0, .inr (4, [.ref q1, .int clogs, .int day])), (q1, .inl (cc 0, 50, .inl cells))] t.heap) A) (va_A [(q0, .inr (4, [.ref q1, .int clogs, .int day])), (q1, .inl (cc 0, 50, .inl cells))] sz)) 0 0 (va_A [(q0, .inr (4, [.ref q1, .int clogs, .int day])), (q1, .inl (cc 0, 50, .inl cells))] sz) := by
  refine met_go (Qc := fun A => va_Qi (fun (r : Int32) (w : Unit) => r = ret ∧ w = ()) (fun (w : Unit) t => va_P (dC, dI) classes [(q0, .inr (4, [.ref q1, .int clogs, .int day])), (q1, .inl (cc 0, 50, .inl cells))] t.heap) A) (by decide) (Nat.le_of_ble_eq_true rfl) ?_
  intro p e s m below meth c A ls H locs hC hr hlk hin hA hP hl _
  have hC : CX p m c cX4_driedBy 3 s ([.ref q0, .int x1, .int x2] : List Value).toArray RX4 (dC, dI) (ts cc) := hC
  have hx := hC.1.1
  have hb := hC.1.2
  have h := hu
  have hu0 := hu
  unfold f_X4_driedBy at h
  have hl : lv_has ls 3 [(0, .ref q0), (1, .int x1), (2, .int x2)] := hl
  refine lv_aload_n hx hb dX4_driedBy_0 rfl (lv_at hl 0 rfl) ?_
  refine lv_iload_n hx hb dX4_driedBy_1 rfl (lv_at hl 1 rfl) ?_
  refine lv_iconst (v := 0) hx hb dX4_driedBy_2 (by decide) ?_
  obtain ⟨r1, hu, h⟩ := bnd_h h
  refine kc_i (kV hC (c_X4_cell l dC dI cc q0 q1 clogs day cells x1 0 H.size r1 hu) cv_X4_38 kw463 rfl rfl ⟨(Nat.le_of_ble_eq_true rfl), (Nat.le_of_ble_eq_true rfl)⟩ hP [0, 1] rfl rfl rfl (q0 := 0) rfl (As := [.int x1, .int 0]) (rest := []) rfl rfl hl.1 (Nat.le_of_ble_eq_true rfl) dX4_driedBy_3 ⟨Nat.zero_le _, Nat.zero_le _⟩) hP hA [0, 1] rfl rfl (fun H locs hP => ?_)
  have hP : PD (dC, dI) A s.heap [(q0, .inr (4, [.ref q1, .int clogs, .int day])), (q1, .inl (cc 0, 50, .inl cells))] H locs := hP
  refine lv_iconst (v := 1) hx hb dX4_driedBy_6 (by decide) ?_
  refine lv_icmp_ne (tgt := 30) hx hb dX4_driedBy_7 (by decide) (fun c2 => ?_) (fun c2 => ?_)
  · have h := if_f c2 h
    refine lv_iconst (v := 0) hx hb dX4_driedBy_30 (by decide) ?_
    exact ret_i hC hr hlk hP dX4_driedBy_31 () (⟨Option.some.inj h, rfl⟩) rfl
  · have h := if_t c2 h
    refine lv_bipush (v := 30) hx hb dX4_driedBy_10 (by decide) ?_
    refine lv_iconst (v := 0) hx hb dX4_driedBy_12 (by decide) ?_
    refine lv_iload_n hx hb dX4_driedBy_13 rfl (lv_at hl 2 rfl) ?_
    refine lv_aload_n hx hb dX4_driedBy_14 rfl (lv_at hl 0 rfl) ?_
    refine lv_iload_n hx hb dX4_driedBy_15 rfl (lv_at hl 1 rfl) ?_
    refine lv_iconst (v := 4) hx hb dX4_driedBy_16 (by decide) ?_
    obtain ⟨r3, hu, h⟩ := bnd_h h
    refine kc_i (kV hC (c_X4_cell l dC dI cc q0 q1 clogs day cells x1 4 H.size r3 hu) cv_X4_38 kw463 rfl rfl ⟨(Nat.le_of_ble_eq_true rfl), (Nat.le_of_ble_eq_true rfl)⟩ hP [0, 1] rfl rfl rfl (q0 := 0) rfl (As := [.int x1, .int 4]) (rest := [.int x2, .int 0, .int 30]) rfl rfl hl.1 (Nat.le_of_ble_eq_true rfl) dX4_driedBy_17 ⟨Nat.zero_le _, Nat.zero_le _⟩) hP hA [0, 1] rfl rfl (fun H locs hP => ?_)
    have hP : PD (dC, dI) A s.heap [(q0, .inr (4, [.ref q1, .int clogs, .int day])), (q1, .inl (cc 0, 50, .inl cells))] H locs := hP
    refine lv_isub hx hb dX4_driedBy_20 ?_
    refine g_max hC hl.1 mh_X4_46 (Nat.le_of_ble_eq_true rfl) (Nat.le_of_ble_eq_true rfl) (Nat.zero_le _) (Nat.zero_le _) dX4_driedBy_21 ?_
    refine lv_topi (fun v4 ev => ?_)
    have h := nm_h ev h
    refine g_min hC hl.1 mh_X4_55 (Nat.le_of_ble_eq_true rfl) (Nat.le_of_ble_eq_true rfl) (Nat.zero_le _) (Nat.zero_le _) dX4_driedBy_24 ?_
    refine lv_topi (fun v5 ev => ?_)
    have h := nm_h ev h
    refine lv_goto (tgt := 31) hx hb dX4_driedBy_27 (by decide) ?_
    exact ret_i hC hr hlk hP dX4_driedBy_31 () (⟨Option.some.inj h, rfl⟩) rfl
set_option maxHeartbeats 8000000 in
set_option maxRecDepth 100000 in
theorem c_X4_sizeOn (l : Launch) (dC : Nat → ClassId) (dI : Nat → Nat → Nat) (cc : Nat → ClassId) (q0 q1 : Nat) (clogs : Int32) (day : Int32) (cells : (Nat → Int32)) (x1 : Int32) (x2 : Int32) (sz : Nat) (ret : Int32) (hu : f_X4_sizeOn x1 x2 clogs cells = some ret) : Met l yX4_sizeOn (mw yX4_sizeOn cX4_sizeOn 4 (some .int)) ({ frames := 2, cells := 0, slots := 0, locals := 45 } : Room) (va_Pc [.ref q0, .int x1, .int x2] (mP (dC, dI) (ts cc) sz [(q0, .inr (4, [.ref q1, .int clogs, .int day])), (q1, .inl (cc 0, 50, .inl cells))])) ((fun A => va_Qi (fun (r : Int32) (w : Unit) => r = ret ∧ w = ()) (fun (w : Unit) t => va_P (dC, dI) classes [(q0, .inr (4, [.ref q1, .int clogs, .int day])), (q1, .inl (cc 0, 50, .inl cells))] t.heap) A) (va_A [(q0, .inr (4, [.ref q1, .int clogs, .int day])), (q1, .inl (cc 0, 50, .inl cells))] sz)) 0 0 (va_A [(q0, .inr (4, [.ref q1, .int clogs, .int day])), (q1, .inl (cc 0, 50, .inl cells))] sz) := by
  refine met_go (Qc := fun A => va_Qi (fun (r : Int32) (w : Unit) => r = ret ∧ w = ()) (fun (w : Unit) t => va_P (dC, dI) classes [(q0, .inr (4, [.ref q1, .int clogs, .int day])), (q1, .inl (cc 0, 50, .inl cells))] t.heap) A) (by decide) (Nat.le_of_ble_eq_true rfl) ?_
  intro p e s m below meth c A ls H locs hC hr hlk hin hA hP hl _
  have hC : CX p m c cX4_sizeOn 4 s ([.ref q0, .int x1, .int x2] : List Value).toArray RX4 (dC, dI) (ts cc) := hC
  have hx := hC.1.1
  have hb := hC.1.2
  have h := hu
  have hu0 := hu
  unfold f_X4_sizeOn at h
  have hl : lv_has ls 4 [(0, .ref q0), (1, .int x1), (2, .int x2)] := hl
  refine lv_aload_n hx hb dX4_sizeOn_0 rfl (lv_at hl 0 rfl) ?_
  refine lv_iload_n hx hb dX4_sizeOn_1 rfl (lv_at hl 1 rfl) ?_
  refine lv_iconst (v := 2) hx hb dX4_sizeOn_2 (by decide) ?_
  obtain ⟨r1, hu, h⟩ := bnd_h h
  refine kc_i (kV hC (c_X4_cell l dC dI cc q0 q1 clogs day cells x1 2 H.size r1 hu) cv_X4_38 kw463 rfl rfl ⟨(Nat.le_of_ble_eq_true rfl), (Nat.le_of_ble_eq_true rfl)⟩ hP [0, 1] rfl rfl rfl (q0 := 0) rfl (As := [.int x1, .int 2]) (rest := []) rfl rfl hl.1 (Nat.le_of_ble_eq_true rfl) dX4_sizeOn_3 ⟨Nat.zero_le _, Nat.zero_le _⟩) hP hA [0, 1] rfl rfl (fun H locs hP => ?_)
  have hP : PD (dC, dI) A s.heap [(q0, .inr (4, [.ref q1, .int clogs, .int day])), (q1, .inl (cc 0, 50, .inl cells))] H locs := hP
  refine lv_istore_n (lv' := [(3, .int r1), (0, .ref q0), (1, .int x1), (2, .int x2)]) hx hb dX4_sizeOn_6 rfl hl (by decide) rfl (fun ls hl => ?_)
  refine lv_iload_n hx hb dX4_sizeOn_7 rfl (lv_at hl 0 rfl) ?_
  refine lv_iload_n hx hb dX4_sizeOn_8 rfl (lv_at hl 0 rfl) ?_
  refine lv_aload_n hx hb dX4_sizeOn_9 rfl (lv_at hl 1 rfl) ?_
  refine lv_iload_n hx hb dX4_sizeOn_10 rfl (lv_at hl 2 rfl) ?_
  refine lv_iload_n hx hb dX4_sizeOn_11 rfl (lv_at hl 3 rfl) ?_
  obtain ⟨r2, hu, h⟩ := bnd_h h
  refine kc_i (kV hC (c_X4_driedBy l dC dI cc q0 q1 clogs day cells x1 x2 H.size r2 hu) cv_X4_62 kw467 rfl rfl ⟨(Nat.le_of_ble_eq_true rfl), (Nat.le_of_ble_eq_true rfl)⟩ hP [0, 1] rfl rfl rfl (q0 := 0) rfl (As := [.int x1, .int x2]) (rest := [.int r1, .int r1]) rfl rfl hl.1 (Nat.le_of_ble_eq_true rfl) dX4_sizeOn_12 ⟨Nat.zero_le _, Nat.zero_le _⟩) hP hA [0, 1] rfl rfl (fun H locs hP => ?_)
  have hP : PD (dC, dI) A s.heap [(q0, .inr (4, [.ref q1, .int clogs, .int day])), (q1, .inl (cc 0, 50, .inl cells))] H locs := hP
  refine lv_imul hx hb dX4_sizeOn_15 ?_
  refine lv_sipush (v := 360) hx hb dX4_sizeOn_16 (by decide) ?_
  refine lv_idiv hx hb dX4_sizeOn_19 (by decide) ?_
  refine lv_isub hx hb dX4_sizeOn_20 ?_
  exact ret_i hC hr hlk hP dX4_sizeOn_21 () (⟨Option.some.inj h, rfl⟩) rfl
set_option maxHeartbeats 8000000 in
set_option maxRecDepth 100000 in
theorem c_X4_weightOn (l : Launch) (dC : Nat → ClassId) (dI : Nat → Nat → Nat) (cc : Nat → ClassId) (q0 q1 : Nat) (clogs : Int32) (day : Int32) (cells : (Nat → Int32)) (x1 : Int32) (x2 : Int32) (sz : Nat) (ret : Int32) (hu : f_X4_weightOn x1 x2 clogs cells = some ret) : Met l yX4_weightOn (mw yX4_weightOn cX4_weightOn 5 (some .int)) ({ frames := 2, cells := 0, slots := 0, locals := 45 } : Room) (va_Pc [.ref q0, .int x1, .int x2] (mP (dC, dI) (ts cc) sz [(q0, .inr (4, [.ref q1, .int clogs, .int day])), (q1, .inl (cc 0, 50, .inl cells))])) ((fun A => va_Qi (fun (r : Int32) (w : Unit) => r = ret ∧ w = ()) (fun (w : Unit) t => va_P (dC, dI) classes [(q0, .inr (4, [.ref q1, .int clogs, .int day])), (q1, .inl (cc 0, 50, .inl cells))] t.heap) A) (va_A [(q0, .inr (4, [.ref q1, .int clogs, .int day])), (q1, .inl (cc 0, 50, .inl cells))] sz)) 0 0 (va_A [(q0, .inr (4, [.ref q1, .int clogs, .int day])), (q1, .inl (cc 0, 50, .inl cells))] sz) := by
  refine met_go (Qc := fun A => va_Qi (fun (r : Int32) (w : Unit) => r = ret ∧ w = ()) (fun (w : Unit) t => va_P (dC, dI) classes [(q0, .inr (4, [.ref q1, .int clogs, .int day])), (q1, .inl (cc 0, 50, .inl cells))] t.heap) A) (by decide) (Nat.le_of_ble_eq_true rfl) ?_
  intro p e s m below meth c A ls H locs hC hr hlk hin hA hP hl _
  have hC : CX p m c cX4_weightOn 5 s ([.ref q0, .int x1, .int x2] : List Value).toArray RX4 (dC, dI) (ts cc) := hC
  have hx := hC.1.1
  have hb := hC.1.2
  have h := hu
  have hu0 := hu
  unfold f_X4_weightOn at h
  have hl : lv_has ls 5 [(0, .ref q0), (1, .int x1), (2, .int x2)] := hl
  refine lv_aload_n hx hb dX4_weightOn_0 rfl (lv_at hl 0 rfl) ?_
  refine lv_iload_n hx hb dX4_weightOn_1 rfl (lv_at hl 1 rfl) ?_
  refine lv_iconst (v := 3) hx hb dX4_weightOn_2 (by decide) ?_
  obtain ⟨r1, hu, h⟩ := bnd_h h
  refine kc_i (kV hC (c_X4_cell l dC dI cc q0 q1 clogs day cells x1 3 H.size r1 hu) cv_X4_38 kw463 rfl rfl ⟨(Nat.le_of_ble_eq_true rfl), (Nat.le_of_ble_eq_true rfl)⟩ hP [0, 1] rfl rfl rfl (q0 := 0) rfl (As := [.int x1, .int 3]) (rest := []) rfl rfl hl.1 (Nat.le_of_ble_eq_true rfl) dX4_weightOn_3 ⟨Nat.zero_le _, Nat.zero_le _⟩) hP hA [0, 1] rfl rfl (fun H locs hP => ?_)
  have hP : PD (dC, dI) A s.heap [(q0, .inr (4, [.ref q1, .int clogs, .int day])), (q1, .inl (cc 0, 50, .inl cells))] H locs := hP
  refine lv_istore_n (lv' := [(3, .int r1), (0, .ref q0), (1, .int x1), (2, .int x2)]) hx hb dX4_weightOn_6 rfl hl (by decide) rfl (fun ls hl => ?_)
  refine lv_aload_n hx hb dX4_weightOn_7 rfl (lv_at hl 1 rfl) ?_
  refine lv_iload_n hx hb dX4_weightOn_8 rfl (lv_at hl 2 rfl) ?_
  refine lv_iconst (v := 0) hx hb dX4_weightOn_9 (by decide) ?_
  obtain ⟨r2, hu, h⟩ := bnd_h h
  refine kc_i (kV hC (c_X4_cell l dC dI cc q0 q1 clogs day cells x1 0 H.size r2 hu) cv_X4_38 kw463 rfl rfl ⟨(Nat.le_of_ble_eq_true rfl), (Nat.le_of_ble_eq_true rfl)⟩ hP [0, 1] rfl rfl rfl (q0 := 0) rfl (As := [.int x1, .int 0]) (rest := []) rfl rfl hl.1 (Nat.le_of_ble_eq_true rfl) dX4_weightOn_10 ⟨Nat.zero_le _, Nat.zero_le _⟩) hP hA [0, 1] rfl rfl (fun H locs hP => ?_)
  have hP : PD (dC, dI) A s.heap [(q0, .inr (4, [.ref q1, .int clogs, .int day])), (q1, .inl (cc 0, 50, .inl cells))] H locs := hP
  refine lv_iconst (v := 3) hx hb dX4_weightOn_13 (by decide) ?_
  refine lv_icmp_ne (tgt := 21) hx hb dX4_weightOn_14 (by decide) (fun c3 => ?_) (fun c3 => ?_)
  · have h := if_f c3 h
    refine lv_iconst (v := 0) hx hb dX4_weightOn_21 (by decide) ?_
    refine lv_istore (lv' := [(4, .int 0), (3, .int r1), (0, .ref q0), (1, .int x1), (2, .int x2)]) hx hb dX4_weightOn_22 hl (by decide) rfl (fun ls hl => ?_)
    refine lv_iload_n hx hb dX4_weightOn_24 rfl (lv_at hl 1 rfl) ?_
    refine lv_iload_n hx hb dX4_weightOn_25 rfl (lv_at hl 1 rfl) ?_
    refine lv_aload_n hx hb dX4_weightOn_26 rfl (lv_at hl 2 rfl) ?_
    refine lv_iload_n hx hb dX4_weightOn_27 rfl (lv_at hl 3 rfl) ?_
    refine lv_iload_n hx hb dX4_weightOn_28 rfl (lv_at hl 4 rfl) ?_
    obtain ⟨r4, hu, h⟩ := bnd_h h
    refine kc_i (kV hC (c_X4_driedBy l dC dI cc q0 q1 clogs day cells x1 x2 H.size r4 hu) cv_X4_62 kw467 rfl rfl ⟨(Nat.le_of_ble_eq_true rfl), (Nat.le_of_ble_eq_true rfl)⟩ hP [0, 1] rfl rfl rfl (q0 := 0) rfl (As := [.int x1, .int x2]) (rest := [.int r1, .int r1]) rfl rfl hl.1 (Nat.le_of_ble_eq_true rfl) dX4_weightOn_29 ⟨Nat.zero_le _, Nat.zero_le _⟩) hP hA [0, 1] rfl rfl (fun H locs hP => ?_)
    have hP : PD (dC, dI) A s.heap [(q0, .inr (4, [.ref q1, .int clogs, .int day])), (q1, .inl (cc 0, 50, .inl cells))] H locs := hP
    refine lv_imul hx hb dX4_weightOn_32 ?_
    refine lv_bipush (v := 90) hx hb dX4_weightOn_33 (by decide) ?_
    refine lv_idiv hx hb dX4_weightOn_35 (by decide) ?_
    refine lv_isub hx hb dX4_weightOn_36 ?_
    refine lv_iload hx hb dX4_weightOn_37 (lv_at hl 0 rfl) ?_
    refine lv_iadd hx hb dX4_weightOn_39 ?_
    exact ret_i hC hr hlk hP dX4_weightOn_40 () (⟨Option.some.inj h, rfl⟩) rfl
  · have h := if_t c3 h
    refine lv_iconst (v := 2) hx hb dX4_weightOn_17 (by decide) ?_
    refine lv_goto (tgt := 22) hx hb dX4_weightOn_18 (by decide) ?_
    refine lv_istore (lv' := [(4, .int 2), (3, .int r1), (0, .ref q0), (1, .int x1), (2, .int x2)]) hx hb dX4_weightOn_22 hl (by decide) rfl (fun ls hl => ?_)
    refine lv_iload_n hx hb dX4_weightOn_24 rfl (lv_at hl 1 rfl) ?_
    refine lv_iload_n hx hb dX4_weightOn_25 rfl (lv_at hl 1 rfl) ?_
    refine lv_aload_n hx hb dX4_weightOn_26 rfl (lv_at hl 2 rfl) ?_
    refine lv_iload_n hx hb dX4_weightOn_27 rfl (lv_at hl 3 rfl) ?_
    refine lv_iload_n hx hb dX4_weightOn_28 rfl (lv_at hl 4 rfl) ?_
    obtain ⟨r5, hu, h⟩ := bnd_h h
    refine kc_i (kV hC (c_X4_driedBy l dC dI cc q0 q1 clogs day cells x1 x2 H.size r5 hu) cv_X4_62 kw467 rfl rfl ⟨(Nat.le_of_ble_eq_true rfl), (Nat.le_of_ble_eq_true rfl)⟩ hP [0, 1] rfl rfl rfl (q0 := 0) rfl (As := [.int x1, .int x2]) (rest := [.int r1, .int r1]) rfl rfl hl.1 (Nat.le_of_ble_eq_true rfl) dX4_weightOn_29 ⟨Nat.zero_le _, Nat.zero_le _⟩) hP hA [0, 1] rfl rfl (fun H locs hP => ?_)
    have hP : PD (dC, dI) A s.heap [(q0, .inr (4, [.ref q1, .int clogs, .int day])), (q1, .inl (cc 0, 50, .inl cells))] H locs := hP
    refine lv_imul hx hb dX4_weightOn_32 ?_
    refine lv_bipush (v := 90) hx hb dX4_weightOn_33 (by decide) ?_
    refine lv_idiv hx hb dX4_weightOn_35 (by decide) ?_
    refine lv_isub hx hb dX4_weightOn_36 ?_
    refine lv_iload hx hb dX4_weightOn_37 (lv_at hl 0 rfl) ?_
    refine lv_iadd hx hb dX4_weightOn_39 ?_
    exact ret_i hC hr hlk hP dX4_weightOn_40 () (⟨Option.some.inj h, rfl⟩) rfl
set_option maxHeartbeats 8000000 in
set_option maxRecDepth 100000 in
theorem c_X4_areAlikeOn (l : Launch) (dC : Nat → ClassId) (dI : Nat → Nat → Nat) (cc : Nat → ClassId) (q0 q1 : Nat) (clogs : Int32) (day : Int32) (cells : (Nat → Int32)) (x1 : Int32) (x2 : Int32) (x3 : Int32) (sz : Nat) (ret : Int32) (hu : f_X4_areAlikeOn x1 x2 x3 clogs cells = some ret) : Met l yX4_areAlikeOn (mw yX4_areAlikeOn cX4_areAlikeOn 4 (some .boolean)) ({ frames := 3, cells := 0, slots := 0, locals := 69 } : Room) (va_Pc [.ref q0, .int x1, .int x2, .int x3] (mP (dC, dI) (ts cc) sz [(q0, .inr (4, [.ref q1, .int clogs, .int day])), (q1, .inl (cc 0, 50, .inl cells))])) ((fun A => va_Qi (fun (r : Int32) (w : Unit) => narrow .boolean (.int r) = .int r ∧ (r = ret ∧ w = ())) (fun (w : Unit) t => va_P (dC, dI) classes [(q0, .inr (4, [.ref q1, .int clogs, .int day])), (q1, .inl (cc 0, 50, .inl cells))] t.heap) A) (va_A [(q0, .inr (4, [.ref q1, .int clogs, .int day])), (q1, .inl (cc 0, 50, .inl cells))] sz)) 0 0 (va_A [(q0, .inr (4, [.ref q1, .int clogs, .int day])), (q1, .inl (cc 0, 50, .inl cells))] sz) := by
  refine met_go (Qc := fun A => va_Qi (fun (r : Int32) (w : Unit) => narrow .boolean (.int r) = .int r ∧ (r = ret ∧ w = ())) (fun (w : Unit) t => va_P (dC, dI) classes [(q0, .inr (4, [.ref q1, .int clogs, .int day])), (q1, .inl (cc 0, 50, .inl cells))] t.heap) A) (by decide) (Nat.le_of_ble_eq_true rfl) ?_
  intro p e s m below meth c A ls H locs hC hr hlk hin hA hP hl _
  have hC : CX p m c cX4_areAlikeOn 4 s ([.ref q0, .int x1, .int x2, .int x3] : List Value).toArray RX4 (dC, dI) (ts cc) := hC
  have hx := hC.1.1
  have hb := hC.1.2
  have h := hu
  have hu0 := hu
  unfold f_X4_areAlikeOn at h
  have hl : lv_has ls 4 [(0, .ref q0), (1, .int x1), (2, .int x2), (3, .int x3)] := hl
  refine lv_aload_n hx hb dX4_areAlikeOn_0 rfl (lv_at hl 0 rfl) ?_
  refine lv_iload_n hx hb dX4_areAlikeOn_1 rfl (lv_at hl 1 rfl) ?_
  refine lv_iconst (v := 0) hx hb dX4_areAlikeOn_2 (by decide) ?_
  obtain ⟨r1, hu, h⟩ := bnd_h h
  refine kc_z (kV hC (c_X4_isOfSide l dC dI cc q0 q1 clogs day cells x1 0 H.size r1 hu) cv_X4_42 kw518 rfl rfl ⟨(Nat.le_of_ble_eq_true rfl), (Nat.le_of_ble_eq_true rfl)⟩ hP [0, 1] rfl rfl rfl (q0 := 0) rfl (As := [.int x1, .int 0]) (rest := []) rfl rfl hl.1 (Nat.le_of_ble_eq_true rfl) dX4_areAlikeOn_3 ⟨Nat.zero_le _, Nat.zero_le _⟩) hP hA [0, 1] rfl rfl (fun hz_r1 H locs hP => ?_)
  have hP : PD (dC, dI) A s.heap [(q0, .inr (4, [.ref q1, .int clogs, .int day])), (q1, .inl (cc 0, 50, .inl cells))] H locs := hP
  refine lv_if_eq (tgt := 82) hx hb dX4_areAlikeOn_6 (by decide) (fun c2 => ?_) (fun c2 => ?_)
  · have h := if_t c2 h
    refine lv_iconst (v := 0) hx hb dX4_areAlikeOn_82 (by decide) ?_
    exact ret_z hC hr rfl hlk hP dX4_areAlikeOn_83 () (⟨Option.some.inj h, rfl⟩) rfl
  · have h := if_f c2 h
    refine lv_aload_n hx hb dX4_areAlikeOn_9 rfl (lv_at hl 0 rfl) ?_
    refine lv_iload_n hx hb dX4_areAlikeOn_10 rfl (lv_at hl 2 rfl) ?_
    refine lv_iconst (v := 1) hx hb dX4_areAlikeOn_11 (by decide) ?_
    obtain ⟨r3, hu, h⟩ := bnd_h h
    refine kc_z (kV hC (c_X4_isOfSide l dC dI cc q0 q1 clogs day cells x2 1 H.size r3 hu) cv_X4_42 kw518 rfl rfl ⟨(Nat.le_of_ble_eq_true rfl), (Nat.le_of_ble_eq_true rfl)⟩ hP [0, 1] rfl rfl rfl (q0 := 0) rfl (As := [.int x2, .int 1]) (rest := []) rfl rfl hl.1 (Nat.le_of_ble_eq_true rfl) dX4_areAlikeOn_12 ⟨Nat.zero_le _, Nat.zero_le _⟩) hP hA [0, 1] rfl rfl (fun hz_r3 H locs hP => ?_)
    have hP : PD (dC, dI) A s.heap [(q0, .inr (4, [.ref q1, .int clogs, .int day])), (q1, .inl (cc 0, 50, .inl cells))] H locs := hP
    refine lv_if_eq (tgt := 82) hx hb dX4_areAlikeOn_15 (by decide) (fun c4 => ?_) (fun c4 => ?_)
    · have h := if_t c4 h
      refine lv_iconst (v := 0) hx hb dX4_areAlikeOn_82 (by decide) ?_
      exact ret_z hC hr rfl hlk hP dX4_areAlikeOn_83 () (⟨Option.some.inj h, rfl⟩) rfl
    · have h := if_f c4 h
      refine lv_aload_n hx hb dX4_areAlikeOn_18 rfl (lv_at hl 0 rfl) ?_
      refine lv_iload_n hx hb dX4_areAlikeOn_19 rfl (lv_at hl 1 rfl) ?_
      refine lv_iconst (v := 0) hx hb dX4_areAlikeOn_20 (by decide) ?_
      obtain ⟨r5, hu, h⟩ := bnd_h h
      refine kc_i (kV hC (c_X4_cell l dC dI cc q0 q1 clogs day cells x1 0 H.size r5 hu) cv_X4_38 kw463 rfl rfl ⟨(Nat.le_of_ble_eq_true rfl), (Nat.le_of_ble_eq_true rfl)⟩ hP [0, 1] rfl rfl rfl (q0 := 0) rfl (As := [.int x1, .int 0]) (rest := []) rfl rfl hl.1 (Nat.le_of_ble_eq_true rfl) dX4_areAlikeOn_21 ⟨Nat.zero_le _, Nat.zero_le _⟩) hP hA [0, 1] rfl rfl (fun H locs hP => ?_)
      have hP : PD (dC, dI) A s.heap [(q0, .inr (4, [.ref q1, .int clogs, .int day])), (q1, .inl (cc 0, 50, .inl cells))] H locs := hP
      refine lv_iconst (v := 2) hx hb dX4_areAlikeOn_24 (by decide) ?_
      refine lv_icmp_eq (tgt := 82) hx hb dX4_areAlikeOn_25 (by decide) (fun c6 => ?_) (fun c6 => ?_)
      · have h := if_t c6 h
        refine lv_iconst (v := 0) hx hb dX4_areAlikeOn_82 (by decide) ?_
        exact ret_z hC hr rfl hlk hP dX4_areAlikeOn_83 () (⟨Option.some.inj h, rfl⟩) rfl
      · have h := if_f c6 h
        refine lv_aload_n hx hb dX4_areAlikeOn_28 rfl (lv_at hl 0 rfl) ?_
        refine lv_iload_n hx hb dX4_areAlikeOn_29 rfl (lv_at hl 2 rfl) ?_
        refine lv_iconst (v := 0) hx hb dX4_areAlikeOn_30 (by decide) ?_
        obtain ⟨r7, hu, h⟩ := bnd_h h
        refine kc_i (kV hC (c_X4_cell l dC dI cc q0 q1 clogs day cells x2 0 H.size r7 hu) cv_X4_38 kw463 rfl rfl ⟨(Nat.le_of_ble_eq_true rfl), (Nat.le_of_ble_eq_true rfl)⟩ hP [0, 1] rfl rfl rfl (q0 := 0) rfl (As := [.int x2, .int 0]) (rest := []) rfl rfl hl.1 (Nat.le_of_ble_eq_true rfl) dX4_areAlikeOn_31 ⟨Nat.zero_le _, Nat.zero_le _⟩) hP hA [0, 1] rfl rfl (fun H locs hP => ?_)
        have hP : PD (dC, dI) A s.heap [(q0, .inr (4, [.ref q1, .int clogs, .int day])), (q1, .inl (cc 0, 50, .inl cells))] H locs := hP
        refine lv_iconst (v := 2) hx hb dX4_areAlikeOn_34 (by decide) ?_
        refine lv_icmp_eq (tgt := 82) hx hb dX4_areAlikeOn_35 (by decide) (fun c8 => ?_) (fun c8 => ?_)
        · have h := if_t c8 h
          refine lv_iconst (v := 0) hx hb dX4_areAlikeOn_82 (by decide) ?_
          exact ret_z hC hr rfl hlk hP dX4_areAlikeOn_83 () (⟨Option.some.inj h, rfl⟩) rfl
        · have h := if_f c8 h
          refine lv_aload_n hx hb dX4_areAlikeOn_38 rfl (lv_at hl 0 rfl) ?_
          refine lv_iload_n hx hb dX4_areAlikeOn_39 rfl (lv_at hl 1 rfl) ?_
          refine lv_iload_n hx hb dX4_areAlikeOn_40 rfl (lv_at hl 3 rfl) ?_
          obtain ⟨r9, hu, h⟩ := bnd_h h
          refine kc_i (kV hC (c_X4_sizeOn l dC dI cc q0 q1 clogs day cells x1 x3 H.size r9 hu) cv_X4_65 kw459 rfl rfl ⟨(Nat.le_of_ble_eq_true rfl), (Nat.le_of_ble_eq_true rfl)⟩ hP [0, 1] rfl rfl rfl (q0 := 0) rfl (As := [.int x1, .int x3]) (rest := []) rfl rfl hl.1 (Nat.le_of_ble_eq_true rfl) dX4_areAlikeOn_41 ⟨Nat.zero_le _, Nat.zero_le _⟩) hP hA [0, 1] rfl rfl (fun H locs hP => ?_)
          have hP : PD (dC, dI) A s.heap [(q0, .inr (4, [.ref q1, .int clogs, .int day])), (q1, .inl (cc 0, 50, .inl cells))] H locs := hP
          refine lv_aload_n hx hb dX4_areAlikeOn_44 rfl (lv_at hl 0 rfl) ?_
          refine lv_iload_n hx hb dX4_areAlikeOn_45 rfl (lv_at hl 2 rfl) ?_
          refine lv_iload_n hx hb dX4_areAlikeOn_46 rfl (lv_at hl 3 rfl) ?_
          obtain ⟨r10, hu, h⟩ := bnd_h h
          refine kc_i (kV hC (c_X4_sizeOn l dC dI cc q0 q1 clogs day cells x2 x3 H.size r10 hu) cv_X4_65 kw459 rfl rfl ⟨(Nat.le_of_ble_eq_true rfl), (Nat.le_of_ble_eq_true rfl)⟩ hP [0, 1] rfl rfl rfl (q0 := 0) rfl (As := [.int x2, .int x3]) (rest := [.int r9]) rfl rfl hl.1 (Nat.le_of_ble_eq_true rfl) dX4_areAlikeOn_47 ⟨Nat.zero_le _, Nat.zero_le _⟩) hP hA [0, 1] rfl rfl (fun H locs hP => ?_)
          have hP : PD (dC, dI) A s.heap [(q0, .inr (4, [.ref q1, .int clogs, .int day])), (q1, .inl (cc 0, 50, .inl cells))] H locs := hP
          refine lv_isub hx hb dX4_areAlikeOn_50 ?_
          refine g_abs hC hl.1 mh_X4_68 (Nat.le_of_ble_eq_true rfl) (Nat.le_of_ble_eq_true rfl) (Nat.zero_le _) (Nat.zero_le _) dX4_areAlikeOn_51 ?_
          refine lv_topi (fun v11 ev => ?_)
          have h := nm_h ev h
          refine lv_iconst (v := 1) hx hb dX4_areAlikeOn_54 (by decide) ?_
          refine lv_icmp_gt (tgt := 82) hx hb dX4_areAlikeOn_55 (by decide) (fun c12 => ?_) (fun c12 => ?_)
          · have h := if_t c12 h
            refine lv_iconst (v := 0) hx hb dX4_areAlikeOn_82 (by decide) ?_
            exact ret_z hC hr rfl hlk hP dX4_areAlikeOn_83 () (⟨Option.some.inj h, rfl⟩) rfl
          · have h := if_f c12 h
            refine lv_aload_n hx hb dX4_areAlikeOn_58 rfl (lv_at hl 0 rfl) ?_
            refine lv_iload_n hx hb dX4_areAlikeOn_59 rfl (lv_at hl 1 rfl) ?_
            refine lv_iload_n hx hb dX4_areAlikeOn_60 rfl (lv_at hl 3 rfl) ?_
            obtain ⟨r13, hu, h⟩ := bnd_h h
            refine kc_i (kV hC (c_X4_weightOn l dC dI cc q0 q1 clogs day cells x1 x3 H.size r13 hu) cv_X4_72 kw473 rfl rfl ⟨(Nat.le_of_ble_eq_true rfl), (Nat.le_of_ble_eq_true rfl)⟩ hP [0, 1] rfl rfl rfl (q0 := 0) rfl (As := [.int x1, .int x3]) (rest := []) rfl rfl hl.1 (Nat.le_of_ble_eq_true rfl) dX4_areAlikeOn_61 ⟨Nat.zero_le _, Nat.zero_le _⟩) hP hA [0, 1] rfl rfl (fun H locs hP => ?_)
            have hP : PD (dC, dI) A s.heap [(q0, .inr (4, [.ref q1, .int clogs, .int day])), (q1, .inl (cc 0, 50, .inl cells))] H locs := hP
            refine lv_aload_n hx hb dX4_areAlikeOn_64 rfl (lv_at hl 0 rfl) ?_
            refine lv_iload_n hx hb dX4_areAlikeOn_65 rfl (lv_at hl 2 rfl) ?_
            refine lv_iload_n hx hb dX4_areAlikeOn_66 rfl (lv_at hl 3 rfl) ?_
            obtain ⟨r14, hu, h⟩ := bnd_h h
            refine kc_i (kV hC (c_X4_weightOn l dC dI cc q0 q1 clogs day cells x2 x3 H.size r14 hu) cv_X4_72 kw473 rfl rfl ⟨(Nat.le_of_ble_eq_true rfl), (Nat.le_of_ble_eq_true rfl)⟩ hP [0, 1] rfl rfl rfl (q0 := 0) rfl (As := [.int x2, .int x3]) (rest := [.int r13]) rfl rfl hl.1 (Nat.le_of_ble_eq_true rfl) dX4_areAlikeOn_67 ⟨Nat.zero_le _, Nat.zero_le _⟩) hP hA [0, 1] rfl rfl (fun H locs hP => ?_)
            have hP : PD (dC, dI) A s.heap [(q0, .inr (4, [.ref q1, .int clogs, .int day])), (q1, .inl (cc 0, 50, .inl cells))] H locs := hP
            refine lv_isub hx hb dX4_areAlikeOn_70 ?_
            refine g_abs hC hl.1 mh_X4_68 (Nat.le_of_ble_eq_true rfl) (Nat.le_of_ble_eq_true rfl) (Nat.zero_le _) (Nat.zero_le _) dX4_areAlikeOn_71 ?_
            refine lv_topi (fun v15 ev => ?_)
            have h := nm_h ev h
            refine lv_iconst (v := 3) hx hb dX4_areAlikeOn_74 (by decide) ?_
            refine lv_icmp_gt (tgt := 82) hx hb dX4_areAlikeOn_75 (by decide) (fun c16 => ?_) (fun c16 => ?_)
            · have h := if_t c16 h
              refine lv_iconst (v := 0) hx hb dX4_areAlikeOn_82 (by decide) ?_
              exact ret_z hC hr rfl hlk hP dX4_areAlikeOn_83 () (⟨Option.some.inj h, rfl⟩) rfl
            · have h := if_f c16 h
              refine lv_iconst (v := 1) hx hb dX4_areAlikeOn_78 (by decide) ?_
              refine lv_goto (tgt := 83) hx hb dX4_areAlikeOn_79 (by decide) ?_
              exact ret_z hC hr rfl hlk hP dX4_areAlikeOn_83 () (⟨Option.some.inj h, rfl⟩) rfl
set_option maxHeartbeats 8000000 in
set_option maxRecDepth 100000 in
theorem c_X4_matesOf (l : Launch) (dC : Nat → ClassId) (dI : Nat → Nat → Nat) (cc : Nat → ClassId) (q0 q1 : Nat) (clogs : Int32) (day : Int32) (cells : (Nat → Int32)) (x1 : Int32) (sz : Nat) (ret : Int32) (hu : f_X4_matesOf x1 clogs day cells = some ret) : Met l yX4_matesOf (mw yX4_matesOf cX4_matesOf 4 (some .int)) ({ frames := 4, cells := 0, slots := 0, locals := 92 } : Room) (va_Pc [.ref q0, .int x1] (mP (dC, dI) (ts cc) sz [(q0, .inr (4, [.ref q1, .int clogs, .int day])), (q1, .inl (cc 0, 50, .inl cells))])) ((fun A => va_Qi (fun (r : Int32) (w : Unit) => r = ret ∧ w = ()) (fun (w : Unit) t => va_P (dC, dI) classes [(q0, .inr (4, [.ref q1, .int clogs, .int day])), (q1, .inl (cc 0, 50, .inl cells))] t.heap) A) (va_A [(q0, .inr (4, [.ref q1, .int clogs, .int day])), (q1, .inl (cc 0, 50, .inl cells))] sz)) 0 0 (va_A [(q0, .inr (4, [.ref q1, .int clogs, .int day])), (q1, .inl (cc 0, 50, .inl cells))] sz) := by
  refine met_go (Qc := fun A => va_Qi (fun (r : Int32) (w : Unit) => r = ret ∧ w = ()) (fun (w : Unit) t => va_P (dC, dI) classes [(q0, .inr (4, [.ref q1, .int clogs, .int day])), (q1, .inl (cc 0, 50, .inl cells))] t.heap) A) (by decide) (Nat.le_of_ble_eq_true rfl) ?_
  intro p e s m below meth c A ls H locs hC hr hlk hin hA hP hl _
  have hC : CX p m c cX4_matesOf 4 s ([.ref q0, .int x1] : List Value).toArray RX4 (dC, dI) (ts cc) := hC
  have hx := hC.1.1
  have hb := hC.1.2
  have h := hu
  have hu0 := hu
  unfold f_X4_matesOf at h
  have hl : lv_has ls 4 [(0, .ref q0), (1, .int x1)] := hl
  refine W_abs (fun Z eZ => ?_)
  refine lv_iconst (v := 0) hx hb dX4_matesOf_0 (by decide) ?_
  refine lv_istore_n (lv' := [(2, .int 0), (0, .ref q0), (1, .int x1)]) hx hb dX4_matesOf_1 rfl hl (by decide) rfl (fun ls hl => ?_)
  refine lv_iconst (v := 0) hx hb dX4_matesOf_2 (by decide) ?_
  refine lv_istore_n (lv' := [(3, .int 0), (2, .int 0), (0, .ref q0), (1, .int x1)]) hx hb dX4_matesOf_3 rfl hl (by decide) rfl (fun ls hl => ?_)
  obtain ⟨⟨j1x, j2x⟩, hlp, h⟩ := bnd_h h
  have L1 : ∀ (n : Nat) (j1 : Int32) (j2 : Int32) (j1x : Int32) (j2x : Int32), lp (u2 (b_X4_matesOf_1 cells clogs day x1)) n (j1, j2) = some (j1x, j2x) → ∀ (H : Heap) (locs : List Loc) (ls : Array Slot), PD (dC, dI) A s.heap [(q0, .inr (4, [.ref q1, .int clogs, .int day])), (q1, .inl (cc 0, 50, .inl cells))] H locs → lv_has ls 4 [(0, .ref q0), (1, .int x1), (2, .int j1), (3, .int j2)] → (∀ (H : Heap) (locs : List Loc) (ls : Array Slot), PD (dC, dI) A s.heap [(q0, .inr (4, [.ref q1, .int clogs, .int day])), (q1, .inl (cc 0, 50, .inl cells))] H locs → lv_has ls 4 [(0, .ref q0), (1, .int x1), (2, .int j1x), (3, .int j2x)] → W p l e ({ frames := 4, cells := 0, slots := 0, locals := 92 } : Room) s m ([.ref q0, .int x1] : List Value).toArray below meth c H locs 0 0 Z (F0 m 50 ls [])) → W p l e ({ frames := 4, cells := 0, slots := 0, locals := 92 } : Room) s m ([.ref q0, .int x1] : List Value).toArray below meth c H locs 0 0 Z (F0 m 4 ls []) := by
    intro n
    induction n with
    | zero => intro j1 j2 j1x j2x h; exact (lp_0 h).elim
    | succ n ih =>
      intro j1 j2 j1x j2x h H locs ls hP hl KK
      obtain ⟨y, h, hz⟩ := lp_h h
      refine lv_iload_n hx hb dX4_matesOf_4 rfl (lv_at hl 3 rfl) ?_
      refine lv_aload_n hx hb dX4_matesOf_5 rfl (lv_at hl 0 rfl) ?_
      refine g_get hC hP fg_X4_15 0 rfl rfl dX4_matesOf_6 ?_
      refine lv_icmp_ge (tgt := 50) hx hb dX4_matesOf_9 (by decide) (fun c3 => ?_) (fun c3 => ?_)
      · have h := if_t c3 h
        cases lp_e h hz
        exact KK H locs ls hP (lv_sub hl [0, 1, 2, 3] rfl)
      · have h := if_f c3 h
        refine lv_aload_n hx hb dX4_matesOf_12 rfl (lv_at hl 0 rfl) ?_
        refine lv_iload_n hx hb dX4_matesOf_13 rfl (lv_at hl 1 rfl) ?_
        refine lv_iload_n hx hb dX4_matesOf_14 rfl (lv_at hl 3 rfl) ?_
        refine lv_aload_n hx hb dX4_matesOf_15 rfl (lv_at hl 0 rfl) ?_
        refine g_get hC hP fg_X4_19 0 rfl rfl dX4_matesOf_16 ?_
        obtain ⟨r4, hu, h⟩ := bnd_h h
        refine kc_z (kV hC (c_X4_areAlikeOn l dC dI cc q0 q1 clogs day cells x1 j2 day H.size r4 hu) cv_X4_75 kw514 rfl rfl ⟨(Nat.le_of_ble_eq_true rfl), (Nat.le_of_ble_eq_true rfl)⟩ hP [0, 1] rfl rfl rfl (q0 := 0) rfl (As := [.int x1, .int j2, .int day]) (rest := []) rfl rfl hl.1 (Nat.le_of_ble_eq_true rfl) dX4_matesOf_19 ⟨Nat.zero_le _, Nat.zero_le _⟩) hP hA [0, 1] rfl rfl (fun hz_r4 H locs hP => ?_)
        have hP : PD (dC, dI) A s.heap [(q0, .inr (4, [.ref q1, .int clogs, .int day])), (q1, .inl (cc 0, 50, .inl cells))] H locs := hP
        refine lv_if_ne (tgt := 38) hx hb dX4_matesOf_22 (by decide) (fun c5 => ?_) (fun c5 => ?_)
        · have h := if_f c5 h
          refine lv_iload_n hx hb dX4_matesOf_38 rfl (lv_at hl 2 rfl) ?_
          refine lv_iconst (v := 1) hx hb dX4_matesOf_39 (by decide) ?_
          refine lv_iload_n hx hb dX4_matesOf_40 rfl (lv_at hl 3 rfl) ?_
          refine lv_ishl hx hb dX4_matesOf_41 ?_
          refine lv_ior hx hb dX4_matesOf_42 ?_
          refine lv_istore_n (lv' := [(2, .int (j1 ||| (1 <<< (j2 &&& 31)))), (0, .ref q0), (1, .int x1), (3, .int j2)]) hx hb dX4_matesOf_43 rfl hl (by decide) rfl (fun ls hl => ?_)
          refine lv_iinc (v := (j2 + 1)) (lv' := [(3, .int (j2 + 1)), (2, .int (j1 ||| (1 <<< (j2 &&& 31)))), (0, .ref q0), (1, .int x1)]) hx hb dX4_matesOf_44 hl (k := 3) rfl rfl (by decide) rfl (fun ls hl => ?_)
          refine lv_goto (tgt := 4) hx hb dX4_matesOf_47 (by decide) ?_
          exact ih _ _ _ _ (lp_n h hz) H locs ls hP (lv_sub hl [2, 3, 1, 0] rfl) KK
        · have h := if_t c5 h
          refine lv_aload_n hx hb dX4_matesOf_25 rfl (lv_at hl 0 rfl) ?_
          refine lv_iload_n hx hb dX4_matesOf_26 rfl (lv_at hl 3 rfl) ?_
          refine lv_iload_n hx hb dX4_matesOf_27 rfl (lv_at hl 1 rfl) ?_
          refine lv_aload_n hx hb dX4_matesOf_28 rfl (lv_at hl 0 rfl) ?_
          refine g_get hC hP fg_X4_19 0 rfl rfl dX4_matesOf_29 ?_
          obtain ⟨r6, hu, h⟩ := bnd_h h
          refine kc_z (kV hC (c_X4_areAlikeOn l dC dI cc q0 q1 clogs day cells j2 x1 day H.size r6 hu) cv_X4_75 kw514 rfl rfl ⟨(Nat.le_of_ble_eq_true rfl), (Nat.le_of_ble_eq_true rfl)⟩ hP [0, 1] rfl rfl rfl (q0 := 0) rfl (As := [.int j2, .int x1, .int day]) (rest := []) rfl rfl hl.1 (Nat.le_of_ble_eq_true rfl) dX4_matesOf_32 ⟨Nat.zero_le _, Nat.zero_le _⟩) hP hA [0, 1] rfl rfl (fun hz_r6 H locs hP => ?_)
          have hP : PD (dC, dI) A s.heap [(q0, .inr (4, [.ref q1, .int clogs, .int day])), (q1, .inl (cc 0, 50, .inl cells))] H locs := hP
          refine lv_if_eq (tgt := 44) hx hb dX4_matesOf_35 (by decide) (fun c7 => ?_) (fun c7 => ?_)
          · have h := if_t c7 h
            refine lv_iinc (v := (j2 + 1)) (lv' := [(3, .int (j2 + 1)), (0, .ref q0), (1, .int x1), (2, .int j1)]) hx hb dX4_matesOf_44 hl (k := 3) rfl rfl (by decide) rfl (fun ls hl => ?_)
            refine lv_goto (tgt := 4) hx hb dX4_matesOf_47 (by decide) ?_
            exact ih _ _ _ _ (lp_n h hz) H locs ls hP (lv_sub hl [1, 2, 3, 0] rfl) KK
          · have h := if_f c7 h
            refine lv_iload_n hx hb dX4_matesOf_38 rfl (lv_at hl 2 rfl) ?_
            refine lv_iconst (v := 1) hx hb dX4_matesOf_39 (by decide) ?_
            refine lv_iload_n hx hb dX4_matesOf_40 rfl (lv_at hl 3 rfl) ?_
            refine lv_ishl hx hb dX4_matesOf_41 ?_
            refine lv_ior hx hb dX4_matesOf_42 ?_
            refine lv_istore_n (lv' := [(2, .int (j1 ||| (1 <<< (j2 &&& 31)))), (0, .ref q0), (1, .int x1), (3, .int j2)]) hx hb dX4_matesOf_43 rfl hl (by decide) rfl (fun ls hl => ?_)
            refine lv_iinc (v := (j2 + 1)) (lv' := [(3, .int (j2 + 1)), (2, .int (j1 ||| (1 <<< (j2 &&& 31)))), (0, .ref q0), (1, .int x1)]) hx hb dX4_matesOf_44 hl (k := 3) rfl rfl (by decide) rfl (fun ls hl => ?_)
            refine lv_goto (tgt := 4) hx hb dX4_matesOf_47 (by decide) ?_
            exact ih _ _ _ _ (lp_n h hz) H locs ls hP (lv_sub hl [2, 3, 1, 0] rfl) KK
  refine L1 FU _ _ j1x j2x hlp H locs ls hP (lv_sub hl [2, 3, 1, 0] rfl) (fun H locs ls hP hl => ?_)
  refine lv_iload_n hx hb dX4_matesOf_50 rfl (lv_at hl 2 rfl) ?_
  rw [eZ]
  exact ret_i hC hr hlk hP dX4_matesOf_51 () (⟨Option.some.inj h, rfl⟩) rfl
set_option maxHeartbeats 8000000 in
set_option maxRecDepth 100000 in
theorem c_X4_unholedFrom (l : Launch) (dC : Nat → ClassId) (dI : Nat → Nat → Nat) (cc : Nat → ClassId) (q0 q1 : Nat) (clogs : Int32) (day : Int32) (cells : (Nat → Int32)) (x1 : Int32) (x2 : Int32) (sz : Nat) (ret : Int32) (hu : f_X4_unholedFrom x1 x2 clogs day cells = some ret) : Met l yX4_unholedFrom (mw yX4_unholedFrom cX4_unholedFrom 5 (some .int)) ({ frames := 3, cells := 0, slots := 0, locals := 68 } : Room) (va_Pc [.ref q0, .int x1, .int x2] (mP (dC, dI) (ts cc) sz [(q0, .inr (4, [.ref q1, .int clogs, .int day])), (q1, .inl (cc 0, 50, .inl cells))])) ((fun A => va_Qi (fun (r : Int32) (w : Unit) => r = ret ∧ w = ()) (fun (w : Unit) t => va_P (dC, dI) classes [(q0, .inr (4, [.ref q1, .int clogs, .int day])), (q1, .inl (cc 0, 50, .inl cells))] t.heap) A) (va_A [(q0, .inr (4, [.ref q1, .int clogs, .int day])), (q1, .inl (cc 0, 50, .inl cells))] sz)) 0 0 (va_A [(q0, .inr (4, [.ref q1, .int clogs, .int day])), (q1, .inl (cc 0, 50, .inl cells))] sz) := by
  refine met_go (Qc := fun A => va_Qi (fun (r : Int32) (w : Unit) => r = ret ∧ w = ()) (fun (w : Unit) t => va_P (dC, dI) classes [(q0, .inr (4, [.ref q1, .int clogs, .int day])), (q1, .inl (cc 0, 50, .inl cells))] t.heap) A) (by decide) (Nat.le_of_ble_eq_true rfl) ?_
  intro p e s m below meth c A ls H locs hC hr hlk hin hA hP hl _
  have hC : CX p m c cX4_unholedFrom 5 s ([.ref q0, .int x1, .int x2] : List Value).toArray RX4 (dC, dI) (ts cc) := hC
  have hx := hC.1.1
  have hb := hC.1.2
  have h := hu
  have hu0 := hu
  unfold f_X4_unholedFrom at h
  have hl : lv_has ls 5 [(0, .ref q0), (1, .int x1), (2, .int x2)] := hl
  refine W_abs (fun Z eZ => ?_)
  refine lv_iconst (v := 0) hx hb dX4_unholedFrom_0 (by decide) ?_
  refine lv_istore_n (lv' := [(3, .int 0), (0, .ref q0), (1, .int x1), (2, .int x2)]) hx hb dX4_unholedFrom_1 rfl hl (by decide) rfl (fun ls hl => ?_)
  refine lv_iconst (v := 0) hx hb dX4_unholedFrom_2 (by decide) ?_
  refine lv_istore (lv' := [(4, .int 0), (3, .int 0), (0, .ref q0), (1, .int x1), (2, .int x2)]) hx hb dX4_unholedFrom_3 hl (by decide) rfl (fun ls hl => ?_)
  obtain ⟨⟨j1x, j2x⟩, hlp, h⟩ := bnd_h h
  have L1 : ∀ (n : Nat) (j1 : Int32) (j2 : Int32) (j1x : Int32) (j2x : Int32), lp (u2 (b_X4_unholedFrom_1 cells clogs day x1 x2)) n (j1, j2) = some (j1x, j2x) → ∀ (H : Heap) (locs : List Loc) (ls : Array Slot), PD (dC, dI) A s.heap [(q0, .inr (4, [.ref q1, .int clogs, .int day])), (q1, .inl (cc 0, 50, .inl cells))] H locs → lv_has ls 5 [(0, .ref q0), (1, .int x1), (2, .int x2), (3, .int j1), (4, .int j2)] → (∀ (H : Heap) (locs : List Loc) (ls : Array Slot), PD (dC, dI) A s.heap [(q0, .inr (4, [.ref q1, .int clogs, .int day])), (q1, .inl (cc 0, 50, .inl cells))] H locs → lv_has ls 5 [(0, .ref q0), (1, .int x1), (2, .int x2), (3, .int j1x), (4, .int j2x)] → W p l e ({ frames := 3, cells := 0, slots := 0, locals := 68 } : Room) s m ([.ref q0, .int x1, .int x2] : List Value).toArray below meth c H locs 0 0 Z (F0 m 56 ls [])) → W p l e ({ frames := 3, cells := 0, slots := 0, locals := 68 } : Room) s m ([.ref q0, .int x1, .int x2] : List Value).toArray below meth c H locs 0 0 Z (F0 m 5 ls []) := by
    intro n
    induction n with
    | zero => intro j1 j2 j1x j2x h; exact (lp_0 h).elim
    | succ n ih =>
      intro j1 j2 j1x j2x h H locs ls hP hl KK
      obtain ⟨y, h, hz⟩ := lp_h h
      refine lv_iload hx hb dX4_unholedFrom_5 (lv_at hl 4 rfl) ?_
      refine lv_aload_n hx hb dX4_unholedFrom_7 rfl (lv_at hl 0 rfl) ?_
      refine g_get hC hP fg_X4_15 0 rfl rfl dX4_unholedFrom_8 ?_
      refine lv_icmp_ge (tgt := 56) hx hb dX4_unholedFrom_11 (by decide) (fun c3 => ?_) (fun c3 => ?_)
      · have h := if_t c3 h
        cases lp_e h hz
        exact KK H locs ls hP (lv_sub hl [0, 1, 2, 3, 4] rfl)
      · have h := if_f c3 h
        refine lv_aload_n hx hb dX4_unholedFrom_14 rfl (lv_at hl 0 rfl) ?_
        refine lv_iload hx hb dX4_unholedFrom_15 (lv_at hl 4 rfl) ?_
        refine lv_iconst (v := 0) hx hb dX4_unholedFrom_17 (by decide) ?_
        obtain ⟨r4, hu, h⟩ := bnd_h h
        refine kc_i (kV hC (c_X4_cell l dC dI cc q0 q1 clogs day cells j2 0 H.size r4 hu) cv_X4_38 kw463 rfl rfl ⟨(Nat.le_of_ble_eq_true rfl), (Nat.le_of_ble_eq_true rfl)⟩ hP [0, 1] rfl rfl rfl (q0 := 0) rfl (As := [.int j2, .int 0]) (rest := []) rfl rfl hl.1 (Nat.le_of_ble_eq_true rfl) dX4_unholedFrom_18 ⟨Nat.zero_le _, Nat.zero_le _⟩) hP hA [0, 1] rfl rfl (fun H locs hP => ?_)
        have hP : PD (dC, dI) A s.heap [(q0, .inr (4, [.ref q1, .int clogs, .int day])), (q1, .inl (cc 0, 50, .inl cells))] H locs := hP
        refine lv_iconst (v := 2) hx hb dX4_unholedFrom_21 (by decide) ?_
        refine lv_icmp_eq (tgt := 50) hx hb dX4_unholedFrom_22 (by decide) (fun c5 => ?_) (fun c5 => ?_)
        · have h := if_t c5 h
          refine lv_iinc (v := (j2 + 1)) (lv' := [(4, .int (j2 + 1)), (0, .ref q0), (1, .int x1), (2, .int x2), (3, .int j1)]) hx hb dX4_unholedFrom_50 hl (k := 4) rfl rfl (by decide) rfl (fun ls hl => ?_)
          refine lv_goto (tgt := 5) hx hb dX4_unholedFrom_53 (by decide) ?_
          exact ih _ _ _ _ (lp_n h hz) H locs ls hP (lv_sub hl [1, 2, 3, 4, 0] rfl) KK
        · have h := if_f c5 h
          refine lv_aload_n hx hb dX4_unholedFrom_25 rfl (lv_at hl 0 rfl) ?_
          refine lv_iload hx hb dX4_unholedFrom_26 (lv_at hl 4 rfl) ?_
          refine lv_aload_n hx hb dX4_unholedFrom_28 rfl (lv_at hl 0 rfl) ?_
          refine g_get hC hP fg_X4_19 0 rfl rfl dX4_unholedFrom_29 ?_
          obtain ⟨r6, hu, h⟩ := bnd_h h
          refine kc_i (kV hC (c_X4_sizeOn l dC dI cc q0 q1 clogs day cells j2 day H.size r6 hu) cv_X4_65 kw459 rfl rfl ⟨(Nat.le_of_ble_eq_true rfl), (Nat.le_of_ble_eq_true rfl)⟩ hP [0, 1] rfl rfl rfl (q0 := 0) rfl (As := [.int j2, .int day]) (rest := []) rfl rfl hl.1 (Nat.le_of_ble_eq_true rfl) dX4_unholedFrom_32 ⟨Nat.zero_le _, Nat.zero_le _⟩) hP hA [0, 1] rfl rfl (fun H locs hP => ?_)
          have hP : PD (dC, dI) A s.heap [(q0, .inr (4, [.ref q1, .int clogs, .int day])), (q1, .inl (cc 0, 50, .inl cells))] H locs := hP
          refine lv_iload_n hx hb dX4_unholedFrom_35 rfl (lv_at hl 1 rfl) ?_
          refine lv_iload_n hx hb dX4_unholedFrom_36 rfl (lv_at hl 1 rfl) ?_
          refine lv_iload_n hx hb dX4_unholedFrom_37 rfl (lv_at hl 2 rfl) ?_
          refine lv_iadd hx hb dX4_unholedFrom_38 ?_
          refine lv_iconst (v := 1) hx hb dX4_unholedFrom_39 (by decide) ?_
          refine lv_isub hx hb dX4_unholedFrom_40 ?_
          obtain ⟨r7, hu, h⟩ := bnd_h h
          refine kc_z (kN hC (c_X9_within l dC dI cc r6 x1 ((x1 + x2) - 1) H.size r7 hu) cn_X4_26 kw338 rfl rfl ⟨(Nat.le_of_ble_eq_true rfl), (Nat.le_of_ble_eq_true rfl)⟩ hP [] rfl rfl (As := [.int r6, .int x1, .int ((x1 + x2) - 1)]) (rest := []) rfl rfl hl.1 (Nat.le_of_ble_eq_true rfl) dX4_unholedFrom_41 ⟨Nat.zero_le _, Nat.zero_le _⟩) hP hA [] rfl rfl (fun hz_r7 H locs hP => ?_)
          have hP : PD (dC, dI) A s.heap [(q0, .inr (4, [.ref q1, .int clogs, .int day])), (q1, .inl (cc 0, 50, .inl cells))] H locs := hP
          refine lv_if_eq (tgt := 50) hx hb dX4_unholedFrom_44 (by decide) (fun c8 => ?_) (fun c8 => ?_)
          · have h := if_t c8 h
            refine lv_iinc (v := (j2 + 1)) (lv' := [(4, .int (j2 + 1)), (0, .ref q0), (1, .int x1), (2, .int x2), (3, .int j1)]) hx hb dX4_unholedFrom_50 hl (k := 4) rfl rfl (by decide) rfl (fun ls hl => ?_)
            refine lv_goto (tgt := 5) hx hb dX4_unholedFrom_53 (by decide) ?_
            exact ih _ _ _ _ (lp_n h hz) H locs ls hP (lv_sub hl [1, 2, 3, 4, 0] rfl) KK
          · have h := if_f c8 h
            refine lv_iinc (v := (j1 + 1)) (lv' := [(3, .int (j1 + 1)), (0, .ref q0), (1, .int x1), (2, .int x2), (4, .int j2)]) hx hb dX4_unholedFrom_47 hl (k := 3) rfl rfl (by decide) rfl (fun ls hl => ?_)
            refine lv_iinc (v := (j2 + 1)) (lv' := [(4, .int (j2 + 1)), (3, .int (j1 + 1)), (0, .ref q0), (1, .int x1), (2, .int x2)]) hx hb dX4_unholedFrom_50 hl (k := 4) rfl rfl (by decide) rfl (fun ls hl => ?_)
            refine lv_goto (tgt := 5) hx hb dX4_unholedFrom_53 (by decide) ?_
            exact ih _ _ _ _ (lp_n h hz) H locs ls hP (lv_sub hl [2, 3, 4, 1, 0] rfl) KK
  refine L1 FU _ _ j1x j2x hlp H locs ls hP (lv_sub hl [2, 3, 4, 1, 0] rfl) (fun H locs ls hP hl => ?_)
  refine lv_iload_n hx hb dX4_unholedFrom_56 rfl (lv_at hl 3 rfl) ?_
  rw [eZ]
  exact ret_i hC hr hlk hP dX4_unholedFrom_57 () (⟨Option.some.inj h, rfl⟩) rfl
