set_option maxHeartbeats 8000000 in
set_option maxRecDepth 100000 in
theorem c_X0_clear (l : Launch) (dC : Nat → ClassId) (dI : Nat → Nat → Nat) (cc : Nat → ClassId) (q0 : Nat) (length : Int32) (block : Int32) (knots : Int64) (sz : Nat) (o_length : Int32) (o_block : Int32) (o_knots : Int64) (hu : f_X0_clear = some (o_length, o_block, o_knots)) : Met l yX0_clear (mw yX0_clear cX0_clear 1 none) ({ frames := 0, cells := 0, slots := 0, locals := 0 } : Room) (va_Pc [.ref q0] (mP (dC, dI) (ts cc) sz [(q0, .inr (0, [.int length, .int block, .long knots]))])) ((fun A => va_Qv (fun (w : Int32 × Int32 × Int64) => w = (o_length, o_block, o_knots)) (fun (w : Int32 × Int32 × Int64) t => va_P (dC, dI) classes [(q0, .inr (0, [.int w.1, .int w.2.1, .long w.2.2]))] t.heap) A) (va_A [(q0, .inr (0, [.int length, .int block, .long knots]))] sz)) 0 0 (va_A [(q0, .inr (0, [.int length, .int block, .long knots]))] sz) := by
  refine met_go (Qc := fun A => va_Qv (fun (w : Int32 × Int32 × Int64) => w = (o_length, o_block, o_knots)) (fun (w : Int32 × Int32 × Int64) t => va_P (dC, dI) classes [(q0, .inr (0, [.int w.1, .int w.2.1, .long w.2.2]))] t.heap) A) (by decide) (Nat.le_of_ble_eq_true rfl) ?_
  intro p e s m below meth c A ls H locs hC hr hlk hin hA hP hl _
  have hC : CX p m c cX0_clear 1 s ([.ref q0] : List Value).toArray RX0 (dC, dI) (ts cc) := hC
  have hx := hC.1.1
  have hb := hC.1.2
  have h := hu
  have hu0 := hu
  unfold f_X0_clear at h
  have hl : lv_has ls 1 [(0, .ref q0)] := hl
  refine lv_aload_n hx hb dX0_clear_0 rfl (lv_at hl 0 rfl) ?_
  refine lv_bipush (v := 20) hx hb dX0_clear_1 (by decide) ?_
  refine g_put hC hP fg_X0_9 0 rfl rfl rfl (Nat.le_of_ble_eq_true rfl) dX0_clear_3 (fun H locs hP => ?_)
  have hP : PD (dC, dI) A s.heap [(q0, .inr (0, [.int 20, .int block, .long knots]))] H locs := hP
  refine lv_aload_n hx hb dX0_clear_6 rfl (lv_at hl 0 rfl) ?_
  refine lv_iconst (v := 4) hx hb dX0_clear_7 (by decide) ?_
  refine g_put hC hP fg_X0_15 0 rfl rfl rfl (Nat.le_of_ble_eq_true rfl) dX0_clear_8 (fun H locs hP => ?_)
  have hP : PD (dC, dI) A s.heap [(q0, .inr (0, [.int 20, .int 4, .long knots]))] H locs := hP
  refine lv_aload_n hx hb dX0_clear_11 rfl (lv_at hl 0 rfl) ?_
  refine lv_lconst (v := 0) hx hb dX0_clear_12 (by decide) ?_
  refine g_put hC hP fg_X0_18 0 rfl rfl rfl (Nat.le_of_ble_eq_true rfl) dX0_clear_13 (fun H locs hP => ?_)
  have hP : PD (dC, dI) A s.heap [(q0, .inr (0, [.int 20, .int 4, .long 0]))] H locs := hP
  exact ret_v hC hr hlk hP dX0_clear_16 (20, 4, 0) (Option.some.inj h) rfl
set_option maxHeartbeats 8000000 in
set_option maxRecDepth 100000 in
theorem c_X0_copy (l : Launch) (dC : Nat → ClassId) (dI : Nat → Nat → Nat) (cc : Nat → ClassId) (q0 q1 : Nat) (length : Int32) (block : Int32) (knots : Int64) (o1_length : Int32) (o1_block : Int32) (o1_knots : Int64) (sz : Nat) (o_length : Int32) (o_block : Int32) (o_knots : Int64) (hu : f_X0_copy o1_length o1_block o1_knots = some (o_length, o_block, o_knots)) : Met l yX0_copy (mw yX0_copy cX0_copy 2 none) ({ frames := 0, cells := 0, slots := 0, locals := 0 } : Room) (va_Pc [.ref q0, .ref q1] (mP (dC, dI) (ts cc) sz [(q0, .inr (0, [.int length, .int block, .long knots])), (q1, .inr (0, [.int o1_length, .int o1_block, .long o1_knots]))])) ((fun A => va_Qv (fun (w : Int32 × Int32 × Int64) => w = (o_length, o_block, o_knots)) (fun (w : Int32 × Int32 × Int64) t => va_P (dC, dI) classes [(q0, .inr (0, [.int w.1, .int w.2.1, .long w.2.2])), (q1, .inr (0, [.int o1_length, .int o1_block, .long o1_knots]))] t.heap) A) (va_A [(q0, .inr (0, [.int length, .int block, .long knots])), (q1, .inr (0, [.int o1_length, .int o1_block, .long o1_knots]))] sz)) 0 0 (va_A [(q0, .inr (0, [.int length, .int block, .long knots])), (q1, .inr (0, [.int o1_length, .int o1_block, .long o1_knots]))] sz) := by
  refine met_go (Qc := fun A => va_Qv (fun (w : Int32 × Int32 × Int64) => w = (o_length, o_block, o_knots)) (fun (w : Int32 × Int32 × Int64) t => va_P (dC, dI) classes [(q0, .inr (0, [.int w.1, .int w.2.1, .long w.2.2])), (q1, .inr (0, [.int o1_length, .int o1_block, .long o1_knots]))] t.heap) A) (by decide) (Nat.le_of_ble_eq_true rfl) ?_
  intro p e s m below meth c A ls H locs hC hr hlk hin hA hP hl _
  have hC : CX p m c cX0_copy 2 s ([.ref q0, .ref q1] : List Value).toArray RX0 (dC, dI) (ts cc) := hC
  have hx := hC.1.1
  have hb := hC.1.2
  have h := hu
  have hu0 := hu
  unfold f_X0_copy at h
  have hl : lv_has ls 2 [(0, .ref q0), (1, .ref q1)] := hl
  refine lv_aload_n hx hb dX0_copy_0 rfl (lv_at hl 1 rfl) ?_
  refine lv_ifnull hx hb dX0_copy_1 ?_
  refine lv_aload_n hx hb dX0_copy_4 rfl (lv_at hl 0 rfl) ?_
  refine lv_aload_n hx hb dX0_copy_5 rfl (lv_at hl 1 rfl) ?_
  refine g_get hC hP fg_X0_9 1 rfl rfl dX0_copy_6 ?_
  refine g_put hC hP fg_X0_9 0 rfl rfl rfl (Nat.le_of_ble_eq_true rfl) dX0_copy_9 (fun H locs hP => ?_)
  have hP : PD (dC, dI) A s.heap [(q0, .inr (0, [.int o1_length, .int block, .long knots])), (q1, .inr (0, [.int o1_length, .int o1_block, .long o1_knots]))] H locs := hP
  refine lv_aload_n hx hb dX0_copy_12 rfl (lv_at hl 0 rfl) ?_
  refine lv_aload_n hx hb dX0_copy_13 rfl (lv_at hl 1 rfl) ?_
  refine g_get hC hP fg_X0_15 1 rfl rfl dX0_copy_14 ?_
  refine g_put hC hP fg_X0_15 0 rfl rfl rfl (Nat.le_of_ble_eq_true rfl) dX0_copy_17 (fun H locs hP => ?_)
  have hP : PD (dC, dI) A s.heap [(q0, .inr (0, [.int o1_length, .int o1_block, .long knots])), (q1, .inr (0, [.int o1_length, .int o1_block, .long o1_knots]))] H locs := hP
  refine lv_aload_n hx hb dX0_copy_20 rfl (lv_at hl 0 rfl) ?_
  refine lv_aload_n hx hb dX0_copy_21 rfl (lv_at hl 1 rfl) ?_
  refine g_get hC hP fg_X0_18 1 rfl rfl dX0_copy_22 ?_
  refine g_put hC hP fg_X0_18 0 rfl rfl rfl (Nat.le_of_ble_eq_true rfl) dX0_copy_25 (fun H locs hP => ?_)
  have hP : PD (dC, dI) A s.heap [(q0, .inr (0, [.int o1_length, .int o1_block, .long o1_knots])), (q1, .inr (0, [.int o1_length, .int o1_block, .long o1_knots]))] H locs := hP
  exact ret_v hC hr hlk hP dX0_copy_28 (o1_length, o1_block, o1_knots) (Option.some.inj h) rfl
set_option maxHeartbeats 8000000 in
set_option maxRecDepth 100000 in
theorem c_X0_knotsInside (l : Launch) (dC : Nat → ClassId) (dI : Nat → Nat → Nat) (cc : Nat → ClassId) (q0 : Nat) (length : Int32) (block : Int32) (knots : Int64) (sz : Nat) (ret : Int32) (hu : f_X0_knotsInside length knots = some ret) : Met l yX0_knotsInside (mw yX0_knotsInside cX0_knotsInside 1 (some .int)) ({ frames := 1, cells := 0, slots := 0, locals := 21 } : Room) (va_Pc [.ref q0] (mP (dC, dI) (ts cc) sz [(q0, .inr (0, [.int length, .int block, .long knots]))])) ((fun A => va_Qi (fun (r : Int32) (w : Unit) => r = ret ∧ w = ()) (fun (w : Unit) t => va_P (dC, dI) classes [(q0, .inr (0, [.int length, .int block, .long knots]))] t.heap) A) (va_A [(q0, .inr (0, [.int length, .int block, .long knots]))] sz)) 0 0 (va_A [(q0, .inr (0, [.int length, .int block, .long knots]))] sz) := by
  refine met_go (Qc := fun A => va_Qi (fun (r : Int32) (w : Unit) => r = ret ∧ w = ()) (fun (w : Unit) t => va_P (dC, dI) classes [(q0, .inr (0, [.int length, .int block, .long knots]))] t.heap) A) (by decide) (Nat.le_of_ble_eq_true rfl) ?_
  intro p e s m below meth c A ls H locs hC hr hlk hin hA hP hl _
  have hC : CX p m c cX0_knotsInside 1 s ([.ref q0] : List Value).toArray RX0 (dC, dI) (ts cc) := hC
  have hx := hC.1.1
  have hb := hC.1.2
  have h := hu
  have hu0 := hu
  unfold f_X0_knotsInside at h
  have hl : lv_has ls 1 [(0, .ref q0)] := hl
  refine lv_aload_n hx hb dX0_knotsInside_0 rfl (lv_at hl 0 rfl) ?_
  refine g_get hC hP fg_X0_18 0 rfl rfl dX0_knotsInside_1 ?_
  refine lv_lconst (v := 1) hx hb dX0_knotsInside_4 (by decide) ?_
  refine lv_aload_n hx hb dX0_knotsInside_5 rfl (lv_at hl 0 rfl) ?_
  refine g_get hC hP fg_X0_9 0 rfl rfl dX0_knotsInside_6 ?_
  refine lv_lshl hx hb dX0_knotsInside_9 rfl ?_
  refine lv_lconst (v := 1) hx hb dX0_knotsInside_10 (by decide) ?_
  refine lv_lsub hx hb dX0_knotsInside_11 ?_
  refine lv_land hx hb dX0_knotsInside_12 ?_
  obtain ⟨r1, hu, h⟩ := bnd_h h
  refine kc_i (kS hC (c_J13_bitCount_95d88 l dC dI cc (knots &&& ((1 <<< ((Int32.toInt64 length) &&& 63)) - 1)) H.size r1 hu) cs_X0_22 kw772 rfl rfl ⟨(Nat.le_of_ble_eq_true rfl), (Nat.le_of_ble_eq_true rfl)⟩ hP [] rfl rfl (As := [.long (knots &&& ((1 <<< ((Int32.toInt64 length) &&& 63)) - 1))]) (rest := []) rfl rfl hl.1 (Nat.le_of_ble_eq_true rfl) dX0_knotsInside_13 ⟨Nat.zero_le _, Nat.zero_le _⟩) hP hA [] rfl rfl (fun H locs hP => ?_)
  have hP : PD (dC, dI) A s.heap [(q0, .inr (0, [.int length, .int block, .long knots]))] H locs := hP
  exact ret_i hC hr hlk hP dX0_knotsInside_16 () (⟨Option.some.inj h, rfl⟩) rfl
set_option maxHeartbeats 8000000 in
set_option maxRecDepth 100000 in
theorem c_X0_isBlock (l : Launch) (dC : Nat → ClassId) (dI : Nat → Nat → Nat) (cc : Nat → ClassId) (q0 : Nat) (length : Int32) (block : Int32) (knots : Int64) (x1 : Int32) (sz : Nat) (ret : Int32) (hu : f_X0_isBlock x1 length block knots = some ret) : Met l yX0_isBlock (mw yX0_isBlock cX0_isBlock 4 (some .boolean)) ({ frames := 0, cells := 0, slots := 0, locals := 0 } : Room) (va_Pc [.ref q0, .int x1] (mP (dC, dI) (ts cc) sz [(q0, .inr (0, [.int length, .int block, .long knots]))])) ((fun A => va_Qi (fun (r : Int32) (w : Unit) => narrow .boolean (.int r) = .int r ∧ (r = ret ∧ w = ())) (fun (w : Unit) t => va_P (dC, dI) classes [(q0, .inr (0, [.int length, .int block, .long knots]))] t.heap) A) (va_A [(q0, .inr (0, [.int length, .int block, .long knots]))] sz)) 0 0 (va_A [(q0, .inr (0, [.int length, .int block, .long knots]))] sz) := by
  refine met_go (Qc := fun A => va_Qi (fun (r : Int32) (w : Unit) => narrow .boolean (.int r) = .int r ∧ (r = ret ∧ w = ())) (fun (w : Unit) t => va_P (dC, dI) classes [(q0, .inr (0, [.int length, .int block, .long knots]))] t.heap) A) (by decide) (Nat.le_of_ble_eq_true rfl) ?_
  intro p e s m below meth c A ls H locs hC hr hlk hin hA hP hl _
  have hC : CX p m c cX0_isBlock 4 s ([.ref q0, .int x1] : List Value).toArray RX0 (dC, dI) (ts cc) := hC
  have hx := hC.1.1
  have hb := hC.1.2
  have h := hu
  have hu0 := hu
  unfold f_X0_isBlock at h
  have hl : lv_has ls 4 [(0, .ref q0), (1, .int x1)] := hl
  refine lv_lconst (v := 1) hx hb dX0_isBlock_0 (by decide) ?_
  refine lv_aload_n hx hb dX0_isBlock_1 rfl (lv_at hl 0 rfl) ?_
  refine g_get hC hP fg_X0_15 0 rfl rfl dX0_isBlock_2 ?_
  refine lv_lshl hx hb dX0_isBlock_5 rfl ?_
  refine lv_lconst (v := 1) hx hb dX0_isBlock_6 (by decide) ?_
  refine lv_lsub hx hb dX0_isBlock_7 ?_
  refine lv_iload_n hx hb dX0_isBlock_8 rfl (lv_at hl 1 rfl) ?_
  refine lv_lshl hx hb dX0_isBlock_9 rfl ?_
  refine lv_topl (fun v1 ev => ?_)
  have h := nm_h ev h
  refine lv_lstore_n (lv' := [(2, .long v1), (0, .ref q0), (1, .int x1)]) hx hb dX0_isBlock_10 rfl hl (by decide) rfl (fun ls hl => ?_)
  refine lv_iload_n hx hb dX0_isBlock_11 rfl (lv_at hl 2 rfl) ?_
  refine lv_aload_n hx hb dX0_isBlock_12 rfl (lv_at hl 1 rfl) ?_
  refine g_get hC hP fg_X0_15 0 rfl rfl dX0_isBlock_13 ?_
  refine lv_iadd hx hb dX0_isBlock_16 ?_
  refine lv_aload_n hx hb dX0_isBlock_17 rfl (lv_at hl 1 rfl) ?_
  refine g_get hC hP fg_X0_9 0 rfl rfl dX0_isBlock_18 ?_
  refine lv_icmp_gt (tgt := 39) hx hb dX0_isBlock_21 (by decide) (fun c2 => ?_) (fun c2 => ?_)
  · have h := if_t c2 h
    refine lv_iconst (v := 0) hx hb dX0_isBlock_39 (by decide) ?_
    exact ret_z hC hr rfl hlk hP dX0_isBlock_40 () (⟨Option.some.inj h, rfl⟩) rfl
  · have h := if_f c2 h
    refine lv_aload_n hx hb dX0_isBlock_24 rfl (lv_at hl 1 rfl) ?_
    refine g_get hC hP fg_X0_18 0 rfl rfl dX0_isBlock_25 ?_
    refine lv_lload_n hx hb dX0_isBlock_28 rfl (lv_at hl 0 rfl) ?_
    refine lv_land hx hb dX0_isBlock_29 ?_
    refine lv_lconst (v := 0) hx hb dX0_isBlock_30 (by decide) ?_
    refine W.lcmp hx hb dX0_isBlock_31 ?_
    refine lv_if_ne (tgt := 39) hx hb dX0_isBlock_32 (by decide) (fun c3 => ?_) (fun c3 => ?_)
    · have h := if_f c3 h
      refine lv_iconst (v := 0) hx hb dX0_isBlock_39 (by decide) ?_
      exact ret_z hC hr rfl hlk hP dX0_isBlock_40 () (⟨Option.some.inj h, rfl⟩) rfl
    · have h := if_t c3 h
      refine lv_iconst (v := 1) hx hb dX0_isBlock_35 (by decide) ?_
      refine lv_goto (tgt := 40) hx hb dX0_isBlock_36 (by decide) ?_
      exact ret_z hC hr rfl hlk hP dX0_isBlock_40 () (⟨Option.some.inj h, rfl⟩) rfl
set_option maxHeartbeats 8000000 in
set_option maxRecDepth 100000 in
theorem c_X0_saw (l : Launch) (dC : Nat → ClassId) (dI : Nat → Nat → Nat) (cc : Nat → ClassId) (q0 : Nat) (length : Int32) (block : Int32) (knots : Int64) (x1 : Int32) (sz : Nat) (ret : Int32) (hu : f_X0_saw x1 length block knots = some ret) : Met l yX0_saw (mw yX0_saw cX0_saw 5 (some .int)) ({ frames := 1, cells := 0, slots := 0, locals := 23 } : Room) (va_Pc [.ref q0, .int x1] (mP (dC, dI) (ts cc) sz [(q0, .inr (0, [.int length, .int block, .long knots]))])) ((fun A => va_Qi (fun (r : Int32) (w : Unit) => r = ret ∧ w = ()) (fun (w : Unit) t => va_P (dC, dI) classes [(q0, .inr (0, [.int length, .int block, .long knots]))] t.heap) A) (va_A [(q0, .inr (0, [.int length, .int block, .long knots]))] sz)) 0 0 (va_A [(q0, .inr (0, [.int length, .int block, .long knots]))] sz) := by
  refine met_go (Qc := fun A => va_Qi (fun (r : Int32) (w : Unit) => r = ret ∧ w = ()) (fun (w : Unit) t => va_P (dC, dI) classes [(q0, .inr (0, [.int length, .int block, .long knots]))] t.heap) A) (by decide) (Nat.le_of_ble_eq_true rfl) ?_
  intro p e s m below meth c A ls H locs hC hr hlk hin hA hP hl _
  have hC : CX p m c cX0_saw 5 s ([.ref q0, .int x1] : List Value).toArray RX0 (dC, dI) (ts cc) := hC
  have hx := hC.1.1
  have hb := hC.1.2
  have h := hu
  have hu0 := hu
  unfold f_X0_saw at h
  have hl : lv_has ls 5 [(0, .ref q0), (1, .int x1)] := hl
  refine W_abs (fun Z eZ => ?_)
  refine lv_iconst (v := 0) hx hb dX0_saw_0 (by decide) ?_
  refine lv_istore_n (lv' := [(2, .int 0), (0, .ref q0), (1, .int x1)]) hx hb dX0_saw_1 rfl hl (by decide) rfl (fun ls hl => ?_)
  refine lv_iconst (v := 0) hx hb dX0_saw_2 (by decide) ?_
  refine lv_istore_n (lv' := [(3, .int 0), (2, .int 0), (0, .ref q0), (1, .int x1)]) hx hb dX0_saw_3 rfl hl (by decide) rfl (fun ls hl => ?_)
  refine lv_iconst (v := 0) hx hb dX0_saw_4 (by decide) ?_
  refine lv_istore (lv' := [(4, .int 0), (3, .int 0), (2, .int 0), (0, .ref q0), (1, .int x1)]) hx hb dX0_saw_5 hl (by decide) rfl (fun ls hl => ?_)
  obtain ⟨z, hlp, hk, hj⟩ := bndE_h h
  have L1 : ∀ (n : Nat) (j1 : Int32) (j2 : Int32) (j3 : Int32) (z : ((Int32 × Int32 × Int32) ⊕ (Int32))), lp (u3 (b_X0_saw_1 block knots length x1)) n (j1, j2, j3) = some z → ∀ (H : Heap) (locs : List Loc) (ls : Array Slot), PD (dC, dI) A s.heap [(q0, .inr (0, [.int length, .int block, .long knots]))] H locs → lv_has ls 5 [(0, .ref q0), (1, .int x1), (2, .int j1), (3, .int j2), (4, .int j3)] → (∀ (j1x : Int32) (j2x : Int32) (j3x : Int32), z = .inl (j1x, j2x, j3x) → ∀ (H : Heap) (locs : List Loc) (ls : Array Slot), PD (dC, dI) A s.heap [(q0, .inr (0, [.int length, .int block, .long knots]))] H locs → lv_has ls 5 [(0, .ref q0), (1, .int x1), (2, .int j1x), (3, .int j2x), (4, .int j3x)] → W p l e ({ frames := 1, cells := 0, slots := 0, locals := 23 } : Room) s m ([.ref q0, .int x1] : List Value).toArray below meth c H locs 0 0 Z (F0 m 56 ls [])) → (∀ q, z = .inr q → q = ret) → W p l e ({ frames := 1, cells := 0, slots := 0, locals := 23 } : Room) s m ([.ref q0, .int x1] : List Value).toArray below meth c H locs 0 0 Z (F0 m 7 ls []) := by
    intro n
    induction n with
    | zero => intro j1 j2 j3 z h; exact (lp_0 h).elim
    | succ n ih =>
      intro j1 j2 j3 z h H locs ls hP hl KK KR
      obtain ⟨y, h, hz⟩ := lp_h h
      refine lv_iload hx hb dX0_saw_7 (lv_at hl 4 rfl) ?_
      refine lv_aload_n hx hb dX0_saw_9 rfl (lv_at hl 0 rfl) ?_
      refine g_get hC hP fg_X0_9 0 rfl rfl dX0_saw_10 ?_
      refine lv_icmp_ge (tgt := 56) hx hb dX0_saw_13 (by decide) (fun c4 => ?_) (fun c4 => ?_)
      · have h := if_t c4 h
        exact KK j1 j2 j3 (lp_e h hz).symm H locs ls hP (lv_sub hl [0, 1, 2, 3, 4] rfl)
      · have h := if_f c4 h
        refine lv_iload hx hb dX0_saw_16 (lv_at hl 4 rfl) ?_
        refine lv_iload_n hx hb dX0_saw_18 rfl (lv_at hl 3 rfl) ?_
        refine lv_icmp_lt (tgt := 50) hx hb dX0_saw_19 (by decide) (fun c5 => ?_) (fun c5 => ?_)
        · have h := if_t c5 h
          refine lv_iinc (v := (j3 + 1)) (lv' := [(4, .int (j3 + 1)), (0, .ref q0), (1, .int x1), (2, .int j1), (3, .int j2)]) hx hb dX0_saw_50 hl (k := 4) rfl rfl (by decide) rfl (fun ls hl => ?_)
          refine lv_goto (tgt := 7) hx hb dX0_saw_53 (by decide) ?_
          exact ih _ _ _ _ (lp_n h hz) H locs ls hP (lv_sub hl [1, 2, 3, 4, 0] rfl) KK KR
        · have h := if_f c5 h
          refine lv_aload_n hx hb dX0_saw_22 rfl (lv_at hl 0 rfl) ?_
          refine lv_iload hx hb dX0_saw_23 (lv_at hl 4 rfl) ?_
          obtain ⟨r6, hu, h⟩ := bnd_h h
          refine kc_z (kV hC (c_X0_isBlock l dC dI cc q0 length block knots j3 H.size r6 hu) cv_X0_28 kw671 rfl rfl ⟨(Nat.le_of_ble_eq_true rfl), (Nat.le_of_ble_eq_true rfl)⟩ hP [0] rfl rfl rfl (q0 := 0) rfl (As := [.int j3]) (rest := []) rfl rfl hl.1 (Nat.le_of_ble_eq_true rfl) dX0_saw_25 ⟨Nat.zero_le _, Nat.zero_le _⟩) hP hA [0] rfl rfl (fun hz_r6 H locs hP => ?_)
          have hP : PD (dC, dI) A s.heap [(q0, .inr (0, [.int length, .int block, .long knots]))] H locs := hP
          refine lv_if_eq (tgt := 50) hx hb dX0_saw_28 (by decide) (fun c7 => ?_) (fun c7 => ?_)
          · have h := if_t c7 h
            refine lv_iinc (v := (j3 + 1)) (lv' := [(4, .int (j3 + 1)), (0, .ref q0), (1, .int x1), (2, .int j1), (3, .int j2)]) hx hb dX0_saw_50 hl (k := 4) rfl rfl (by decide) rfl (fun ls hl => ?_)
            refine lv_goto (tgt := 7) hx hb dX0_saw_53 (by decide) ?_
            exact ih _ _ _ _ (lp_n h hz) H locs ls hP (lv_sub hl [1, 2, 3, 4, 0] rfl) KK KR
          · have h := if_f c7 h
            refine lv_iload_n hx hb dX0_saw_31 rfl (lv_at hl 2 rfl) ?_
            refine lv_iload_n hx hb dX0_saw_32 rfl (lv_at hl 1 rfl) ?_
            refine lv_icmp_ne (tgt := 39) hx hb dX0_saw_33 (by decide) (fun c8 => ?_) (fun c8 => ?_)
            · have h := if_f c8 h
              refine lv_iinc (v := (j1 + 1)) (lv' := [(2, .int (j1 + 1)), (0, .ref q0), (1, .int x1), (3, .int j2), (4, .int j3)]) hx hb dX0_saw_39 hl (k := 2) rfl rfl (by decide) rfl (fun ls hl => ?_)
              refine lv_iload hx hb dX0_saw_42 (lv_at hl 4 rfl) ?_
              refine lv_aload_n hx hb dX0_saw_44 rfl (lv_at hl 1 rfl) ?_
              refine g_get hC hP fg_X0_15 0 rfl rfl dX0_saw_45 ?_
              refine lv_iadd hx hb dX0_saw_48 ?_
              refine lv_istore_n (lv' := [(3, .int (j3 + block)), (2, .int (j1 + 1)), (0, .ref q0), (1, .int x1), (4, .int j3)]) hx hb dX0_saw_49 rfl hl (by decide) rfl (fun ls hl => ?_)
              refine lv_iinc (v := (j3 + 1)) (lv' := [(4, .int (j3 + 1)), (3, .int (j3 + block)), (2, .int (j1 + 1)), (0, .ref q0), (1, .int x1)]) hx hb dX0_saw_50 hl (k := 4) rfl rfl (by decide) rfl (fun ls hl => ?_)
              refine lv_goto (tgt := 7) hx hb dX0_saw_53 (by decide) ?_
              exact ih _ _ _ _ (lp_n h hz) H locs ls hP (lv_sub hl [3, 4, 2, 1, 0] rfl) KK KR
            · have h := if_t c8 h
              refine lv_iload hx hb dX0_saw_36 (lv_at hl 4 rfl) ?_
              rw [eZ]
              exact ret_i hC hr hlk hP dX0_saw_38 () (⟨KR _ (lp_e h hz).symm, rfl⟩) rfl
  refine L1 FU _ _ _ z hlp H locs ls hP (lv_sub hl [3, 4, 2, 1, 0] rfl) (fun j1x j2x j3x e H locs ls hP hl => ?_) (fun q e => Option.some.inj (hj q e))
  have h := hk _ e
  refine lv_iload_n hx hb dX0_saw_56 rfl (lv_at hl 1 rfl) ?_
  refine lv_iconst (v := -1) hx hb dX0_saw_57 (by decide) ?_
  refine lv_icmp_ne (tgt := 65) hx hb dX0_saw_58 (by decide) (fun c9 => ?_) (fun c9 => ?_)
  · have h := if_f c9 h
    refine lv_bipush (v := -4) hx hb dX0_saw_65 (by decide) ?_
    rw [eZ]
    exact ret_i hC hr hlk hP dX0_saw_67 () (⟨Option.some.inj h, rfl⟩) rfl
  · have h := if_t c9 h
    refine lv_iload_n hx hb dX0_saw_61 rfl (lv_at hl 2 rfl) ?_
    refine lv_goto (tgt := 67) hx hb dX0_saw_62 (by decide) ?_
    rw [eZ]
    exact ret_i hC hr hlk hP dX0_saw_67 () (⟨Option.some.inj h, rfl⟩) rfl
set_option maxHeartbeats 8000000 in
set_option maxRecDepth 100000 in
theorem c_X5_append (l : Launch) (dC : Nat → ClassId) (dI : Nat → Nat → Nat) (cc : Nat → ClassId) (q0 q1 : Nat) (length : Int32) (letters : (Nat → Int32)) (x1 : Int32) (sz : Nat) (o_letters : (Nat → Int32)) (o_length : Int32) (hu : f_X5_append x1 length letters = some (o_letters, o_length)) : Met l yX5_append (mw yX5_append cX5_append 2 none) ({ frames := 0, cells := 0, slots := 0, locals := 0 } : Room) (va_Pc [.ref q0, .int x1] (mP (dC, dI) (ts cc) sz [(q0, .inr (5, [.ref q1, .int length])), (q1, .inl (cc 1, 200, .inl letters))])) ((fun A => va_Qv (fun (w : (Nat → Int32) × Int32) => w = (o_letters, o_length)) (fun (w : (Nat → Int32) × Int32) t => va_P (dC, dI) classes [(q0, .inr (5, [.ref q1, .int w.2])), (q1, .inl (cc 1, 200, .inl w.1))] t.heap) A) (va_A [(q0, .inr (5, [.ref q1, .int length])), (q1, .inl (cc 1, 200, .inl letters))] sz)) 0 0 (va_A [(q0, .inr (5, [.ref q1, .int length])), (q1, .inl (cc 1, 200, .inl letters))] sz) := by
  refine met_go (Qc := fun A => va_Qv (fun (w : (Nat → Int32) × Int32) => w = (o_letters, o_length)) (fun (w : (Nat → Int32) × Int32) t => va_P (dC, dI) classes [(q0, .inr (5, [.ref q1, .int w.2])), (q1, .inl (cc 1, 200, .inl w.1))] t.heap) A) (by decide) (Nat.le_of_ble_eq_true rfl) ?_
  intro p e s m below meth c A ls H locs hC hr hlk hin hA hP hl _
  have hC : CX p m c cX5_append 2 s ([.ref q0, .int x1] : List Value).toArray RX5 (dC, dI) (ts cc) := hC
  have hx := hC.1.1
  have hb := hC.1.2
  have h := hu
  have hu0 := hu
  unfold f_X5_append at h
  have hl : lv_has ls 2 [(0, .ref q0), (1, .int x1)] := hl
  refine lv_aload_n hx hb dX5_append_0 rfl (lv_at hl 0 rfl) ?_
  refine g_get hC hP fg_X5_15 0 rfl rfl dX5_append_1 ?_
  refine lv_if_lt (tgt := 40) hx hb dX5_append_4 (by decide) (fun c1 => ?_) (fun c1 => ?_)
  · have h := if_t c1 h
    exact ret_v hC hr hlk hP dX5_append_40 (letters, length) (Option.some.inj h) rfl
  · have h := if_f c1 h
    refine lv_aload_n hx hb dX5_append_7 rfl (lv_at hl 0 rfl) ?_
    refine g_get hC hP fg_X5_15 0 rfl rfl dX5_append_8 ?_
    refine lv_aload_n hx hb dX5_append_11 rfl (lv_at hl 0 rfl) ?_
    refine g_get hC hP fg_X5_9 0 rfl rfl dX5_append_12 ?_
    refine g_alen hC hP 1 1 rfl rfl (v := 200) rfl dX5_append_15 ?_
    refine lv_icmp_ge (tgt := 40) hx hb dX5_append_16 (by decide) (fun c2 => ?_) (fun c2 => ?_)
    · have h := if_t c2 h
      exact ret_v hC hr hlk hP dX5_append_40 (letters, length) (Option.some.inj h) rfl
    · have h := if_f c2 h
      refine lv_aload_n hx hb dX5_append_19 rfl (lv_at hl 0 rfl) ?_
      refine g_get hC hP fg_X5_9 0 rfl rfl dX5_append_20 ?_
      refine lv_aload_n hx hb dX5_append_23 rfl (lv_at hl 0 rfl) ?_
      refine g_get hC hP fg_X5_15 0 rfl rfl dX5_append_24 ?_
      refine lv_iload_n hx hb dX5_append_27 rfl (lv_at hl 1 rfl) ?_
      refine lv_i2c hx hb dX5_append_28 rfl ?_
      obtain ⟨hin, h⟩ := wr_h h
      refine g_cast hC hP 1 1 rfl rfl hin dX5_append_29 (fun a3 ev H locs hP => ?_)
      have hP : PD (dC, dI) A s.heap [(q0, .inr (5, [.ref q1, .int length])), (q1, .inl (cc 1, 200, .inl a3))] H locs := hP
      have h := h a3 ev
      refine lv_aload_n hx hb dX5_append_30 rfl (lv_at hl 0 rfl) ?_
      refine lv_dup hx hb dX5_append_31 rfl ?_
      refine g_get hC hP fg_X5_15 0 rfl rfl dX5_append_32 ?_
      refine lv_iconst (v := 1) hx hb dX5_append_35 (by decide) ?_
      refine lv_iadd hx hb dX5_append_36 ?_
      refine g_put hC hP fg_X5_15 0 rfl rfl rfl (Nat.le_of_ble_eq_true rfl) dX5_append_37 (fun H locs hP => ?_)
      have hP : PD (dC, dI) A s.heap [(q0, .inr (5, [.ref q1, .int (length + 1)])), (q1, .inl (cc 1, 200, .inl a3))] H locs := hP
      exact ret_v hC hr hlk hP dX5_append_40 (a3, (length + 1)) (Option.some.inj h) rfl
set_option maxHeartbeats 8000000 in
set_option maxRecDepth 100000 in
theorem c_X5_clear (l : Launch) (dC : Nat → ClassId) (dI : Nat → Nat → Nat) (cc : Nat → ClassId) (q0 q1 : Nat) (length : Int32) (sz : Nat) (o_length : Int32) (hu : f_X5_clear = some o_length) : Met l yX5_clear (mw yX5_clear cX5_clear 1 none) ({ frames := 0, cells := 0, slots := 0, locals := 0 } : Room) (va_Pc [.ref q0] (mP (dC, dI) (ts cc) sz [(q0, .inr (5, [.ref q1, .int length]))])) ((fun A => va_Qv (fun (w : Int32) => w = o_length) (fun (w : Int32) t => va_P (dC, dI) classes [(q0, .inr (5, [.ref q1, .int w]))] t.heap) A) (va_A [(q0, .inr (5, [.ref q1, .int length]))] sz)) 0 0 (va_A [(q0, .inr (5, [.ref q1, .int length]))] sz) := by
  refine met_go (Qc := fun A => va_Qv (fun (w : Int32) => w = o_length) (fun (w : Int32) t => va_P (dC, dI) classes [(q0, .inr (5, [.ref q1, .int w]))] t.heap) A) (by decide) (Nat.le_of_ble_eq_true rfl) ?_
  intro p e s m below meth c A ls H locs hC hr hlk hin hA hP hl _
  have hC : CX p m c cX5_clear 1 s ([.ref q0] : List Value).toArray RX5 (dC, dI) (ts cc) := hC
  have hx := hC.1.1
  have hb := hC.1.2
  have h := hu
  have hu0 := hu
  unfold f_X5_clear at h
  have hl : lv_has ls 1 [(0, .ref q0)] := hl
  refine lv_aload_n hx hb dX5_clear_0 rfl (lv_at hl 0 rfl) ?_
  refine lv_iconst (v := 0) hx hb dX5_clear_1 (by decide) ?_
  refine g_put hC hP fg_X5_15 0 rfl rfl rfl (Nat.le_of_ble_eq_true rfl) dX5_clear_2 (fun H locs hP => ?_)
  have hP : PD (dC, dI) A s.heap [(q0, .inr (5, [.ref q1, .int 0]))] H locs := hP
  exact ret_v hC hr hlk hP dX5_clear_5 0 (Option.some.inj h) rfl
set_option maxHeartbeats 8000000 in
set_option maxRecDepth 100000 in
theorem c_X5_letterAt (l : Launch) (dC : Nat → ClassId) (dI : Nat → Nat → Nat) (cc : Nat → ClassId) (q0 q1 : Nat) (length : Int32) (letters : (Nat → Int32)) (x1 : Int32) (sz : Nat) (ret : Int32) (hu : f_X5_letterAt x1 length letters = some ret) : Met l yX5_letterAt (mw yX5_letterAt cX5_letterAt 2 (some .int)) ({ frames := 0, cells := 0, slots := 0, locals := 0 } : Room) (va_Pc [.ref q0, .int x1] (mP (dC, dI) (ts cc) sz [(q0, .inr (5, [.ref q1, .int length])), (q1, .inl (cc 1, 200, .inl letters))])) ((fun A => va_Qi (fun (r : Int32) (w : Unit) => r = ret ∧ w = ()) (fun (w : Unit) t => va_P (dC, dI) classes [(q0, .inr (5, [.ref q1, .int length])), (q1, .inl (cc 1, 200, .inl letters))] t.heap) A) (va_A [(q0, .inr (5, [.ref q1, .int length])), (q1, .inl (cc 1, 200, .inl letters))] sz)) 0 0 (va_A [(q0, .inr (5, [.ref q1, .int length])), (q1, .inl (cc 1, 200, .inl letters))] sz) := by
  refine met_go (Qc := fun A => va_Qi (fun (r : Int32) (w : Unit) => r = ret ∧ w = ()) (fun (w : Unit) t => va_P (dC, dI) classes [(q0, .inr (5, [.ref q1, .int length])), (q1, .inl (cc 1, 200, .inl letters))] t.heap) A) (by decide) (Nat.le_of_ble_eq_true rfl) ?_
  intro p e s m below meth c A ls H locs hC hr hlk hin hA hP hl _
  have hC : CX p m c cX5_letterAt 2 s ([.ref q0, .int x1] : List Value).toArray RX5 (dC, dI) (ts cc) := hC
  have hx := hC.1.1
  have hb := hC.1.2
  have h := hu
  have hu0 := hu
  unfold f_X5_letterAt at h
  have hl : lv_has ls 2 [(0, .ref q0), (1, .int x1)] := hl
  refine lv_iload_n hx hb dX5_letterAt_0 rfl (lv_at hl 1 rfl) ?_
  refine lv_if_lt (tgt := 21) hx hb dX5_letterAt_1 (by decide) (fun c1 => ?_) (fun c1 => ?_)
  · have h := if_t c1 h
    refine lv_iconst (v := 0) hx hb dX5_letterAt_21 (by decide) ?_
    refine lv_goto (tgt := 31) hx hb dX5_letterAt_22 (by decide) ?_
    exact ret_i hC hr hlk hP dX5_letterAt_31 () (⟨Option.some.inj h, rfl⟩) rfl
  · have h := if_f c1 h
    refine lv_iload_n hx hb dX5_letterAt_4 rfl (lv_at hl 1 rfl) ?_
    refine lv_aload_n hx hb dX5_letterAt_5 rfl (lv_at hl 0 rfl) ?_
    refine g_get hC hP fg_X5_15 0 rfl rfl dX5_letterAt_6 ?_
    refine lv_icmp_ge (tgt := 21) hx hb dX5_letterAt_9 (by decide) (fun c2 => ?_) (fun c2 => ?_)
    · have h := if_t c2 h
      refine lv_iconst (v := 0) hx hb dX5_letterAt_21 (by decide) ?_
      refine lv_goto (tgt := 31) hx hb dX5_letterAt_22 (by decide) ?_
      exact ret_i hC hr hlk hP dX5_letterAt_31 () (⟨Option.some.inj h, rfl⟩) rfl
    · have h := if_f c2 h
      refine lv_iload_n hx hb dX5_letterAt_12 rfl (lv_at hl 1 rfl) ?_
      refine lv_aload_n hx hb dX5_letterAt_13 rfl (lv_at hl 0 rfl) ?_
      refine g_get hC hP fg_X5_9 0 rfl rfl dX5_letterAt_14 ?_
      refine g_alen hC hP 1 1 rfl rfl (v := 200) rfl dX5_letterAt_17 ?_
      refine lv_icmp_lt (tgt := 25) hx hb dX5_letterAt_18 (by decide) (fun c3 => ?_) (fun c3 => ?_)
      · have h := if_t c3 h
        refine lv_aload_n hx hb dX5_letterAt_25 rfl (lv_at hl 0 rfl) ?_
        refine g_get hC hP fg_X5_9 0 rfl rfl dX5_letterAt_26 ?_
        refine lv_iload_n hx hb dX5_letterAt_29 rfl (lv_at hl 1 rfl) ?_
        obtain ⟨hin, h⟩ := rd_h h
        refine g_cald hC hP 1 1 rfl rfl hin dX5_letterAt_30 (fun v4 ev => ?_)
        have h := h v4 ev
        exact ret_i hC hr hlk hP dX5_letterAt_31 () (⟨Option.some.inj h, rfl⟩) rfl
      · have h := if_f c3 h
        refine lv_iconst (v := 0) hx hb dX5_letterAt_21 (by decide) ?_
        refine lv_goto (tgt := 31) hx hb dX5_letterAt_22 (by decide) ?_
        exact ret_i hC hr hlk hP dX5_letterAt_31 () (⟨Option.some.inj h, rfl⟩) rfl
set_option maxHeartbeats 8000000 in
set_option maxRecDepth 100000 in
theorem c_X5_figureAt (l : Launch) (dC : Nat → ClassId) (dI : Nat → Nat → Nat) (cc : Nat → ClassId) (q0 q1 : Nat) (length : Int32) (letters : (Nat → Int32)) (x1 : Int32) (sz : Nat) (ret : Int32) (hu : f_X5_figureAt x1 length letters = some ret) : Met l yX5_figureAt (mw yX5_figureAt cX5_figureAt 3 (some .int)) ({ frames := 1, cells := 0, slots := 0, locals := 21 } : Room) (va_Pc [.ref q0, .int x1] (mP (dC, dI) (ts cc) sz [(q0, .inr (5, [.ref q1, .int length])), (q1, .inl (cc 1, 200, .inl letters))])) ((fun A => va_Qi (fun (r : Int32) (w : Unit) => r = ret ∧ w = ()) (fun (w : Unit) t => va_P (dC, dI) classes [(q0, .inr (5, [.ref q1, .int length])), (q1, .inl (cc 1, 200, .inl letters))] t.heap) A) (va_A [(q0, .inr (5, [.ref q1, .int length])), (q1, .inl (cc 1, 200, .inl letters))] sz)) 0 0 (va_A [(q0, .inr (5, [.ref q1, .int length])), (q1, .inl (cc 1, 200, .inl letters))] sz) := by
  refine met_go (Qc := fun A => va_Qi (fun (r : Int32) (w : Unit) => r = ret ∧ w = ()) (fun (w : Unit) t => va_P (dC, dI) classes [(q0, .inr (5, [.ref q1, .int length])), (q1, .inl (cc 1, 200, .inl letters))] t.heap) A) (by decide) (Nat.le_of_ble_eq_true rfl) ?_
  intro p e s m below meth c A ls H locs hC hr hlk hin hA hP hl _
  have hC : CX p m c cX5_figureAt 3 s ([.ref q0, .int x1] : List Value).toArray RX5 (dC, dI) (ts cc) := hC
  have hx := hC.1.1
  have hb := hC.1.2
  have h := hu
  have hu0 := hu
  unfold f_X5_figureAt at h
  have hl : lv_has ls 3 [(0, .ref q0), (1, .int x1)] := hl
  refine lv_aload_n hx hb dX5_figureAt_0 rfl (lv_at hl 0 rfl) ?_
  refine lv_iload_n hx hb dX5_figureAt_1 rfl (lv_at hl 1 rfl) ?_
  obtain ⟨r1, hu, h⟩ := bnd_h h
  refine kc_i (kV hC (c_X5_letterAt l dC dI cc q0 q1 length letters x1 H.size r1 hu) cv_X5_19 kw317 rfl rfl ⟨(Nat.le_of_ble_eq_true rfl), (Nat.le_of_ble_eq_true rfl)⟩ hP [0, 1] rfl rfl rfl (q0 := 0) rfl (As := [.int x1]) (rest := []) rfl rfl hl.1 (Nat.le_of_ble_eq_true rfl) dX5_figureAt_2 ⟨Nat.zero_le _, Nat.zero_le _⟩) hP hA [0, 1] rfl rfl (fun H locs hP => ?_)
  have hP : PD (dC, dI) A s.heap [(q0, .inr (5, [.ref q1, .int length])), (q1, .inl (cc 1, 200, .inl letters))] H locs := hP
  refine lv_istore_n (lv' := [(2, .int r1), (0, .ref q0), (1, .int x1)]) hx hb dX5_figureAt_5 rfl hl (by decide) rfl (fun ls hl => ?_)
  refine lv_iload_n hx hb dX5_figureAt_6 rfl (lv_at hl 0 rfl) ?_
  refine lv_bipush (v := 48) hx hb dX5_figureAt_7 (by decide) ?_
  refine lv_icmp_lt (tgt := 25) hx hb dX5_figureAt_9 (by decide) (fun c2 => ?_) (fun c2 => ?_)
  · have h := if_t c2 h
    refine lv_iconst (v := -1) hx hb dX5_figureAt_25 (by decide) ?_
    exact ret_i hC hr hlk hP dX5_figureAt_26 () (⟨Option.some.inj h, rfl⟩) rfl
  · have h := if_f c2 h
    refine lv_iload_n hx hb dX5_figureAt_12 rfl (lv_at hl 0 rfl) ?_
    refine lv_bipush (v := 57) hx hb dX5_figureAt_13 (by decide) ?_
    refine lv_icmp_gt (tgt := 25) hx hb dX5_figureAt_15 (by decide) (fun c3 => ?_) (fun c3 => ?_)
    · have h := if_t c3 h
      refine lv_iconst (v := -1) hx hb dX5_figureAt_25 (by decide) ?_
      exact ret_i hC hr hlk hP dX5_figureAt_26 () (⟨Option.some.inj h, rfl⟩) rfl
    · have h := if_f c3 h
      refine lv_iload_n hx hb dX5_figureAt_18 rfl (lv_at hl 0 rfl) ?_
      refine lv_bipush (v := 48) hx hb dX5_figureAt_19 (by decide) ?_
      refine lv_isub hx hb dX5_figureAt_21 ?_
      refine lv_goto (tgt := 26) hx hb dX5_figureAt_22 (by decide) ?_
      exact ret_i hC hr hlk hP dX5_figureAt_26 () (⟨Option.some.inj h, rfl⟩) rfl
set_option maxHeartbeats 8000000 in
set_option maxRecDepth 100000 in
theorem c_X6_clear (l : Launch) (dC : Nat → ClassId) (dI : Nat → Nat → Nat) (cc : Nat → ClassId) (q0 q1 q2 : Nat) (number : Int32) (stocking : Int32) (sz : Nat) (o_number : Int32) (o_stocking : Int32) (hu : f_X6_clear = some (o_number, o_stocking)) : Met l yX6_clear (mw yX6_clear cX6_clear 1 none) ({ frames := 0, cells := 0, slots := 0, locals := 0 } : Room) (va_Pc [.ref q0] (mP (dC, dI) (ts cc) sz [(q0, .inr (6, [.ref q1, .ref q2, .int number, .int stocking]))])) ((fun A => va_Qv (fun (w : Int32 × Int32) => w = (o_number, o_stocking)) (fun (w : Int32 × Int32) t => va_P (dC, dI) classes [(q0, .inr (6, [.ref q1, .ref q2, .int w.1, .int w.2]))] t.heap) A) (va_A [(q0, .inr (6, [.ref q1, .ref q2, .int number, .int stocking]))] sz)) 0 0 (va_A [(q0, .inr (6, [.ref q1, .ref q2, .int number, .int stocking]))] sz) := by
  refine met_go (Qc := fun A => va_Qv (fun (w : Int32 × Int32) => w = (o_number, o_stocking)) (fun (w : Int32 × Int32) t => va_P (dC, dI) classes [(q0, .inr (6, [.ref q1, .ref q2, .int w.1, .int w.2]))] t.heap) A) (by decide) (Nat.le_of_ble_eq_true rfl) ?_
  intro p e s m below meth c A ls H locs hC hr hlk hin hA hP hl _
  have hC : CX p m c cX6_clear 1 s ([.ref q0] : List Value).toArray RX6 (dC, dI) (ts cc) := hC
  have hx := hC.1.1
  have hb := hC.1.2
  have h := hu
  have hu0 := hu
  unfold f_X6_clear at h
  have hl : lv_has ls 1 [(0, .ref q0)] := hl
  refine lv_aload_n hx hb dX6_clear_0 rfl (lv_at hl 0 rfl) ?_
  refine lv_iconst (v := 0) hx hb dX6_clear_1 (by decide) ?_
  refine g_put hC hP fg_X6_18 0 rfl rfl rfl (Nat.le_of_ble_eq_true rfl) dX6_clear_2 (fun H locs hP => ?_)
  have hP : PD (dC, dI) A s.heap [(q0, .inr (6, [.ref q1, .ref q2, .int 0, .int stocking]))] H locs := hP
  refine lv_aload_n hx hb dX6_clear_5 rfl (lv_at hl 0 rfl) ?_
  refine lv_iconst (v := 2) hx hb dX6_clear_6 (by decide) ?_
  refine g_put hC hP fg_X6_22 0 rfl rfl rfl (Nat.le_of_ble_eq_true rfl) dX6_clear_7 (fun H locs hP => ?_)
  have hP : PD (dC, dI) A s.heap [(q0, .inr (6, [.ref q1, .ref q2, .int 0, .int 2]))] H locs := hP
  exact ret_v hC hr hlk hP dX6_clear_10 (0, 2) (Option.some.inj h) rfl
set_option maxHeartbeats 8000000 in
set_option maxRecDepth 100000 in
theorem c_X6_copy (l : Launch) (dC : Nat → ClassId) (dI : Nat → Nat → Nat) (cc : Nat → ClassId) (q0 q1 q2 q3 q4 q5 : Nat) (number : Int32) (stocking : Int32) (lefts_ : (Nat → Int32)) (rights_ : (Nat → Int32)) (o1_number : Int32) (o1_stocking : Int32) (o1_lefts : (Nat → Int32)) (o1_rights : (Nat → Int32)) (sz : Nat) (o_lefts_ : (Nat → Int32)) (o_rights_ : (Nat → Int32)) (o_number : Int32) (o_stocking : Int32) (hu : f_X6_copy lefts_ rights_ o1_number o1_stocking o1_lefts o1_rights = some (o_lefts_, o_rights_, o_number, o_stocking)) : Met l yX6_copy (mw yX6_copy cX6_copy 2 none) ({ frames := 2, cells := 0, slots := 0, locals := 61 } : Room) (va_Pc [.ref q0, .ref q3] (mP (dC, dI) (ts cc) sz [(q0, .inr (6, [.ref q1, .ref q2, .int number, .int stocking])), (q1, .inl (cc 0, 5, .inl lefts_)), (q2, .inl (cc 0, 5, .inl rights_)), (q3, .inr (6, [.ref q4, .ref q5, .int o1_number, .int o1_stocking])), (q4, .inl (cc 0, 5, .inl o1_lefts)), (q5, .inl (cc 0, 5, .inl o1_rights))])) ((fun A => va_Qv (fun (w : (Nat → Int32) × (Nat → Int32) × Int32 × Int32) => w = (o_lefts_, o_rights_, o_number, o_stocking)) (fun (w : (Nat → Int32) × (Nat → Int32) × Int32 × Int32) t => va_P (dC, dI) classes [(q0, .inr (6, [.ref q1, .ref q2, .int w.2.2.1, .int w.2.2.2])), (q1, .inl (cc 0, 5, .inl w.1)), (q2, .inl (cc 0, 5, .inl w.2.1)), (q3, .inr (6, [.ref q4, .ref q5, .int o1_number, .int o1_stocking])), (q4, .inl (cc 0, 5, .inl o1_lefts)), (q5, .inl (cc 0, 5, .inl o1_rights))] t.heap) A) (va_A [(q0, .inr (6, [.ref q1, .ref q2, .int number, .int stocking])), (q1, .inl (cc 0, 5, .inl lefts_)), (q2, .inl (cc 0, 5, .inl rights_)), (q3, .inr (6, [.ref q4, .ref q5, .int o1_number, .int o1_stocking])), (q4, .inl (cc 0, 5, .inl o1_lefts)), (q5, .inl (cc 0, 5, .inl o1_rights))] sz)) 0 0 (va_A [(q0, .inr (6, [.ref q1, .ref q2, .int number, .int stocking])), (q1, .inl (cc 0, 5, .inl lefts_)), (q2, .inl (cc 0, 5, .inl rights_)), (q3, .inr (6, [.ref q4, .ref q5, .int o1_number, .int o1_stocking])), (q4, .inl (cc 0, 5, .inl o1_lefts)), (q5, .inl (cc 0, 5, .inl o1_rights))] sz) := by
  refine met_go (Qc := fun A => va_Qv (fun (w : (Nat → Int32) × (Nat → Int32) × Int32 × Int32) => w = (o_lefts_, o_rights_, o_number, o_stocking)) (fun (w : (Nat → Int32) × (Nat → Int32) × Int32 × Int32) t => va_P (dC, dI) classes [(q0, .inr (6, [.ref q1, .ref q2, .int w.2.2.1, .int w.2.2.2])), (q1, .inl (cc 0, 5, .inl w.1)), (q2, .inl (cc 0, 5, .inl w.2.1)), (q3, .inr (6, [.ref q4, .ref q5, .int o1_number, .int o1_stocking])), (q4, .inl (cc 0, 5, .inl o1_lefts)), (q5, .inl (cc 0, 5, .inl o1_rights))] t.heap) A) (by decide) (Nat.le_of_ble_eq_true rfl) ?_
  intro p e s m below meth c A ls H locs hC hr hlk hin hA hP hl _
  have hC : CX p m c cX6_copy 2 s ([.ref q0, .ref q3] : List Value).toArray RX6 (dC, dI) (ts cc) := hC
  have hx := hC.1.1
  have hb := hC.1.2
  have h := hu
  have hu0 := hu
  unfold f_X6_copy at h
  have hl : lv_has ls 2 [(0, .ref q0), (1, .ref q3)] := hl
  refine lv_aload_n hx hb dX6_copy_0 rfl (lv_at hl 1 rfl) ?_
  refine lv_ifnull hx hb dX6_copy_1 ?_
  refine lv_aload_n hx hb dX6_copy_4 rfl (lv_at hl 1 rfl) ?_
  refine g_get hC hP fg_X6_9 3 rfl rfl dX6_copy_5 ?_
  refine lv_aload_n hx hb dX6_copy_8 rfl (lv_at hl 0 rfl) ?_
  refine g_get hC hP fg_X6_9 0 rfl rfl dX6_copy_9 ?_
  obtain ⟨w1, hu, h⟩ := bnd_h h
  refine kc_v (kN hC (c_X9_copyRow l dC dI cc q4 q1 5 5 o1_lefts lefts_ H.size w1 hu) cn_X6_25 kw375 rfl rfl ⟨(Nat.le_of_ble_eq_true rfl), (Nat.le_of_ble_eq_true rfl)⟩ hP [4, 1] rfl rfl (As := [.ref q4, .ref q1]) (rest := []) rfl rfl hl.1 (Nat.le_of_ble_eq_true rfl) dX6_copy_12 ⟨Nat.zero_le _, Nat.zero_le _⟩) hP hA [4, 1] rfl rfl (fun H locs hP => ?_)
  have hP : PD (dC, dI) A s.heap [(q0, .inr (6, [.ref q1, .ref q2, .int number, .int stocking])), (q1, .inl (cc 0, 5, .inl w1)), (q2, .inl (cc 0, 5, .inl rights_)), (q3, .inr (6, [.ref q4, .ref q5, .int o1_number, .int o1_stocking])), (q4, .inl (cc 0, 5, .inl o1_lefts)), (q5, .inl (cc 0, 5, .inl o1_rights))] H locs := hP
  refine lv_aload_n hx hb dX6_copy_15 rfl (lv_at hl 1 rfl) ?_
  refine g_get hC hP fg_X6_15 3 rfl rfl dX6_copy_16 ?_
  refine lv_aload_n hx hb dX6_copy_19 rfl (lv_at hl 0 rfl) ?_
  refine g_get hC hP fg_X6_15 0 rfl rfl dX6_copy_20 ?_
  obtain ⟨w2, hu, h⟩ := bnd_h h
  refine kc_v (kN hC (c_X9_copyRow l dC dI cc q5 q2 5 5 o1_rights rights_ H.size w2 hu) cn_X6_25 kw375 rfl rfl ⟨(Nat.le_of_ble_eq_true rfl), (Nat.le_of_ble_eq_true rfl)⟩ hP [5, 2] rfl rfl (As := [.ref q5, .ref q2]) (rest := []) rfl rfl hl.1 (Nat.le_of_ble_eq_true rfl) dX6_copy_23 ⟨Nat.zero_le _, Nat.zero_le _⟩) hP hA [5, 2] rfl rfl (fun H locs hP => ?_)
  have hP : PD (dC, dI) A s.heap [(q0, .inr (6, [.ref q1, .ref q2, .int number, .int stocking])), (q1, .inl (cc 0, 5, .inl w1)), (q2, .inl (cc 0, 5, .inl w2)), (q3, .inr (6, [.ref q4, .ref q5, .int o1_number, .int o1_stocking])), (q4, .inl (cc 0, 5, .inl o1_lefts)), (q5, .inl (cc 0, 5, .inl o1_rights))] H locs := hP
  refine lv_aload_n hx hb dX6_copy_26 rfl (lv_at hl 0 rfl) ?_
  refine lv_aload_n hx hb dX6_copy_27 rfl (lv_at hl 1 rfl) ?_
  refine g_get hC hP fg_X6_18 3 rfl rfl dX6_copy_28 ?_
  refine g_put hC hP fg_X6_18 0 rfl rfl rfl (Nat.le_of_ble_eq_true rfl) dX6_copy_31 (fun H locs hP => ?_)
  have hP : PD (dC, dI) A s.heap [(q0, .inr (6, [.ref q1, .ref q2, .int o1_number, .int stocking])), (q1, .inl (cc 0, 5, .inl w1)), (q2, .inl (cc 0, 5, .inl w2)), (q3, .inr (6, [.ref q4, .ref q5, .int o1_number, .int o1_stocking])), (q4, .inl (cc 0, 5, .inl o1_lefts)), (q5, .inl (cc 0, 5, .inl o1_rights))] H locs := hP
  refine lv_aload_n hx hb dX6_copy_34 rfl (lv_at hl 0 rfl) ?_
  refine lv_aload_n hx hb dX6_copy_35 rfl (lv_at hl 1 rfl) ?_
  refine g_get hC hP fg_X6_22 3 rfl rfl dX6_copy_36 ?_
  refine g_put hC hP fg_X6_22 0 rfl rfl rfl (Nat.le_of_ble_eq_true rfl) dX6_copy_39 (fun H locs hP => ?_)
  have hP : PD (dC, dI) A s.heap [(q0, .inr (6, [.ref q1, .ref q2, .int o1_number, .int o1_stocking])), (q1, .inl (cc 0, 5, .inl w1)), (q2, .inl (cc 0, 5, .inl w2)), (q3, .inr (6, [.ref q4, .ref q5, .int o1_number, .int o1_stocking])), (q4, .inl (cc 0, 5, .inl o1_lefts)), (q5, .inl (cc 0, 5, .inl o1_rights))] H locs := hP
  exact ret_v hC hr hlk hP dX6_copy_42 (w1, w2, o1_number, o1_stocking) (Option.some.inj h) rfl
set_option maxHeartbeats 8000000 in
set_option maxRecDepth 100000 in
theorem c_X6_add (l : Launch) (dC : Nat → ClassId) (dI : Nat → Nat → Nat) (cc : Nat → ClassId) (q0 q1 q2 : Nat) (number : Int32) (stocking : Int32) (lefts_ : (Nat → Int32)) (rights_ : (Nat → Int32)) (x1 : Int32) (x2 : Int32) (sz : Nat) (o_lefts_ : (Nat → Int32)) (o_rights_ : (Nat → Int32)) (o_number : Int32) (hu : f_X6_add x1 x2 number lefts_ rights_ = some (o_lefts_, o_rights_, o_number)) : Met l yX6_add (mw yX6_add cX6_add 3 none) ({ frames := 1, cells := 0, slots := 0, locals := 22 } : Room) (va_Pc [.ref q0, .int x1, .int x2] (mP (dC, dI) (ts cc) sz [(q0, .inr (6, [.ref q1, .ref q2, .int number, .int stocking])), (q1, .inl (cc 0, 5, .inl lefts_)), (q2, .inl (cc 0, 5, .inl rights_))])) ((fun A => va_Qv (fun (w : (Nat → Int32) × (Nat → Int32) × Int32) => w = (o_lefts_, o_rights_, o_number)) (fun (w : (Nat → Int32) × (Nat → Int32) × Int32) t => va_P (dC, dI) classes [(q0, .inr (6, [.ref q1, .ref q2, .int w.2.2, .int stocking])), (q1, .inl (cc 0, 5, .inl w.1)), (q2, .inl (cc 0, 5, .inl w.2.1))] t.heap) A) (va_A [(q0, .inr (6, [.ref q1, .ref q2, .int number, .int stocking])), (q1, .inl (cc 0, 5, .inl lefts_)), (q2, .inl (cc 0, 5, .inl rights_))] sz)) 0 0 (va_A [(q0, .inr (6, [.ref q1, .ref q2, .int number, .int stocking])), (q1, .inl (cc 0, 5, .inl lefts_)), (q2, .inl (cc 0, 5, .inl rights_))] sz) := by
  refine met_go (Qc := fun A => va_Qv (fun (w : (Nat → Int32) × (Nat → Int32) × Int32) => w = (o_lefts_, o_rights_, o_number)) (fun (w : (Nat → Int32) × (Nat → Int32) × Int32) t => va_P (dC, dI) classes [(q0, .inr (6, [.ref q1, .ref q2, .int w.2.2, .int stocking])), (q1, .inl (cc 0, 5, .inl w.1)), (q2, .inl (cc 0, 5, .inl w.2.1))] t.heap) A) (by decide) (Nat.le_of_ble_eq_true rfl) ?_
  intro p e s m below meth c A ls H locs hC hr hlk hin hA hP hl _
  have hC : CX p m c cX6_add 3 s ([.ref q0, .int x1, .int x2] : List Value).toArray RX6 (dC, dI) (ts cc) := hC
  have hx := hC.1.1
  have hb := hC.1.2
  have h := hu
  have hu0 := hu
  unfold f_X6_add at h
  have hl : lv_has ls 3 [(0, .ref q0), (1, .int x1), (2, .int x2)] := hl
  refine lv_aload_n hx hb dX6_add_0 rfl (lv_at hl 0 rfl) ?_
  refine g_get hC hP fg_X6_18 0 rfl rfl dX6_add_1 ?_
  refine lv_iconst (v := 5) hx hb dX6_add_4 (by decide) ?_
  refine lv_icmp_ge (tgt := 42) hx hb dX6_add_5 (by decide) (fun c1 => ?_) (fun c1 => ?_)
  · have h := if_t c1 h
    exact ret_v hC hr hlk hP dX6_add_42 (lefts_, rights_, number) (Option.some.inj h) rfl
  · have h := if_f c1 h
    refine lv_aload_n hx hb dX6_add_8 rfl (lv_at hl 0 rfl) ?_
    refine g_get hC hP fg_X6_9 0 rfl rfl dX6_add_9 ?_
    refine lv_aload_n hx hb dX6_add_12 rfl (lv_at hl 0 rfl) ?_
    refine g_get hC hP fg_X6_18 0 rfl rfl dX6_add_13 ?_
    refine lv_iload_n hx hb dX6_add_16 rfl (lv_at hl 1 rfl) ?_
    obtain ⟨w2, hu, h⟩ := bnd_h h
    refine kc_v (kN hC (c_X9_put l dC dI cc q1 5 lefts_ number x1 H.size w2 hu) cn_X6_29 kw320 rfl rfl ⟨(Nat.le_of_ble_eq_true rfl), (Nat.le_of_ble_eq_true rfl)⟩ hP [1] rfl rfl (As := [.ref q1, .int number, .int x1]) (rest := []) rfl rfl hl.1 (Nat.le_of_ble_eq_true rfl) dX6_add_17 ⟨Nat.zero_le _, Nat.zero_le _⟩) hP hA [1] rfl rfl (fun H locs hP => ?_)
    have hP : PD (dC, dI) A s.heap [(q0, .inr (6, [.ref q1, .ref q2, .int number, .int stocking])), (q1, .inl (cc 0, 5, .inl w2)), (q2, .inl (cc 0, 5, .inl rights_))] H locs := hP
    refine lv_aload_n hx hb dX6_add_20 rfl (lv_at hl 0 rfl) ?_
    refine g_get hC hP fg_X6_15 0 rfl rfl dX6_add_21 ?_
    refine lv_aload_n hx hb dX6_add_24 rfl (lv_at hl 0 rfl) ?_
    refine g_get hC hP fg_X6_18 0 rfl rfl dX6_add_25 ?_
    refine lv_iload_n hx hb dX6_add_28 rfl (lv_at hl 2 rfl) ?_
    obtain ⟨w3, hu, h⟩ := bnd_h h
    refine kc_v (kN hC (c_X9_put l dC dI cc q2 5 rights_ number x2 H.size w3 hu) cn_X6_29 kw320 rfl rfl ⟨(Nat.le_of_ble_eq_true rfl), (Nat.le_of_ble_eq_true rfl)⟩ hP [2] rfl rfl (As := [.ref q2, .int number, .int x2]) (rest := []) rfl rfl hl.1 (Nat.le_of_ble_eq_true rfl) dX6_add_29 ⟨Nat.zero_le _, Nat.zero_le _⟩) hP hA [2] rfl rfl (fun H locs hP => ?_)
    have hP : PD (dC, dI) A s.heap [(q0, .inr (6, [.ref q1, .ref q2, .int number, .int stocking])), (q1, .inl (cc 0, 5, .inl w2)), (q2, .inl (cc 0, 5, .inl w3))] H locs := hP
    refine lv_aload_n hx hb dX6_add_32 rfl (lv_at hl 0 rfl) ?_
    refine lv_dup hx hb dX6_add_33 rfl ?_
    refine g_get hC hP fg_X6_18 0 rfl rfl dX6_add_34 ?_
    refine lv_iconst (v := 1) hx hb dX6_add_37 (by decide) ?_
    refine lv_iadd hx hb dX6_add_38 ?_
    refine g_put hC hP fg_X6_18 0 rfl rfl rfl (Nat.le_of_ble_eq_true rfl) dX6_add_39 (fun H locs hP => ?_)
    have hP : PD (dC, dI) A s.heap [(q0, .inr (6, [.ref q1, .ref q2, .int (number + 1), .int stocking])), (q1, .inl (cc 0, 5, .inl w2)), (q2, .inl (cc 0, 5, .inl w3))] H locs := hP
    exact ret_v hC hr hlk hP dX6_add_42 (w2, w3, (number + 1)) (Option.some.inj h) rfl
set_option maxHeartbeats 8000000 in
set_option maxRecDepth 100000 in
theorem c_X6_foot (l : Launch) (dC : Nat → ClassId) (dI : Nat → Nat → Nat) (cc : Nat → ClassId) (q0 q1 q2 : Nat) (number : Int32) (stocking : Int32) (lefts_ : (Nat → Int32)) (rights_ : (Nat → Int32)) (x1 : Int32) (x2 : Int32) (sz : Nat) (ret : Int32) (hu : f_X6_foot x1 x2 lefts_ rights_ = some ret) : Met l yX6_foot (mw yX6_foot cX6_foot 3 (some .int)) ({ frames := 1, cells := 0, slots := 0, locals := 21 } : Room) (va_Pc [.ref q0, .int x1, .int x2] (mP (dC, dI) (ts cc) sz [(q0, .inr (6, [.ref q1, .ref q2, .int number, .int stocking])), (q1, .inl (cc 0, 5, .inl lefts_)), (q2, .inl (cc 0, 5, .inl rights_))])) ((fun A => va_Qi (fun (r : Int32) (w : Unit) => r = ret ∧ w = ()) (fun (w : Unit) t => va_P (dC, dI) classes [(q0, .inr (6, [.ref q1, .ref q2, .int number, .int stocking])), (q1, .inl (cc 0, 5, .inl lefts_)), (q2, .inl (cc 0, 5, .inl rights_))] t.heap) A) (va_A [(q0, .inr (6, [.ref q1, .ref q2, .int number, .int stocking])), (q1, .inl (cc 0, 5, .inl lefts_)), (q2, .inl (cc 0, 5, .inl rights_))] sz)) 0 0 (va_A [(q0, .inr (6, [.ref q1, .ref q2, .int number, .int stocking])), (q1, .inl (cc 0, 5, .inl lefts_)), (q2, .inl (cc 0, 5, .inl rights_))] sz) := by
  refine met_go (Qc := fun A => va_Qi (fun (r : Int32) (w : Unit) => r = ret ∧ w = ()) (fun (w : Unit) t => va_P (dC, dI) classes [(q0, .inr (6, [.ref q1, .ref q2, .int number, .int stocking])), (q1, .inl (cc 0, 5, .inl lefts_)), (q2, .inl (cc 0, 5, .inl rights_))] t.heap) A) (by decide) (Nat.le_of_ble_eq_true rfl) ?_
  intro p e s m below meth c A ls H locs hC hr hlk hin hA hP hl _
  have hC : CX p m c cX6_foot 3 s ([.ref q0, .int x1, .int x2] : List Value).toArray RX6 (dC, dI) (ts cc) := hC
  have hx := hC.1.1
  have hb := hC.1.2
  have h := hu
  have hu0 := hu
  unfold f_X6_foot at h
  have hl : lv_has ls 3 [(0, .ref q0), (1, .int x1), (2, .int x2)] := hl
  refine lv_iload_n hx hb dX6_foot_0 rfl (lv_at hl 2 rfl) ?_
  refine lv_if_ne (tgt := 11) hx hb dX6_foot_1 (by decide) (fun c1 => ?_) (fun c1 => ?_)
  · have h := if_f c1 h
    refine lv_aload_n hx hb dX6_foot_11 rfl (lv_at hl 0 rfl) ?_
    refine g_get hC hP fg_X6_15 0 rfl rfl dX6_foot_12 ?_
    refine lv_iload_n hx hb dX6_foot_15 rfl (lv_at hl 1 rfl) ?_
    obtain ⟨r2, hu, h⟩ := bnd_h h
    refine kc_i (kN hC (c_X9_at l dC dI cc q2 5 rights_ x1 H.size r2 hu) cn_X6_33 kw332 rfl rfl ⟨(Nat.le_of_ble_eq_true rfl), (Nat.le_of_ble_eq_true rfl)⟩ hP [2] rfl rfl (As := [.ref q2, .int x1]) (rest := []) rfl rfl hl.1 (Nat.le_of_ble_eq_true rfl) dX6_foot_16 ⟨Nat.zero_le _, Nat.zero_le _⟩) hP hA [2] rfl rfl (fun H locs hP => ?_)
    have hP : PD (dC, dI) A s.heap [(q0, .inr (6, [.ref q1, .ref q2, .int number, .int stocking])), (q1, .inl (cc 0, 5, .inl lefts_)), (q2, .inl (cc 0, 5, .inl rights_))] H locs := hP
    exact ret_i hC hr hlk hP dX6_foot_19 () (⟨Option.some.inj h, rfl⟩) rfl
  · have h := if_t c1 h
    refine lv_aload_n hx hb dX6_foot_4 rfl (lv_at hl 0 rfl) ?_
    refine g_get hC hP fg_X6_9 0 rfl rfl dX6_foot_5 ?_
    refine lv_goto (tgt := 15) hx hb dX6_foot_8 (by decide) ?_
    refine lv_iload_n hx hb dX6_foot_15 rfl (lv_at hl 1 rfl) ?_
    obtain ⟨r3, hu, h⟩ := bnd_h h
    refine kc_i (kN hC (c_X9_at l dC dI cc q1 5 lefts_ x1 H.size r3 hu) cn_X6_33 kw332 rfl rfl ⟨(Nat.le_of_ble_eq_true rfl), (Nat.le_of_ble_eq_true rfl)⟩ hP [1] rfl rfl (As := [.ref q1, .int x1]) (rest := []) rfl rfl hl.1 (Nat.le_of_ble_eq_true rfl) dX6_foot_16 ⟨Nat.zero_le _, Nat.zero_le _⟩) hP hA [1] rfl rfl (fun H locs hP => ?_)
    have hP : PD (dC, dI) A s.heap [(q0, .inr (6, [.ref q1, .ref q2, .int number, .int stocking])), (q1, .inl (cc 0, 5, .inl lefts_)), (q2, .inl (cc 0, 5, .inl rights_))] H locs := hP
    exact ret_i hC hr hlk hP dX6_foot_19 () (⟨Option.some.inj h, rfl⟩) rfl
set_option maxHeartbeats 8000000 in
set_option maxRecDepth 100000 in
theorem c_X6_suits (l : Launch) (dC : Nat → ClassId) (dI : Nat → Nat → Nat) (cc : Nat → ClassId) (q0 q1 q2 : Nat) (number : Int32) (stocking : Int32) (lefts_ : (Nat → Int32)) (rights_ : (Nat → Int32)) (x1 : Int32) (x2 : Int32) (x3 : Int32) (sz : Nat) (ret : Int32) (hu : f_X6_suits x1 x2 x3 stocking lefts_ rights_ = some ret) : Met l yX6_suits (mw yX6_suits cX6_suits 5 (some .boolean)) ({ frames := 2, cells := 0, slots := 0, locals := 43 } : Room) (va_Pc [.ref q0, .int x1, .int x2, .int x3] (mP (dC, dI) (ts cc) sz [(q0, .inr (6, [.ref q1, .ref q2, .int number, .int stocking])), (q1, .inl (cc 0, 5, .inl lefts_)), (q2, .inl (cc 0, 5, .inl rights_))])) ((fun A => va_Qi (fun (r : Int32) (w : Unit) => narrow .boolean (.int r) = .int r ∧ (r = ret ∧ w = ())) (fun (w : Unit) t => va_P (dC, dI) classes [(q0, .inr (6, [.ref q1, .ref q2, .int number, .int stocking])), (q1, .inl (cc 0, 5, .inl lefts_)), (q2, .inl (cc 0, 5, .inl rights_))] t.heap) A) (va_A [(q0, .inr (6, [.ref q1, .ref q2, .int number, .int stocking])), (q1, .inl (cc 0, 5, .inl lefts_)), (q2, .inl (cc 0, 5, .inl rights_))] sz)) 0 0 (va_A [(q0, .inr (6, [.ref q1, .ref q2, .int number, .int stocking])), (q1, .inl (cc 0, 5, .inl lefts_)), (q2, .inl (cc 0, 5, .inl rights_))] sz) := by
  refine met_go (Qc := fun A => va_Qi (fun (r : Int32) (w : Unit) => narrow .boolean (.int r) = .int r ∧ (r = ret ∧ w = ())) (fun (w : Unit) t => va_P (dC, dI) classes [(q0, .inr (6, [.ref q1, .ref q2, .int number, .int stocking])), (q1, .inl (cc 0, 5, .inl lefts_)), (q2, .inl (cc 0, 5, .inl rights_))] t.heap) A) (by decide) (Nat.le_of_ble_eq_true rfl) ?_
  intro p e s m below meth c A ls H locs hC hr hlk hin hA hP hl _
  have hC : CX p m c cX6_suits 5 s ([.ref q0, .int x1, .int x2, .int x3] : List Value).toArray RX6 (dC, dI) (ts cc) := hC
  have hx := hC.1.1
  have hb := hC.1.2
  have h := hu
  have hu0 := hu
  unfold f_X6_suits at h
  have hl : lv_has ls 5 [(0, .ref q0), (1, .int x1), (2, .int x2), (3, .int x3)] := hl
  refine lv_aload_n hx hb dX6_suits_0 rfl (lv_at hl 0 rfl) ?_
  refine lv_iload_n hx hb dX6_suits_1 rfl (lv_at hl 1 rfl) ?_
  refine lv_iload_n hx hb dX6_suits_2 rfl (lv_at hl 2 rfl) ?_
  obtain ⟨r1, hu, h⟩ := bnd_h h
  refine kc_i (kV hC (c_X6_foot l dC dI cc q0 q1 q2 number stocking lefts_ rights_ x1 x2 H.size r1 hu) cv_X6_37 kw482 rfl rfl ⟨(Nat.le_of_ble_eq_true rfl), (Nat.le_of_ble_eq_true rfl)⟩ hP [0, 1, 2] rfl rfl rfl (q0 := 0) rfl (As := [.int x1, .int x2]) (rest := []) rfl rfl hl.1 (Nat.le_of_ble_eq_true rfl) dX6_suits_3 ⟨Nat.zero_le _, Nat.zero_le _⟩) hP hA [0, 1, 2] rfl rfl (fun H locs hP => ?_)
  have hP : PD (dC, dI) A s.heap [(q0, .inr (6, [.ref q1, .ref q2, .int number, .int stocking])), (q1, .inl (cc 0, 5, .inl lefts_)), (q2, .inl (cc 0, 5, .inl rights_))] H locs := hP
  refine lv_aload_n hx hb dX6_suits_6 rfl (lv_at hl 0 rfl) ?_
  refine g_get hC hP fg_X6_22 0 rfl rfl dX6_suits_7 ?_
  refine lv_iadd hx hb dX6_suits_10 ?_
  refine lv_istore (lv' := [(4, .int (r1 + stocking)), (0, .ref q0), (1, .int x1), (2, .int x2), (3, .int x3)]) hx hb dX6_suits_11 hl (by decide) rfl (fun ls hl => ?_)
  refine lv_iload_n hx hb dX6_suits_13 rfl (lv_at hl 4 rfl) ?_
  refine lv_iload hx hb dX6_suits_14 (lv_at hl 0 rfl) ?_
  refine lv_iload hx hb dX6_suits_16 (lv_at hl 0 rfl) ?_
  refine lv_iconst (v := 4) hx hb dX6_suits_18 (by decide) ?_
  refine lv_iadd hx hb dX6_suits_19 ?_
  obtain ⟨r2, hu, h⟩ := bnd_h h
  refine kc_z (kN hC (c_X9_within l dC dI cc x3 (r1 + stocking) ((r1 + stocking) + 4) H.size r2 hu) cn_X6_41 kw338 rfl rfl ⟨(Nat.le_of_ble_eq_true rfl), (Nat.le_of_ble_eq_true rfl)⟩ hP [] rfl rfl (As := [.int x3, .int (r1 + stocking), .int ((r1 + stocking) + 4)]) (rest := []) rfl rfl hl.1 (Nat.le_of_ble_eq_true rfl) dX6_suits_20 ⟨Nat.zero_le _, Nat.zero_le _⟩) hP hA [] rfl rfl (fun hz_r2 H locs hP => ?_)
  have hP : PD (dC, dI) A s.heap [(q0, .inr (6, [.ref q1, .ref q2, .int number, .int stocking])), (q1, .inl (cc 0, 5, .inl lefts_)), (q2, .inl (cc 0, 5, .inl rights_))] H locs := hP
  exact ret_z hC hr hz_r2 hlk hP dX6_suits_23 () (⟨Option.some.inj h, rfl⟩) rfl
set_option maxHeartbeats 8000000 in
set_option maxRecDepth 100000 in
theorem c_X7_add (l : Launch) (dC : Nat → ClassId) (dI : Nat → Nat → Nat) (cc : Nat → ClassId) (q0 q1 q2 q3 : Nat) (sounds : Int32) (clogs : (Nat → Int32)) (limits : (Nat → Int32)) (clears : (Nat → Int32)) (x1 : Int32) (x2 : Int32) (x3 : Int32) (sz : Nat) (o_clogs : (Nat → Int32)) (o_limits : (Nat → Int32)) (o_clears : (Nat → Int32)) (o_sounds : Int32) (hu : f_X7_add x1 x2 x3 sounds clogs limits clears = some (o_clogs, o_limits, o_clears, o_sounds)) : Met l yX7_add (mw yX7_add cX7_add 4 none) ({ frames := 1, cells := 0, slots := 0, locals := 22 } : Room) (va_Pc [.ref q0, .int x1, .int x2, .int x3] (mP (dC, dI) (ts cc) sz [(q0, .inr (7, [.ref q1, .ref q2, .ref q3, .int sounds])), (q1, .inl (cc 0, 8, .inl clogs)), (q2, .inl (cc 0, 8, .inl limits)), (q3, .inl (cc 0, 8, .inl clears))])) ((fun A => va_Qv (fun (w : (Nat → Int32) × (Nat → Int32) × (Nat → Int32) × Int32) => w = (o_clogs, o_limits, o_clears, o_sounds)) (fun (w : (Nat → Int32) × (Nat → Int32) × (Nat → Int32) × Int32) t => va_P (dC, dI) classes [(q0, .inr (7, [.ref q1, .ref q2, .ref q3, .int w.2.2.2])), (q1, .inl (cc 0, 8, .inl w.1)), (q2, .inl (cc 0, 8, .inl w.2.1)), (q3, .inl (cc 0, 8, .inl w.2.2.1))] t.heap) A) (va_A [(q0, .inr (7, [.ref q1, .ref q2, .ref q3, .int sounds])), (q1, .inl (cc 0, 8, .inl clogs)), (q2, .inl (cc 0, 8, .inl limits)), (q3, .inl (cc 0, 8, .inl clears))] sz)) 0 0 (va_A [(q0, .inr (7, [.ref q1, .ref q2, .ref q3, .int sounds])), (q1, .inl (cc 0, 8, .inl clogs)), (q2, .inl (cc 0, 8, .inl limits)), (q3, .inl (cc 0, 8, .inl clears))] sz) := by
  refine met_go (Qc := fun A => va_Qv (fun (w : (Nat → Int32) × (Nat → Int32) × (Nat → Int32) × Int32) => w = (o_clogs, o_limits, o_clears, o_sounds)) (fun (w : (Nat → Int32) × (Nat → Int32) × (Nat → Int32) × Int32) t => va_P (dC, dI) classes [(q0, .inr (7, [.ref q1, .ref q2, .ref q3, .int w.2.2.2])), (q1, .inl (cc 0, 8, .inl w.1)), (q2, .inl (cc 0, 8, .inl w.2.1)), (q3, .inl (cc 0, 8, .inl w.2.2.1))] t.heap) A) (by decide) (Nat.le_of_ble_eq_true rfl) ?_
  intro p e s m below meth c A ls H locs hC hr hlk hin hA hP hl _
  have hC : CX p m c cX7_add 4 s ([.ref q0, .int x1, .int x2, .int x3] : List Value).toArray RX7 (dC, dI) (ts cc) := hC
  have hx := hC.1.1
  have hb := hC.1.2
  have h := hu
  have hu0 := hu
  unfold f_X7_add at h
  have hl : lv_has ls 4 [(0, .ref q0), (1, .int x1), (2, .int x2), (3, .int x3)] := hl
  refine lv_aload_n hx hb dX7_add_0 rfl (lv_at hl 0 rfl) ?_
  refine g_get hC hP fg_X7_21 0 rfl rfl dX7_add_1 ?_
  refine lv_bipush (v := 8) hx hb dX7_add_4 (by decide) ?_
  refine lv_icmp_ge (tgt := 55) hx hb dX7_add_6 (by decide) (fun c1 => ?_) (fun c1 => ?_)
  · have h := if_t c1 h
    exact ret_v hC hr hlk hP dX7_add_55 (clogs, limits, clears, sounds) (Option.some.inj h) rfl
  · have h := if_f c1 h
    refine lv_aload_n hx hb dX7_add_9 rfl (lv_at hl 0 rfl) ?_
    refine g_get hC hP fg_X7_9 0 rfl rfl dX7_add_10 ?_
    refine lv_aload_n hx hb dX7_add_13 rfl (lv_at hl 0 rfl) ?_
    refine g_get hC hP fg_X7_21 0 rfl rfl dX7_add_14 ?_
    refine lv_iload_n hx hb dX7_add_17 rfl (lv_at hl 1 rfl) ?_
    obtain ⟨w2, hu, h⟩ := bnd_h h
    refine kc_v (kN hC (c_X9_put l dC dI cc q1 8 clogs sounds x1 H.size w2 hu) cn_X7_25 kw320 rfl rfl ⟨(Nat.le_of_ble_eq_true rfl), (Nat.le_of_ble_eq_true rfl)⟩ hP [1] rfl rfl (As := [.ref q1, .int sounds, .int x1]) (rest := []) rfl rfl hl.1 (Nat.le_of_ble_eq_true rfl) dX7_add_18 ⟨Nat.zero_le _, Nat.zero_le _⟩) hP hA [1] rfl rfl (fun H locs hP => ?_)
    have hP : PD (dC, dI) A s.heap [(q0, .inr (7, [.ref q1, .ref q2, .ref q3, .int sounds])), (q1, .inl (cc 0, 8, .inl w2)), (q2, .inl (cc 0, 8, .inl limits)), (q3, .inl (cc 0, 8, .inl clears))] H locs := hP
    refine lv_aload_n hx hb dX7_add_21 rfl (lv_at hl 0 rfl) ?_
    refine g_get hC hP fg_X7_15 0 rfl rfl dX7_add_22 ?_
    refine lv_aload_n hx hb dX7_add_25 rfl (lv_at hl 0 rfl) ?_
    refine g_get hC hP fg_X7_21 0 rfl rfl dX7_add_26 ?_
    refine lv_iload_n hx hb dX7_add_29 rfl (lv_at hl 2 rfl) ?_
    obtain ⟨w3, hu, h⟩ := bnd_h h
    refine kc_v (kN hC (c_X9_put l dC dI cc q2 8 limits sounds x2 H.size w3 hu) cn_X7_25 kw320 rfl rfl ⟨(Nat.le_of_ble_eq_true rfl), (Nat.le_of_ble_eq_true rfl)⟩ hP [2] rfl rfl (As := [.ref q2, .int sounds, .int x2]) (rest := []) rfl rfl hl.1 (Nat.le_of_ble_eq_true rfl) dX7_add_30 ⟨Nat.zero_le _, Nat.zero_le _⟩) hP hA [2] rfl rfl (fun H locs hP => ?_)
    have hP : PD (dC, dI) A s.heap [(q0, .inr (7, [.ref q1, .ref q2, .ref q3, .int sounds])), (q1, .inl (cc 0, 8, .inl w2)), (q2, .inl (cc 0, 8, .inl w3)), (q3, .inl (cc 0, 8, .inl clears))] H locs := hP
    refine lv_aload_n hx hb dX7_add_33 rfl (lv_at hl 0 rfl) ?_
    refine g_get hC hP fg_X7_18 0 rfl rfl dX7_add_34 ?_
    refine lv_aload_n hx hb dX7_add_37 rfl (lv_at hl 0 rfl) ?_
    refine g_get hC hP fg_X7_21 0 rfl rfl dX7_add_38 ?_
    refine lv_iload_n hx hb dX7_add_41 rfl (lv_at hl 3 rfl) ?_
    obtain ⟨w4, hu, h⟩ := bnd_h h
    refine kc_v (kN hC (c_X9_put l dC dI cc q3 8 clears sounds x3 H.size w4 hu) cn_X7_25 kw320 rfl rfl ⟨(Nat.le_of_ble_eq_true rfl), (Nat.le_of_ble_eq_true rfl)⟩ hP [3] rfl rfl (As := [.ref q3, .int sounds, .int x3]) (rest := []) rfl rfl hl.1 (Nat.le_of_ble_eq_true rfl) dX7_add_42 ⟨Nat.zero_le _, Nat.zero_le _⟩) hP hA [3] rfl rfl (fun H locs hP => ?_)
    have hP : PD (dC, dI) A s.heap [(q0, .inr (7, [.ref q1, .ref q2, .ref q3, .int sounds])), (q1, .inl (cc 0, 8, .inl w2)), (q2, .inl (cc 0, 8, .inl w3)), (q3, .inl (cc 0, 8, .inl w4))] H locs := hP
    refine lv_aload_n hx hb dX7_add_45 rfl (lv_at hl 0 rfl) ?_
    refine lv_dup hx hb dX7_add_46 rfl ?_
    refine g_get hC hP fg_X7_21 0 rfl rfl dX7_add_47 ?_
    refine lv_iconst (v := 1) hx hb dX7_add_50 (by decide) ?_
    refine lv_iadd hx hb dX7_add_51 ?_
    refine g_put hC hP fg_X7_21 0 rfl rfl rfl (Nat.le_of_ble_eq_true rfl) dX7_add_52 (fun H locs hP => ?_)
    have hP : PD (dC, dI) A s.heap [(q0, .inr (7, [.ref q1, .ref q2, .ref q3, .int (sounds + 1)])), (q1, .inl (cc 0, 8, .inl w2)), (q2, .inl (cc 0, 8, .inl w3)), (q3, .inl (cc 0, 8, .inl w4))] H locs := hP
    exact ret_v hC hr hlk hP dX7_add_55 (w2, w3, w4, (sounds + 1)) (Option.some.inj h) rfl
set_option maxHeartbeats 8000000 in
set_option maxRecDepth 100000 in
theorem c_X7_agrees (l : Launch) (dC : Nat → ClassId) (dI : Nat → Nat → Nat) (cc : Nat → ClassId) (q0 q1 q2 q3 : Nat) (sounds : Int32) (clogs : (Nat → Int32)) (limits : (Nat → Int32)) (clears : (Nat → Int32)) (x1 : Int32) (x2 : Int32) (sz : Nat) (ret : Int32) (hu : f_X7_agrees x1 x2 sounds clogs limits clears = some ret) : Met l yX7_agrees (mw yX7_agrees cX7_agrees 5 (some .boolean)) ({ frames := 1, cells := 0, slots := 0, locals := 21 } : Room) (va_Pc [.ref q0, .int x1, .int x2] (mP (dC, dI) (ts cc) sz [(q0, .inr (7, [.ref q1, .ref q2, .ref q3, .int sounds])), (q1, .inl (cc 0, 8, .inl clogs)), (q2, .inl (cc 0, 8, .inl limits)), (q3, .inl (cc 0, 8, .inl clears))])) ((fun A => va_Qi (fun (r : Int32) (w : Unit) => narrow .boolean (.int r) = .int r ∧ (r = ret ∧ w = ())) (fun (w : Unit) t => va_P (dC, dI) classes [(q0, .inr (7, [.ref q1, .ref q2, .ref q3, .int sounds])), (q1, .inl (cc 0, 8, .inl clogs)), (q2, .inl (cc 0, 8, .inl limits)), (q3, .inl (cc 0, 8, .inl clears))] t.heap) A) (va_A [(q0, .inr (7, [.ref q1, .ref q2, .ref q3, .int sounds])), (q1, .inl (cc 0, 8, .inl clogs)), (q2, .inl (cc 0, 8, .inl limits)), (q3, .inl (cc 0, 8, .inl clears))] sz)) 0 0 (va_A [(q0, .inr (7, [.ref q1, .ref q2, .ref q3, .int sounds])), (q1, .inl (cc 0, 8, .inl clogs)), (q2, .inl (cc 0, 8, .inl limits)), (q3, .inl (cc 0, 8, .inl clears))] sz) := by
  refine met_go (Qc := fun A => va_Qi (fun (r : Int32) (w : Unit) => narrow .boolean (.int r) = .int r ∧ (r = ret ∧ w = ())) (fun (w : Unit) t => va_P (dC, dI) classes [(q0, .inr (7, [.ref q1, .ref q2, .ref q3, .int sounds])), (q1, .inl (cc 0, 8, .inl clogs)), (q2, .inl (cc 0, 8, .inl limits)), (q3, .inl (cc 0, 8, .inl clears))] t.heap) A) (by decide) (Nat.le_of_ble_eq_true rfl) ?_
  intro p e s m below meth c A ls H locs hC hr hlk hin hA hP hl _
  have hC : CX p m c cX7_agrees 5 s ([.ref q0, .int x1, .int x2] : List Value).toArray RX7 (dC, dI) (ts cc) := hC
  have hx := hC.1.1
  have hb := hC.1.2
  have h := hu
  have hu0 := hu
  unfold f_X7_agrees at h
  have hl : lv_has ls 5 [(0, .ref q0), (1, .int x1), (2, .int x2)] := hl
  refine W_abs (fun Z eZ => ?_)
  refine lv_iconst (v := 0) hx hb dX7_agrees_0 (by decide) ?_
  refine lv_istore_n (lv' := [(3, .int 0), (0, .ref q0), (1, .int x1), (2, .int x2)]) hx hb dX7_agrees_1 rfl hl (by decide) rfl (fun ls hl => ?_)
  obtain ⟨z, hlp, hk, hj⟩ := bndE_h h
  have L1 : ∀ (n : Nat) (j1 : Int32) (z : ((Int32) ⊕ (Int32))), lp ((b_X7_agrees_1 clears clogs limits sounds x1 x2)) n j1 = some z → ∀ (H : Heap) (locs : List Loc) (ls : Array Slot), PD (dC, dI) A s.heap [(q0, .inr (7, [.ref q1, .ref q2, .ref q3, .int sounds])), (q1, .inl (cc 0, 8, .inl clogs)), (q2, .inl (cc 0, 8, .inl limits)), (q3, .inl (cc 0, 8, .inl clears))] H locs → lv_has ls 5 [(0, .ref q0), (1, .int x1), (2, .int x2), (3, .int j1)] → (∀ (j1x : Int32), z = .inl j1x → ∀ (H : Heap) (locs : List Loc) (ls : Array Slot), PD (dC, dI) A s.heap [(q0, .inr (7, [.ref q1, .ref q2, .ref q3, .int sounds])), (q1, .inl (cc 0, 8, .inl clogs)), (q2, .inl (cc 0, 8, .inl limits)), (q3, .inl (cc 0, 8, .inl clears))] H locs → lv_has ls 5 [(0, .ref q0), (1, .int x1), (2, .int x2), (3, .int j1x)] → W p l e ({ frames := 1, cells := 0, slots := 0, locals := 21 } : Room) s m ([.ref q0, .int x1, .int x2] : List Value).toArray below meth c H locs 0 0 Z (F0 m 62 ls [])) → (∀ q, z = .inr q → q = ret) → W p l e ({ frames := 1, cells := 0, slots := 0, locals := 21 } : Room) s m ([.ref q0, .int x1, .int x2] : List Value).toArray below meth c H locs 0 0 Z (F0 m 2 ls []) := by
    intro n
    induction n with
    | zero => intro j1 z h; exact (lp_0 h).elim
    | succ n ih =>
      intro j1 z h H locs ls hP hl KK KR
      obtain ⟨y, h, hz⟩ := lp_h h
      refine lv_iload_n hx hb dX7_agrees_2 rfl (lv_at hl 3 rfl) ?_
      refine lv_aload_n hx hb dX7_agrees_3 rfl (lv_at hl 0 rfl) ?_
      refine g_get hC hP fg_X7_21 0 rfl rfl dX7_agrees_4 ?_
      refine lv_icmp_ge (tgt := 62) hx hb dX7_agrees_7 (by decide) (fun c2 => ?_) (fun c2 => ?_)
      · have h := if_t c2 h
        exact KK j1 (lp_e h hz).symm H locs ls hP (lv_sub hl [0, 1, 2, 3] rfl)
      · have h := if_f c2 h
        refine lv_iload_n hx hb dX7_agrees_10 rfl (lv_at hl 2 rfl) ?_
        refine lv_aload_n hx hb dX7_agrees_11 rfl (lv_at hl 0 rfl) ?_
        refine g_get hC hP fg_X7_15 0 rfl rfl dX7_agrees_12 ?_
        refine lv_iload_n hx hb dX7_agrees_15 rfl (lv_at hl 3 rfl) ?_
        obtain ⟨r3, hu, h⟩ := bnd_h h
        refine kc_i (kN hC (c_X9_at l dC dI cc q2 8 limits j1 H.size r3 hu) cn_X7_33 kw332 rfl rfl ⟨(Nat.le_of_ble_eq_true rfl), (Nat.le_of_ble_eq_true rfl)⟩ hP [2] rfl rfl (As := [.ref q2, .int j1]) (rest := [.int x2]) rfl rfl hl.1 (Nat.le_of_ble_eq_true rfl) dX7_agrees_16 ⟨Nat.zero_le _, Nat.zero_le _⟩) hP hA [2] rfl rfl (fun H locs hP => ?_)
        have hP : PD (dC, dI) A s.heap [(q0, .inr (7, [.ref q1, .ref q2, .ref q3, .int sounds])), (q1, .inl (cc 0, 8, .inl clogs)), (q2, .inl (cc 0, 8, .inl limits)), (q3, .inl (cc 0, 8, .inl clears))] H locs := hP
        refine lv_icmp_gt (tgt := 26) hx hb dX7_agrees_19 (by decide) (fun c4 => ?_) (fun c4 => ?_)
        · have h := if_t c4 h
          refine lv_iconst (v := 0) hx hb dX7_agrees_26 (by decide) ?_
          refine lv_istore (lv' := [(4, .int 0), (0, .ref q0), (1, .int x1), (2, .int x2), (3, .int j1)]) hx hb dX7_agrees_27 hl (by decide) rfl (fun ls hl => ?_)
          refine lv_aload_n hx hb dX7_agrees_29 rfl (lv_at hl 1 rfl) ?_
          refine g_get hC hP fg_X7_9 0 rfl rfl dX7_agrees_30 ?_
          refine lv_iload_n hx hb dX7_agrees_33 rfl (lv_at hl 4 rfl) ?_
          obtain ⟨r5, hu, h⟩ := bnd_h h
          refine kc_i (kN hC (c_X9_at l dC dI cc q1 8 clogs j1 H.size r5 hu) cn_X7_33 kw332 rfl rfl ⟨(Nat.le_of_ble_eq_true rfl), (Nat.le_of_ble_eq_true rfl)⟩ hP [1] rfl rfl (As := [.ref q1, .int j1]) (rest := []) rfl rfl hl.1 (Nat.le_of_ble_eq_true rfl) dX7_agrees_34 ⟨Nat.zero_le _, Nat.zero_le _⟩) hP hA [1] rfl rfl (fun H locs hP => ?_)
          have hP : PD (dC, dI) A s.heap [(q0, .inr (7, [.ref q1, .ref q2, .ref q3, .int sounds])), (q1, .inl (cc 0, 8, .inl clogs)), (q2, .inl (cc 0, 8, .inl limits)), (q3, .inl (cc 0, 8, .inl clears))] H locs := hP
          refine lv_iload_n hx hb dX7_agrees_37 rfl (lv_at hl 2 rfl) ?_
          refine lv_icmp_ne (tgt := 56) hx hb dX7_agrees_38 (by decide) (fun c6 => ?_) (fun c6 => ?_)
          · have h := if_f c6 h
            refine lv_iinc (v := (j1 + 1)) (lv' := [(3, .int (j1 + 1)), (4, .int 0), (0, .ref q0), (1, .int x1), (2, .int x2)]) hx hb dX7_agrees_56 hl (k := 4) rfl rfl (by decide) rfl (fun ls hl => ?_)
            refine lv_goto (tgt := 2) hx hb dX7_agrees_59 (by decide) ?_
            exact ih _ _ (lp_n h hz) H locs ls hP (lv_sub hl [2, 3, 4, 0] rfl) KK KR
          · have h := if_t c6 h
            refine lv_aload_n hx hb dX7_agrees_41 rfl (lv_at hl 1 rfl) ?_
            refine g_get hC hP fg_X7_18 0 rfl rfl dX7_agrees_42 ?_
            refine lv_iload_n hx hb dX7_agrees_45 rfl (lv_at hl 4 rfl) ?_
            obtain ⟨r7, hu, h⟩ := bnd_h h
            refine kc_i (kN hC (c_X9_at l dC dI cc q3 8 clears j1 H.size r7 hu) cn_X7_33 kw332 rfl rfl ⟨(Nat.le_of_ble_eq_true rfl), (Nat.le_of_ble_eq_true rfl)⟩ hP [3] rfl rfl (As := [.ref q3, .int j1]) (rest := []) rfl rfl hl.1 (Nat.le_of_ble_eq_true rfl) dX7_agrees_46 ⟨Nat.zero_le _, Nat.zero_le _⟩) hP hA [3] rfl rfl (fun H locs hP => ?_)
            have hP : PD (dC, dI) A s.heap [(q0, .inr (7, [.ref q1, .ref q2, .ref q3, .int sounds])), (q1, .inl (cc 0, 8, .inl clogs)), (q2, .inl (cc 0, 8, .inl limits)), (q3, .inl (cc 0, 8, .inl clears))] H locs := hP
            refine lv_iload hx hb dX7_agrees_49 (lv_at hl 0 rfl) ?_
            refine lv_icmp_eq (tgt := 56) hx hb dX7_agrees_51 (by decide) (fun c8 => ?_) (fun c8 => ?_)
            · have h := if_t c8 h
              refine lv_iinc (v := (j1 + 1)) (lv' := [(3, .int (j1 + 1)), (4, .int 0), (0, .ref q0), (1, .int x1), (2, .int x2)]) hx hb dX7_agrees_56 hl (k := 4) rfl rfl (by decide) rfl (fun ls hl => ?_)
              refine lv_goto (tgt := 2) hx hb dX7_agrees_59 (by decide) ?_
              exact ih _ _ (lp_n h hz) H locs ls hP (lv_sub hl [2, 3, 4, 0] rfl) KK KR
            · have h := if_f c8 h
              refine lv_iconst (v := 0) hx hb dX7_agrees_54 (by decide) ?_
              rw [eZ]
              exact ret_z hC hr rfl hlk hP dX7_agrees_55 () (⟨KR _ (lp_e h hz).symm, rfl⟩) rfl
        · have h := if_f c4 h
          refine lv_iconst (v := 1) hx hb dX7_agrees_22 (by decide) ?_
          refine lv_goto (tgt := 27) hx hb dX7_agrees_23 (by decide) ?_
          refine lv_istore (lv' := [(4, .int 1), (0, .ref q0), (1, .int x1), (2, .int x2), (3, .int j1)]) hx hb dX7_agrees_27 hl (by decide) rfl (fun ls hl => ?_)
          refine lv_aload_n hx hb dX7_agrees_29 rfl (lv_at hl 1 rfl) ?_
          refine g_get hC hP fg_X7_9 0 rfl rfl dX7_agrees_30 ?_
          refine lv_iload_n hx hb dX7_agrees_33 rfl (lv_at hl 4 rfl) ?_
          obtain ⟨r9, hu, h⟩ := bnd_h h
          refine kc_i (kN hC (c_X9_at l dC dI cc q1 8 clogs j1 H.size r9 hu) cn_X7_33 kw332 rfl rfl ⟨(Nat.le_of_ble_eq_true rfl), (Nat.le_of_ble_eq_true rfl)⟩ hP [1] rfl rfl (As := [.ref q1, .int j1]) (rest := []) rfl rfl hl.1 (Nat.le_of_ble_eq_true rfl) dX7_agrees_34 ⟨Nat.zero_le _, Nat.zero_le _⟩) hP hA [1] rfl rfl (fun H locs hP => ?_)
          have hP : PD (dC, dI) A s.heap [(q0, .inr (7, [.ref q1, .ref q2, .ref q3, .int sounds])), (q1, .inl (cc 0, 8, .inl clogs)), (q2, .inl (cc 0, 8, .inl limits)), (q3, .inl (cc 0, 8, .inl clears))] H locs := hP
          refine lv_iload_n hx hb dX7_agrees_37 rfl (lv_at hl 2 rfl) ?_
          refine lv_icmp_ne (tgt := 56) hx hb dX7_agrees_38 (by decide) (fun c10 => ?_) (fun c10 => ?_)
          · have h := if_f c10 h
            refine lv_iinc (v := (j1 + 1)) (lv' := [(3, .int (j1 + 1)), (4, .int 1), (0, .ref q0), (1, .int x1), (2, .int x2)]) hx hb dX7_agrees_56 hl (k := 4) rfl rfl (by decide) rfl (fun ls hl => ?_)
            refine lv_goto (tgt := 2) hx hb dX7_agrees_59 (by decide) ?_
            exact ih _ _ (lp_n h hz) H locs ls hP (lv_sub hl [2, 3, 4, 0] rfl) KK KR
          · have h := if_t c10 h
            refine lv_aload_n hx hb dX7_agrees_41 rfl (lv_at hl 1 rfl) ?_
            refine g_get hC hP fg_X7_18 0 rfl rfl dX7_agrees_42 ?_
            refine lv_iload_n hx hb dX7_agrees_45 rfl (lv_at hl 4 rfl) ?_
            obtain ⟨r11, hu, h⟩ := bnd_h h
            refine kc_i (kN hC (c_X9_at l dC dI cc q3 8 clears j1 H.size r11 hu) cn_X7_33 kw332 rfl rfl ⟨(Nat.le_of_ble_eq_true rfl), (Nat.le_of_ble_eq_true rfl)⟩ hP [3] rfl rfl (As := [.ref q3, .int j1]) (rest := []) rfl rfl hl.1 (Nat.le_of_ble_eq_true rfl) dX7_agrees_46 ⟨Nat.zero_le _, Nat.zero_le _⟩) hP hA [3] rfl rfl (fun H locs hP => ?_)
            have hP : PD (dC, dI) A s.heap [(q0, .inr (7, [.ref q1, .ref q2, .ref q3, .int sounds])), (q1, .inl (cc 0, 8, .inl clogs)), (q2, .inl (cc 0, 8, .inl limits)), (q3, .inl (cc 0, 8, .inl clears))] H locs := hP
            refine lv_iload hx hb dX7_agrees_49 (lv_at hl 0 rfl) ?_
            refine lv_icmp_eq (tgt := 56) hx hb dX7_agrees_51 (by decide) (fun c12 => ?_) (fun c12 => ?_)
            · have h := if_t c12 h
              refine lv_iinc (v := (j1 + 1)) (lv' := [(3, .int (j1 + 1)), (4, .int 1), (0, .ref q0), (1, .int x1), (2, .int x2)]) hx hb dX7_agrees_56 hl (k := 4) rfl rfl (by decide) rfl (fun ls hl => ?_)
              refine lv_goto (tgt := 2) hx hb dX7_agrees_59 (by decide) ?_
              exact ih _ _ (lp_n h hz) H locs ls hP (lv_sub hl [2, 3, 4, 0] rfl) KK KR
            · have h := if_f c12 h
              refine lv_iconst (v := 0) hx hb dX7_agrees_54 (by decide) ?_
              rw [eZ]
              exact ret_z hC hr rfl hlk hP dX7_agrees_55 () (⟨KR _ (lp_e h hz).symm, rfl⟩) rfl
  refine L1 FU _ z hlp H locs ls hP (lv_sub hl [1, 2, 3, 0] rfl) (fun j1x e H locs ls hP hl => ?_) (fun q e => Option.some.inj (hj q e))
  have h := hk _ e
  refine lv_iconst (v := 1) hx hb dX7_agrees_62 (by decide) ?_
  rw [eZ]
  exact ret_z hC hr rfl hlk hP dX7_agrees_63 () (⟨Option.some.inj h, rfl⟩) rfl
set_option maxHeartbeats 8000000 in
set_option maxRecDepth 100000 in
theorem c_X7_thicknesses (l : Launch) (dC : Nat → ClassId) (dI : Nat → Nat → Nat) (cc : Nat → ClassId) (q0 q1 q2 q3 : Nat) (sounds : Int32) (clogs : (Nat → Int32)) (limits : (Nat → Int32)) (clears : (Nat → Int32)) (x1 : Int32) (sz : Nat) (ret : Int32) (hu : f_X7_thicknesses x1 sounds clogs limits clears = some ret) : Met l yX7_thicknesses (mw yX7_thicknesses cX7_thicknesses 4 (some .int)) ({ frames := 2, cells := 0, slots := 0, locals := 45 } : Room) (va_Pc [.ref q0, .int x1] (mP (dC, dI) (ts cc) sz [(q0, .inr (7, [.ref q1, .ref q2, .ref q3, .int sounds])), (q1, .inl (cc 0, 8, .inl clogs)), (q2, .inl (cc 0, 8, .inl limits)), (q3, .inl (cc 0, 8, .inl clears))])) ((fun A => va_Qi (fun (r : Int32) (w : Unit) => r = ret ∧ w = ()) (fun (w : Unit) t => va_P (dC, dI) classes [(q0, .inr (7, [.ref q1, .ref q2, .ref q3, .int sounds])), (q1, .inl (cc 0, 8, .inl clogs)), (q2, .inl (cc 0, 8, .inl limits)), (q3, .inl (cc 0, 8, .inl clears))] t.heap) A) (va_A [(q0, .inr (7, [.ref q1, .ref q2, .ref q3, .int sounds])), (q1, .inl (cc 0, 8, .inl clogs)), (q2, .inl (cc 0, 8, .inl limits)), (q3, .inl (cc 0, 8, .inl clears))] sz)) 0 0 (va_A [(q0, .inr (7, [.ref q1, .ref q2, .ref q3, .int sounds])), (q1, .inl (cc 0, 8, .inl clogs)), (q2, .inl (cc 0, 8, .inl limits)), (q3, .inl (cc 0, 8, .inl clears))] sz) := by
  refine met_go (Qc := fun A => va_Qi (fun (r : Int32) (w : Unit) => r = ret ∧ w = ()) (fun (w : Unit) t => va_P (dC, dI) classes [(q0, .inr (7, [.ref q1, .ref q2, .ref q3, .int sounds])), (q1, .inl (cc 0, 8, .inl clogs)), (q2, .inl (cc 0, 8, .inl limits)), (q3, .inl (cc 0, 8, .inl clears))] t.heap) A) (by decide) (Nat.le_of_ble_eq_true rfl) ?_
  intro p e s m below meth c A ls H locs hC hr hlk hin hA hP hl _
  have hC : CX p m c cX7_thicknesses 4 s ([.ref q0, .int x1] : List Value).toArray RX7 (dC, dI) (ts cc) := hC
  have hx := hC.1.1
  have hb := hC.1.2
  have h := hu
  have hu0 := hu
  unfold f_X7_thicknesses at h
  have hl : lv_has ls 4 [(0, .ref q0), (1, .int x1)] := hl
  refine W_abs (fun Z eZ => ?_)
  refine lv_iconst (v := 0) hx hb dX7_thicknesses_0 (by decide) ?_
  refine lv_istore_n (lv' := [(2, .int 0), (0, .ref q0), (1, .int x1)]) hx hb dX7_thicknesses_1 rfl hl (by decide) rfl (fun ls hl => ?_)
  refine lv_iconst (v := 1) hx hb dX7_thicknesses_2 (by decide) ?_
  refine lv_istore_n (lv' := [(3, .int 1), (2, .int 0), (0, .ref q0), (1, .int x1)]) hx hb dX7_thicknesses_3 rfl hl (by decide) rfl (fun ls hl => ?_)
  obtain ⟨⟨j1x, j2x⟩, hlp, h⟩ := bnd_h h
  have L1 : ∀ (n : Nat) (j1 : Int32) (j2 : Int32) (j1x : Int32) (j2x : Int32), lp (u2 (b_X7_thicknesses_1 clears clogs limits sounds x1)) n (j1, j2) = some (j1x, j2x) → ∀ (H : Heap) (locs : List Loc) (ls : Array Slot), PD (dC, dI) A s.heap [(q0, .inr (7, [.ref q1, .ref q2, .ref q3, .int sounds])), (q1, .inl (cc 0, 8, .inl clogs)), (q2, .inl (cc 0, 8, .inl limits)), (q3, .inl (cc 0, 8, .inl clears))] H locs → lv_has ls 4 [(0, .ref q0), (1, .int x1), (2, .int j1), (3, .int j2)] → (∀ (H : Heap) (locs : List Loc) (ls : Array Slot), PD (dC, dI) A s.heap [(q0, .inr (7, [.ref q1, .ref q2, .ref q3, .int sounds])), (q1, .inl (cc 0, 8, .inl clogs)), (q2, .inl (cc 0, 8, .inl limits)), (q3, .inl (cc 0, 8, .inl clears))] H locs → lv_has ls 4 [(0, .ref q0), (1, .int x1), (2, .int j1x), (3, .int j2x)] → W p l e ({ frames := 2, cells := 0, slots := 0, locals := 45 } : Room) s m ([.ref q0, .int x1] : List Value).toArray below meth c H locs 0 0 Z (F0 m 31 ls [])) → W p l e ({ frames := 2, cells := 0, slots := 0, locals := 45 } : Room) s m ([.ref q0, .int x1] : List Value).toArray below meth c H locs 0 0 Z (F0 m 4 ls []) := by
    intro n
    induction n with
    | zero => intro j1 j2 j1x j2x h; exact (lp_0 h).elim
    | succ n ih =>
      intro j1 j2 j1x j2x h H locs ls hP hl KK
      obtain ⟨y, h, hz⟩ := lp_h h
      refine lv_iload_n hx hb dX7_thicknesses_4 rfl (lv_at hl 3 rfl) ?_
      refine lv_bipush (v := 9) hx hb dX7_thicknesses_5 (by decide) ?_
      refine lv_icmp_gt (tgt := 31) hx hb dX7_thicknesses_7 (by decide) (fun c3 => ?_) (fun c3 => ?_)
      · have h := if_t c3 h
        cases lp_e h hz
        exact KK H locs ls hP (lv_sub hl [0, 1, 2, 3] rfl)
      · have h := if_f c3 h
        refine lv_aload_n hx hb dX7_thicknesses_10 rfl (lv_at hl 0 rfl) ?_
        refine lv_iload_n hx hb dX7_thicknesses_11 rfl (lv_at hl 1 rfl) ?_
        refine lv_iload_n hx hb dX7_thicknesses_12 rfl (lv_at hl 3 rfl) ?_
        obtain ⟨r4, hu, h⟩ := bnd_h h
        refine kc_z (kV hC (c_X7_agrees l dC dI cc q0 q1 q2 q3 sounds clogs limits clears x1 j2 H.size r4 hu) cv_X7_29 kw704 rfl rfl ⟨(Nat.le_of_ble_eq_true rfl), (Nat.le_of_ble_eq_true rfl)⟩ hP [0, 1, 2, 3] rfl rfl rfl (q0 := 0) rfl (As := [.int x1, .int j2]) (rest := []) rfl rfl hl.1 (Nat.le_of_ble_eq_true rfl) dX7_thicknesses_13 ⟨Nat.zero_le _, Nat.zero_le _⟩) hP hA [0, 1, 2, 3] rfl rfl (fun hz_r4 H locs hP => ?_)
        have hP : PD (dC, dI) A s.heap [(q0, .inr (7, [.ref q1, .ref q2, .ref q3, .int sounds])), (q1, .inl (cc 0, 8, .inl clogs)), (q2, .inl (cc 0, 8, .inl limits)), (q3, .inl (cc 0, 8, .inl clears))] H locs := hP
        refine lv_if_eq (tgt := 25) hx hb dX7_thicknesses_16 (by decide) (fun c5 => ?_) (fun c5 => ?_)
        · have h := if_t c5 h
          refine lv_iinc (v := (j2 + 1)) (lv' := [(3, .int (j2 + 1)), (0, .ref q0), (1, .int x1), (2, .int j1)]) hx hb dX7_thicknesses_25 hl (k := 3) rfl rfl (by decide) rfl (fun ls hl => ?_)
          refine lv_goto (tgt := 4) hx hb dX7_thicknesses_28 (by decide) ?_
          exact ih _ _ _ _ (lp_n h hz) H locs ls hP (lv_sub hl [1, 2, 3, 0] rfl) KK
        · have h := if_f c5 h
          refine lv_iload_n hx hb dX7_thicknesses_19 rfl (lv_at hl 2 rfl) ?_
          refine lv_iconst (v := 1) hx hb dX7_thicknesses_20 (by decide) ?_
          refine lv_iload_n hx hb dX7_thicknesses_21 rfl (lv_at hl 3 rfl) ?_
          refine lv_ishl hx hb dX7_thicknesses_22 ?_
          refine lv_ior hx hb dX7_thicknesses_23 ?_
          refine lv_istore_n (lv' := [(2, .int (j1 ||| (1 <<< (j2 &&& 31)))), (0, .ref q0), (1, .int x1), (3, .int j2)]) hx hb dX7_thicknesses_24 rfl hl (by decide) rfl (fun ls hl => ?_)
          refine lv_iinc (v := (j2 + 1)) (lv' := [(3, .int (j2 + 1)), (2, .int (j1 ||| (1 <<< (j2 &&& 31)))), (0, .ref q0), (1, .int x1)]) hx hb dX7_thicknesses_25 hl (k := 3) rfl rfl (by decide) rfl (fun ls hl => ?_)
          refine lv_goto (tgt := 4) hx hb dX7_thicknesses_28 (by decide) ?_
          exact ih _ _ _ _ (lp_n h hz) H locs ls hP (lv_sub hl [2, 3, 1, 0] rfl) KK
  refine L1 FU _ _ j1x j2x hlp H locs ls hP (lv_sub hl [2, 3, 1, 0] rfl) (fun H locs ls hP hl => ?_)
  refine lv_iload_n hx hb dX7_thicknesses_31 rfl (lv_at hl 2 rfl) ?_
  rw [eZ]
  exact ret_i hC hr hlk hP dX7_thicknesses_32 () (⟨Option.some.inj h, rfl⟩) rfl
