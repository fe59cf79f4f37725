set_option maxHeartbeats 8000000 in
set_option maxRecDepth 100000 in
theorem c_X10_findSides (l : Launch) (dC : Nat → ClassId) (dI : Nat → Nat → Nat) (cc : Nat → ClassId) (q0 q1 q2 q3 q4 q5 q6 q7 q8 q9 q10 q11 q12 q13 q14 q15 q16 q17 : Nat) (feetMany : Int32) (log_ : Int32) (block : Int32) (stocking : Int32) (acts : Int32) (keeps : Int32) (hears : Int32) (texted : Int32) (at_ : Int32) (readFeetMany : Int32) (readLog : Int32) (readBlock : Int32) (readStocking : Int32) (lefts_ : Int32) (rights_ : Int32) (st : (Nat → Int32)) (now_ : (Nat → Int32)) (left_ : (Nat → Int32)) (right_ : (Nat → Int32)) (sz : Nat) (o_lefts_ : Int32) (o_rights_ : Int32) (o_left_ : (Nat → Int32)) (o_right_ : (Nat → Int32)) (hu : f_X10_findSides st now_ left_ right_ = some (o_lefts_, o_rights_, o_left_, o_right_)) : Met l yX10_findSides (mw yX10_findSides cX10_findSides 2 none) ({ frames := 1, cells := 0, slots := 0, locals := 21 } : Room) (va_Pc [.ref q0] (mP (dC, dI) (ts cc) sz [(q0, .inr (10, [.int feetMany, .ref q1, .int log_, .int block, .ref q2, .int stocking, .ref q3, .int acts, .ref q4, .int keeps, .ref q5, .int hears, .ref q6, .ref q7, .int texted, .int at_, .ref q8, .ref q9, .int readFeetMany, .ref q10, .int readLog, .int readBlock, .ref q11, .int readStocking, .ref q12, .int lefts_, .int rights_, .ref q13, .ref q14, .ref q15, .ref q16, .ref q17])), (q3, .inl (cc 0, 52, .inl st)), (q12, .inl (cc 0, 52, .inl now_)), (q13, .inl (cc 0, 10, .inl left_)), (q14, .inl (cc 0, 10, .inl right_))])) ((fun A => va_Qv (fun (w : Int32 × Int32 × (Nat → Int32) × (Nat → Int32)) => w = (o_lefts_, o_rights_, o_left_, o_right_)) (fun (w : Int32 × Int32 × (Nat → Int32) × (Nat → Int32)) t => va_P (dC, dI) classes [(q0, .inr (10, [.int feetMany, .ref q1, .int log_, .int block, .ref q2, .int stocking, .ref q3, .int acts, .ref q4, .int keeps, .ref q5, .int hears, .ref q6, .ref q7, .int texted, .int at_, .ref q8, .ref q9, .int readFeetMany, .ref q10, .int readLog, .int readBlock, .ref q11, .int readStocking, .ref q12, .int w.1, .int w.2.1, .ref q13, .ref q14, .ref q15, .ref q16, .ref q17])), (q3, .inl (cc 0, 52, .inl st)), (q12, .inl (cc 0, 52, .inl now_)), (q13, .inl (cc 0, 10, .inl w.2.2.1)), (q14, .inl (cc 0, 10, .inl w.2.2.2))] t.heap) A) (va_A [(q0, .inr (10, [.int feetMany, .ref q1, .int log_, .int block, .ref q2, .int stocking, .ref q3, .int acts, .ref q4, .int keeps, .ref q5, .int hears, .ref q6, .ref q7, .int texted, .int at_, .ref q8, .ref q9, .int readFeetMany, .ref q10, .int readLog, .int readBlock, .ref q11, .int readStocking, .ref q12, .int lefts_, .int rights_, .ref q13, .ref q14, .ref q15, .ref q16, .ref q17])), (q3, .inl (cc 0, 52, .inl st)), (q12, .inl (cc 0, 52, .inl now_)), (q13, .inl (cc 0, 10, .inl left_)), (q14, .inl (cc 0, 10, .inl right_))] sz)) 0 0 (va_A [(q0, .inr (10, [.int feetMany, .ref q1, .int log_, .int block, .ref q2, .int stocking, .ref q3, .int acts, .ref q4, .int keeps, .ref q5, .int hears, .ref q6, .ref q7, .int texted, .int at_, .ref q8, .ref q9, .int readFeetMany, .ref q10, .int readLog, .int readBlock, .ref q11, .int readStocking, .ref q12, .int lefts_, .int rights_, .ref q13, .ref q14, .ref q15, .ref q16, .ref q17])), (q3, .inl (cc 0, 52, .inl st)), (q12, .inl (cc 0, 52, .inl now_)), (q13, .inl (cc 0, 10, .inl left_)), (q14, .inl (cc 0, 10, .inl right_))] sz) := by
  refine met_go (Qc := fun A => va_Qv (fun (w : Int32 × Int32 × (Nat → Int32) × (Nat → Int32)) => w = (o_lefts_, o_rights_, o_left_, o_right_)) (fun (w : Int32 × Int32 × (Nat → Int32) × (Nat → Int32)) t => va_P (dC, dI) classes [(q0, .inr (10, [.int feetMany, .ref q1, .int log_, .int block, .ref q2, .int stocking, .ref q3, .int acts, .ref q4, .int keeps, .ref q5, .int hears, .ref q6, .ref q7, .int texted, .int at_, .ref q8, .ref q9, .int readFeetMany, .ref q10, .int readLog, .int readBlock, .ref q11, .int readStocking, .ref q12, .int w.1, .int w.2.1, .ref q13, .ref q14, .ref q15, .ref q16, .ref q17])), (q3, .inl (cc 0, 52, .inl st)), (q12, .inl (cc 0, 52, .inl now_)), (q13, .inl (cc 0, 10, .inl w.2.2.1)), (q14, .inl (cc 0, 10, .inl w.2.2.2))] t.heap) A) (by decide) (Nat.le_of_ble_eq_true rfl) ?_
  intro p e s m below meth c A ls H locs hC hr hlk hin hA hP hl _
  have hC : CX p m c cX10_findSides 2 s ([.ref q0] : List Value).toArray RX10 (dC, dI) (ts cc) := hC
  have hx := hC.1.1
  have hb := hC.1.2
  have h := hu
  have hu0 := hu
  unfold f_X10_findSides at h
  have hl : lv_has ls 2 [(0, .ref q0)] := hl
  refine W_abs (fun Z eZ => ?_)
  refine lv_aload_n hx hb dX10_findSides_0 rfl (lv_at hl 0 rfl) ?_
  refine lv_iconst (v := 0) hx hb dX10_findSides_1 (by decide) ?_
  refine g_put hC hP fg_X10_205 0 rfl rfl rfl (Nat.le_of_ble_eq_true rfl) dX10_findSides_2 (fun H locs hP => ?_)
  have hP : PD (dC, dI) A s.heap [(q0, .inr (10, [.int feetMany, .ref q1, .int log_, .int block, .ref q2, .int stocking, .ref q3, .int acts, .ref q4, .int keeps, .ref q5, .int hears, .ref q6, .ref q7, .int texted, .int at_, .ref q8, .ref q9, .int readFeetMany, .ref q10, .int readLog, .int readBlock, .ref q11, .int readStocking, .ref q12, .int 0, .int rights_, .ref q13, .ref q14, .ref q15, .ref q16, .ref q17])), (q3, .inl (cc 0, 52, .inl st)), (q12, .inl (cc 0, 52, .inl now_)), (q13, .inl (cc 0, 10, .inl left_)), (q14, .inl (cc 0, 10, .inl right_))] H locs := hP
  refine lv_aload_n hx hb dX10_findSides_5 rfl (lv_at hl 0 rfl) ?_
  refine lv_iconst (v := 0) hx hb dX10_findSides_6 (by decide) ?_
  refine g_put hC hP fg_X10_208 0 rfl rfl rfl (Nat.le_of_ble_eq_true rfl) dX10_findSides_7 (fun H locs hP => ?_)
  have hP : PD (dC, dI) A s.heap [(q0, .inr (10, [.int feetMany, .ref q1, .int log_, .int block, .ref q2, .int stocking, .ref q3, .int acts, .ref q4, .int keeps, .ref q5, .int hears, .ref q6, .ref q7, .int texted, .int at_, .ref q8, .ref q9, .int readFeetMany, .ref q10, .int readLog, .int readBlock, .ref q11, .int readStocking, .ref q12, .int 0, .int 0, .ref q13, .ref q14, .ref q15, .ref q16, .ref q17])), (q3, .inl (cc 0, 52, .inl st)), (q12, .inl (cc 0, 52, .inl now_)), (q13, .inl (cc 0, 10, .inl left_)), (q14, .inl (cc 0, 10, .inl right_))] H locs := hP
  refine lv_iconst (v := 0) hx hb dX10_findSides_10 (by decide) ?_
  refine lv_istore_n (lv' := [(1, .int 0), (0, .ref q0)]) hx hb dX10_findSides_11 rfl hl (by decide) rfl (fun ls hl => ?_)
  obtain ⟨⟨j1x, w2x, w3x, w4x, w5x⟩, hlp, h⟩ := bnd_h h
  have L1 : ∀ (n : Nat) (j1 : Int32) (w2 : Int32) (w3 : Int32) (w4 : (Nat → Int32)) (w5 : (Nat → Int32)) (j1x : Int32) (w2x : Int32) (w3x : Int32) (w4x : (Nat → Int32)) (w5x : (Nat → Int32)), lp (u5 (b_X10_findSides_1 now_ st)) n (j1, w2, w3, w4, w5) = some (j1x, w2x, w3x, w4x, w5x) → ∀ (H : Heap) (locs : List Loc) (ls : Array Slot), PD (dC, dI) A s.heap [(q0, .inr (10, [.int feetMany, .ref q1, .int log_, .int block, .ref q2, .int stocking, .ref q3, .int acts, .ref q4, .int keeps, .ref q5, .int hears, .ref q6, .ref q7, .int texted, .int at_, .ref q8, .ref q9, .int readFeetMany, .ref q10, .int readLog, .int readBlock, .ref q11, .int readStocking, .ref q12, .int w2, .int w3, .ref q13, .ref q14, .ref q15, .ref q16, .ref q17])), (q3, .inl (cc 0, 52, .inl st)), (q12, .inl (cc 0, 52, .inl now_)), (q13, .inl (cc 0, 10, .inl w4)), (q14, .inl (cc 0, 10, .inl w5))] H locs → lv_has ls 2 [(0, .ref q0), (1, .int j1)] → (∀ (H : Heap) (locs : List Loc) (ls : Array Slot), PD (dC, dI) A s.heap [(q0, .inr (10, [.int feetMany, .ref q1, .int log_, .int block, .ref q2, .int stocking, .ref q3, .int acts, .ref q4, .int keeps, .ref q5, .int hears, .ref q6, .ref q7, .int texted, .int at_, .ref q8, .ref q9, .int readFeetMany, .ref q10, .int readLog, .int readBlock, .ref q11, .int readStocking, .ref q12, .int w2x, .int w3x, .ref q13, .ref q14, .ref q15, .ref q16, .ref q17])), (q3, .inl (cc 0, 52, .inl st)), (q12, .inl (cc 0, 52, .inl now_)), (q13, .inl (cc 0, 10, .inl w4x)), (q14, .inl (cc 0, 10, .inl w5x))] H locs → lv_has ls 2 [(0, .ref q0), (1, .int j1x)] → W p l e ({ frames := 1, cells := 0, slots := 0, locals := 21 } : Room) s m ([.ref q0] : List Value).toArray below meth c H locs 0 0 Z (F0 m 79 ls [])) → W p l e ({ frames := 1, cells := 0, slots := 0, locals := 21 } : Room) s m ([.ref q0] : List Value).toArray below meth c H locs 0 0 Z (F0 m 12 ls []) := by
    intro n
    induction n with
    | zero => intro j1 w2 w3 w4 w5 j1x w2x w3x w4x w5x h; exact (lp_0 h).elim
    | succ n ih =>
      intro j1 w2 w3 w4 w5 j1x w2x w3x w4x w5x h H locs ls hP hl KK
      obtain ⟨y, h, hz⟩ := lp_h h
      refine lv_iload_n hx hb dX10_findSides_12 rfl (lv_at hl 1 rfl) ?_
      refine lv_aload_n hx hb dX10_findSides_13 rfl (lv_at hl 0 rfl) ?_
      refine g_get hC hP fg_X10_17 0 rfl rfl dX10_findSides_14 ?_
      refine lv_iconst (v := 1) hx hb dX10_findSides_17 (by decide) ?_
      obtain ⟨hin, h⟩ := rd_h h
      refine g_iald hC hP 1 0 rfl rfl hin dX10_findSides_18 (fun v6 ev => ?_)
      have h := h v6 ev
      refine lv_icmp_ge (tgt := 79) hx hb dX10_findSides_19 (by decide) (fun c7 => ?_) (fun c7 => ?_)
      · have h := if_t c7 h
        cases lp_e h hz
        exact KK H locs ls hP (lv_sub hl [0, 1] rfl)
      · have h := if_f c7 h
        refine lv_aload_n hx hb dX10_findSides_22 rfl (lv_at hl 0 rfl) ?_
        refine lv_iload_n hx hb dX10_findSides_23 rfl (lv_at hl 1 rfl) ?_
        obtain ⟨r8, hu, h⟩ := bnd_h h
        refine kc_i (kV hC (c_X10_sideOf l dC dI cc q0 q1 q2 q3 q4 q5 q6 q7 q8 q9 q10 q11 q12 q13 q14 q15 q16 q17 feetMany log_ block stocking acts keeps hears texted at_ readFeetMany readLog readBlock readStocking w2 w3 now_ j1 H.size r8 hu) cv_X10_175 kw987 rfl rfl ⟨(Nat.le_of_ble_eq_true rfl), (Nat.le_of_ble_eq_true rfl)⟩ hP [0, 2] rfl rfl rfl (q0 := 0) rfl (As := [.int j1]) (rest := []) rfl rfl hl.1 (Nat.le_of_ble_eq_true rfl) dX10_findSides_24 ⟨Nat.zero_le _, Nat.zero_le _⟩) hP hA [0, 2] rfl rfl (fun H locs hP => ?_)
        have hP : PD (dC, dI) A s.heap [(q0, .inr (10, [.int feetMany, .ref q1, .int log_, .int block, .ref q2, .int stocking, .ref q3, .int acts, .ref q4, .int keeps, .ref q5, .int hears, .ref q6, .ref q7, .int texted, .int at_, .ref q8, .ref q9, .int readFeetMany, .ref q10, .int readLog, .int readBlock, .ref q11, .int readStocking, .ref q12, .int w2, .int w3, .ref q13, .ref q14, .ref q15, .ref q16, .ref q17])), (q3, .inl (cc 0, 52, .inl st)), (q12, .inl (cc 0, 52, .inl now_)), (q13, .inl (cc 0, 10, .inl w4)), (q14, .inl (cc 0, 10, .inl w5))] H locs := hP
        refine lv_if_ne (tgt := 53) hx hb dX10_findSides_27 (by decide) (fun c9 => ?_) (fun c9 => ?_)
        · have h := if_f c9 h
          refine lv_aload_n hx hb dX10_findSides_53 rfl (lv_at hl 0 rfl) ?_
          refine g_get hC hP fg_X10_50 0 rfl rfl dX10_findSides_54 ?_
          refine lv_aload_n hx hb dX10_findSides_57 rfl (lv_at hl 0 rfl) ?_
          refine g_get hC hP fg_X10_208 0 rfl rfl dX10_findSides_58 ?_
          refine lv_iload_n hx hb dX10_findSides_61 rfl (lv_at hl 1 rfl) ?_
          obtain ⟨hin, h⟩ := wr_h h
          refine g_iast hC hP 4 0 rfl rfl hin dX10_findSides_62 (fun a10 ev H locs hP => ?_)
          have hP : PD (dC, dI) A s.heap [(q0, .inr (10, [.int feetMany, .ref q1, .int log_, .int block, .ref q2, .int stocking, .ref q3, .int acts, .ref q4, .int keeps, .ref q5, .int hears, .ref q6, .ref q7, .int texted, .int at_, .ref q8, .ref q9, .int readFeetMany, .ref q10, .int readLog, .int readBlock, .ref q11, .int readStocking, .ref q12, .int w2, .int w3, .ref q13, .ref q14, .ref q15, .ref q16, .ref q17])), (q3, .inl (cc 0, 52, .inl st)), (q12, .inl (cc 0, 52, .inl now_)), (q13, .inl (cc 0, 10, .inl w4)), (q14, .inl (cc 0, 10, .inl a10))] H locs := hP
          have h := h a10 ev
          refine lv_aload_n hx hb dX10_findSides_63 rfl (lv_at hl 0 rfl) ?_
          refine lv_dup hx hb dX10_findSides_64 rfl ?_
          refine g_get hC hP fg_X10_208 0 rfl rfl dX10_findSides_65 ?_
          refine lv_iconst (v := 1) hx hb dX10_findSides_68 (by decide) ?_
          refine lv_iadd hx hb dX10_findSides_69 ?_
          refine g_put hC hP fg_X10_208 0 rfl rfl rfl (Nat.le_of_ble_eq_true rfl) dX10_findSides_70 (fun H locs hP => ?_)
          have hP : PD (dC, dI) A s.heap [(q0, .inr (10, [.int feetMany, .ref q1, .int log_, .int block, .ref q2, .int stocking, .ref q3, .int acts, .ref q4, .int keeps, .ref q5, .int hears, .ref q6, .ref q7, .int texted, .int at_, .ref q8, .ref q9, .int readFeetMany, .ref q10, .int readLog, .int readBlock, .ref q11, .int readStocking, .ref q12, .int w2, .int (w3 + 1), .ref q13, .ref q14, .ref q15, .ref q16, .ref q17])), (q3, .inl (cc 0, 52, .inl st)), (q12, .inl (cc 0, 52, .inl now_)), (q13, .inl (cc 0, 10, .inl w4)), (q14, .inl (cc 0, 10, .inl a10))] H locs := hP
          refine lv_iinc (v := (j1 + 1)) (lv' := [(1, .int (j1 + 1)), (0, .ref q0)]) hx hb dX10_findSides_73 hl (k := 1) rfl rfl (by decide) rfl (fun ls hl => ?_)
          refine lv_goto (tgt := 12) hx hb dX10_findSides_76 (by decide) ?_
          exact ih _ _ _ _ _ _ _ _ _ _ (lp_n h hz) H locs ls hP (lv_sub hl [1, 0] rfl) KK
        · have h := if_t c9 h
          refine lv_aload_n hx hb dX10_findSides_30 rfl (lv_at hl 0 rfl) ?_
          refine g_get hC hP fg_X10_47 0 rfl rfl dX10_findSides_31 ?_
          refine lv_aload_n hx hb dX10_findSides_34 rfl (lv_at hl 0 rfl) ?_
          refine g_get hC hP fg_X10_205 0 rfl rfl dX10_findSides_35 ?_
          refine lv_iload_n hx hb dX10_findSides_38 rfl (lv_at hl 1 rfl) ?_
          obtain ⟨hin, h⟩ := wr_h h
          refine g_iast hC hP 3 0 rfl rfl hin dX10_findSides_39 (fun a11 ev H locs hP => ?_)
          have hP : PD (dC, dI) A s.heap [(q0, .inr (10, [.int feetMany, .ref q1, .int log_, .int block, .ref q2, .int stocking, .ref q3, .int acts, .ref q4, .int keeps, .ref q5, .int hears, .ref q6, .ref q7, .int texted, .int at_, .ref q8, .ref q9, .int readFeetMany, .ref q10, .int readLog, .int readBlock, .ref q11, .int readStocking, .ref q12, .int w2, .int w3, .ref q13, .ref q14, .ref q15, .ref q16, .ref q17])), (q3, .inl (cc 0, 52, .inl st)), (q12, .inl (cc 0, 52, .inl now_)), (q13, .inl (cc 0, 10, .inl a11)), (q14, .inl (cc 0, 10, .inl w5))] H locs := hP
          have h := h a11 ev
          refine lv_aload_n hx hb dX10_findSides_40 rfl (lv_at hl 0 rfl) ?_
          refine lv_dup hx hb dX10_findSides_41 rfl ?_
          refine g_get hC hP fg_X10_205 0 rfl rfl dX10_findSides_42 ?_
          refine lv_iconst (v := 1) hx hb dX10_findSides_45 (by decide) ?_
          refine lv_iadd hx hb dX10_findSides_46 ?_
          refine g_put hC hP fg_X10_205 0 rfl rfl rfl (Nat.le_of_ble_eq_true rfl) dX10_findSides_47 (fun H locs hP => ?_)
          have hP : PD (dC, dI) A s.heap [(q0, .inr (10, [.int feetMany, .ref q1, .int log_, .int block, .ref q2, .int stocking, .ref q3, .int acts, .ref q4, .int keeps, .ref q5, .int hears, .ref q6, .ref q7, .int texted, .int at_, .ref q8, .ref q9, .int readFeetMany, .ref q10, .int readLog, .int readBlock, .ref q11, .int readStocking, .ref q12, .int (w2 + 1), .int w3, .ref q13, .ref q14, .ref q15, .ref q16, .ref q17])), (q3, .inl (cc 0, 52, .inl st)), (q12, .inl (cc 0, 52, .inl now_)), (q13, .inl (cc 0, 10, .inl a11)), (q14, .inl (cc 0, 10, .inl w5))] H locs := hP
          refine lv_goto (tgt := 73) hx hb dX10_findSides_50 (by decide) ?_
          refine lv_iinc (v := (j1 + 1)) (lv' := [(1, .int (j1 + 1)), (0, .ref q0)]) hx hb dX10_findSides_73 hl (k := 1) rfl rfl (by decide) rfl (fun ls hl => ?_)
          refine lv_goto (tgt := 12) hx hb dX10_findSides_76 (by decide) ?_
          exact ih _ _ _ _ _ _ _ _ _ _ (lp_n h hz) H locs ls hP (lv_sub hl [1, 0] rfl) KK
  refine L1 FU _ _ _ _ _ j1x w2x w3x w4x w5x hlp H locs ls hP (lv_sub hl [1, 0] rfl) (fun H locs ls hP hl => ?_)
  rw [eZ]
  exact ret_v hC hr hlk hP dX10_findSides_79 (w2x, w3x, w4x, w5x) (Option.some.inj h) rfl
set_option maxHeartbeats 8000000 in
set_option maxRecDepth 100000 in
theorem c_X10_bestWith (l : Launch) (dC : Nat → ClassId) (dI : Nat → Nat → Nat) (cc : Nat → ClassId) (q0 q1 q2 q3 q4 q5 q6 q7 q8 q9 q10 q11 q12 q13 q14 q15 q16 q17 : Nat) (feetMany : Int32) (log_ : Int32) (block : Int32) (stocking : Int32) (acts : Int32) (keeps : Int32) (hears : Int32) (texted : Int32) (at_ : Int32) (readFeetMany : Int32) (readLog : Int32) (readBlock : Int32) (readStocking : Int32) (lefts_ : Int32) (rights_ : Int32) (now_ : (Nat → Int32)) (left_ : (Nat → Int32)) (right_ : (Nat → Int32)) (best : (Nat → Int32)) (x1 : Int32) (x2 : Int32) (x3 : Int32) (sz : Nat) (ret : Int32) (hu : f_X10_bestWith x1 x2 x3 rights_ now_ left_ right_ best = some ret) : Met l yX10_bestWith (mw yX10_bestWith cX10_bestWith 5 (some .int)) ({ frames := 2, cells := 0, slots := 0, locals := 44 } : Room) (va_Pc [.ref q0, .int x1, .int x2, .int x3] (mP (dC, dI) (ts cc) sz [(q0, .inr (10, [.int feetMany, .ref q1, .int log_, .int block, .ref q2, .int stocking, .ref q3, .int acts, .ref q4, .int keeps, .ref q5, .int hears, .ref q6, .ref q7, .int texted, .int at_, .ref q8, .ref q9, .int readFeetMany, .ref q10, .int readLog, .int readBlock, .ref q11, .int readStocking, .ref q12, .int lefts_, .int rights_, .ref q13, .ref q14, .ref q15, .ref q16, .ref q17])), (q12, .inl (cc 0, 52, .inl now_)), (q13, .inl (cc 0, 10, .inl left_)), (q14, .inl (cc 0, 10, .inl right_)), (q15, .inl (cc 0, 1100, .inl best))])) ((fun A => va_Qi (fun (r : Int32) (w : Unit) => r = ret ∧ w = ()) (fun (w : Unit) t => va_P (dC, dI) classes [(q0, .inr (10, [.int feetMany, .ref q1, .int log_, .int block, .ref q2, .int stocking, .ref q3, .int acts, .ref q4, .int keeps, .ref q5, .int hears, .ref q6, .ref q7, .int texted, .int at_, .ref q8, .ref q9, .int readFeetMany, .ref q10, .int readLog, .int readBlock, .ref q11, .int readStocking, .ref q12, .int lefts_, .int rights_, .ref q13, .ref q14, .ref q15, .ref q16, .ref q17])), (q12, .inl (cc 0, 52, .inl now_)), (q13, .inl (cc 0, 10, .inl left_)), (q14, .inl (cc 0, 10, .inl right_)), (q15, .inl (cc 0, 1100, .inl best))] t.heap) A) (va_A [(q0, .inr (10, [.int feetMany, .ref q1, .int log_, .int block, .ref q2, .int stocking, .ref q3, .int acts, .ref q4, .int keeps, .ref q5, .int hears, .ref q6, .ref q7, .int texted, .int at_, .ref q8, .ref q9, .int readFeetMany, .ref q10, .int readLog, .int readBlock, .ref q11, .int readStocking, .ref q12, .int lefts_, .int rights_, .ref q13, .ref q14, .ref q15, .ref q16, .ref q17])), (q12, .inl (cc 0, 52, .inl now_)), (q13, .inl (cc 0, 10, .inl left_)), (q14, .inl (cc 0, 10, .inl right_)), (q15, .inl (cc 0, 1100, .inl best))] sz)) 0 0 (va_A [(q0, .inr (10, [.int feetMany, .ref q1, .int log_, .int block, .ref q2, .int stocking, .ref q3, .int acts, .ref q4, .int keeps, .ref q5, .int hears, .ref q6, .ref q7, .int texted, .int at_, .ref q8, .ref q9, .int readFeetMany, .ref q10, .int readLog, .int readBlock, .ref q11, .int readStocking, .ref q12, .int lefts_, .int rights_, .ref q13, .ref q14, .ref q15, .ref q16, .ref q17])), (q12, .inl (cc 0, 52, .inl now_)), (q13, .inl (cc 0, 10, .inl left_)), (q14, .inl (cc 0, 10, .inl right_)), (q15, .inl (cc 0, 1100, .inl best))] sz) := by
  refine met_go (Qc := fun A => va_Qi (fun (r : Int32) (w : Unit) => r = ret ∧ w = ()) (fun (w : Unit) t => va_P (dC, dI) classes [(q0, .inr (10, [.int feetMany, .ref q1, .int log_, .int block, .ref q2, .int stocking, .ref q3, .int acts, .ref q4, .int keeps, .ref q5, .int hears, .ref q6, .ref q7, .int texted, .int at_, .ref q8, .ref q9, .int readFeetMany, .ref q10, .int readLog, .int readBlock, .ref q11, .int readStocking, .ref q12, .int lefts_, .int rights_, .ref q13, .ref q14, .ref q15, .ref q16, .ref q17])), (q12, .inl (cc 0, 52, .inl now_)), (q13, .inl (cc 0, 10, .inl left_)), (q14, .inl (cc 0, 10, .inl right_)), (q15, .inl (cc 0, 1100, .inl best))] t.heap) A) (by decide) (Nat.le_of_ble_eq_true rfl) ?_
  intro p e s m below meth c A ls H locs hC hr hlk hin hA hP hl _
  have hC : CX p m c cX10_bestWith 5 s ([.ref q0, .int x1, .int x2, .int x3] : List Value).toArray RX10 (dC, dI) (ts cc) := hC
  have hx := hC.1.1
  have hb := hC.1.2
  have h := hu
  have hu0 := hu
  unfold f_X10_bestWith at h
  have hl : lv_has ls 5 [(0, .ref q0), (1, .int x1), (2, .int x2), (3, .int x3)] := hl
  refine lv_aload_n hx hb dX10_bestWith_0 rfl (lv_at hl 0 rfl) ?_
  refine g_get hC hP fg_X10_53 0 rfl rfl dX10_bestWith_1 ?_
  refine lv_iload_n hx hb dX10_bestWith_4 rfl (lv_at hl 1 rfl) ?_
  refine lv_iconst (v := 1) hx hb dX10_bestWith_5 (by decide) ?_
  refine lv_iadd hx hb dX10_bestWith_6 ?_
  refine lv_aload_n hx hb dX10_bestWith_7 rfl (lv_at hl 0 rfl) ?_
  refine g_get hC hP fg_X10_208 0 rfl rfl dX10_bestWith_8 ?_
  refine lv_ishl hx hb dX10_bestWith_11 ?_
  refine lv_iload_n hx hb dX10_bestWith_12 rfl (lv_at hl 2 rfl) ?_
  refine lv_iconst (v := 1) hx hb dX10_bestWith_13 (by decide) ?_
  refine lv_iload_n hx hb dX10_bestWith_14 rfl (lv_at hl 3 rfl) ?_
  refine lv_ishl hx hb dX10_bestWith_15 ?_
  refine lv_ior hx hb dX10_bestWith_16 ?_
  refine lv_iadd hx hb dX10_bestWith_17 ?_
  obtain ⟨hin, h⟩ := rd_h h
  refine g_iald hC hP 4 0 rfl rfl hin dX10_bestWith_18 (fun v1 ev => ?_)
  have h := h v1 ev
  refine lv_istore (lv' := [(4, .int v1), (0, .ref q0), (1, .int x1), (2, .int x2), (3, .int x3)]) hx hb dX10_bestWith_19 hl (by decide) rfl (fun ls hl => ?_)
  refine lv_bipush (v := 100) hx hb dX10_bestWith_21 (by decide) ?_
  refine lv_aload_n hx hb dX10_bestWith_23 rfl (lv_at hl 1 rfl) ?_
  refine lv_aload_n hx hb dX10_bestWith_24 rfl (lv_at hl 1 rfl) ?_
  refine g_get hC hP fg_X10_47 0 rfl rfl dX10_bestWith_25 ?_
  refine lv_iload_n hx hb dX10_bestWith_28 rfl (lv_at hl 2 rfl) ?_
  obtain ⟨hin, h⟩ := rd_h h
  refine g_iald hC hP 2 0 rfl rfl hin dX10_bestWith_29 (fun v2 ev => ?_)
  have h := h v2 ev
  obtain ⟨r3, hu, h⟩ := bnd_h h
  refine kc_i (kV hC (c_X10_sizeOf l dC dI cc q0 q1 q2 q3 q4 q5 q6 q7 q8 q9 q10 q11 q12 q13 q14 q15 q16 q17 feetMany log_ block stocking acts keeps hears texted at_ readFeetMany readLog readBlock readStocking lefts_ rights_ now_ v2 H.size r3 hu) cv_X10_178 kw991 rfl rfl ⟨(Nat.le_of_ble_eq_true rfl), (Nat.le_of_ble_eq_true rfl)⟩ hP [0, 1] rfl rfl rfl (q0 := 0) rfl (As := [.int v2]) (rest := [.int 100]) rfl rfl hl.1 (Nat.le_of_ble_eq_true rfl) dX10_bestWith_30 ⟨Nat.zero_le _, Nat.zero_le _⟩) hP hA [0, 1] rfl rfl (fun H locs hP => ?_)
  have hP : PD (dC, dI) A s.heap [(q0, .inr (10, [.int feetMany, .ref q1, .int log_, .int block, .ref q2, .int stocking, .ref q3, .int acts, .ref q4, .int keeps, .ref q5, .int hears, .ref q6, .ref q7, .int texted, .int at_, .ref q8, .ref q9, .int readFeetMany, .ref q10, .int readLog, .int readBlock, .ref q11, .int readStocking, .ref q12, .int lefts_, .int rights_, .ref q13, .ref q14, .ref q15, .ref q16, .ref q17])), (q12, .inl (cc 0, 52, .inl now_)), (q13, .inl (cc 0, 10, .inl left_)), (q14, .inl (cc 0, 10, .inl right_)), (q15, .inl (cc 0, 1100, .inl best))] H locs := hP
  refine lv_aload_n hx hb dX10_bestWith_33 rfl (lv_at hl 1 rfl) ?_
  refine lv_aload_n hx hb dX10_bestWith_34 rfl (lv_at hl 1 rfl) ?_
  refine g_get hC hP fg_X10_50 0 rfl rfl dX10_bestWith_35 ?_
  refine lv_iload_n hx hb dX10_bestWith_38 rfl (lv_at hl 4 rfl) ?_
  obtain ⟨hin, h⟩ := rd_h h
  refine g_iald hC hP 3 0 rfl rfl hin dX10_bestWith_39 (fun v4 ev => ?_)
  have h := h v4 ev
  obtain ⟨r5, hu, h⟩ := bnd_h h
  refine kc_i (kV hC (c_X10_sizeOf l dC dI cc q0 q1 q2 q3 q4 q5 q6 q7 q8 q9 q10 q11 q12 q13 q14 q15 q16 q17 feetMany log_ block stocking acts keeps hears texted at_ readFeetMany readLog readBlock readStocking lefts_ rights_ now_ v4 H.size r5 hu) cv_X10_178 kw991 rfl rfl ⟨(Nat.le_of_ble_eq_true rfl), (Nat.le_of_ble_eq_true rfl)⟩ hP [0, 1] rfl rfl rfl (q0 := 0) rfl (As := [.int v4]) (rest := [.int r3, .int 100]) rfl rfl hl.1 (Nat.le_of_ble_eq_true rfl) dX10_bestWith_40 ⟨Nat.zero_le _, Nat.zero_le _⟩) hP hA [0, 1] rfl rfl (fun H locs hP => ?_)
  have hP : PD (dC, dI) A s.heap [(q0, .inr (10, [.int feetMany, .ref q1, .int log_, .int block, .ref q2, .int stocking, .ref q3, .int acts, .ref q4, .int keeps, .ref q5, .int hears, .ref q6, .ref q7, .int texted, .int at_, .ref q8, .ref q9, .int readFeetMany, .ref q10, .int readLog, .int readBlock, .ref q11, .int readStocking, .ref q12, .int lefts_, .int rights_, .ref q13, .ref q14, .ref q15, .ref q16, .ref q17])), (q12, .inl (cc 0, 52, .inl now_)), (q13, .inl (cc 0, 10, .inl left_)), (q14, .inl (cc 0, 10, .inl right_)), (q15, .inl (cc 0, 1100, .inl best))] H locs := hP
  obtain ⟨r6, hu, h⟩ := bnd_h h
  refine kc_i (kS hC (c_X10_apart l dC dI cc r3 r5 H.size r6 hu) cs_X10_181 kw1026 rfl rfl ⟨(Nat.le_of_ble_eq_true rfl), (Nat.le_of_ble_eq_true rfl)⟩ hP [] rfl rfl (As := [.int r3, .int r5]) (rest := [.int 100]) rfl rfl hl.1 (Nat.le_of_ble_eq_true rfl) dX10_bestWith_43 ⟨Nat.zero_le _, Nat.zero_le _⟩) hP hA [] rfl rfl (fun H locs hP => ?_)
  have hP : PD (dC, dI) A s.heap [(q0, .inr (10, [.int feetMany, .ref q1, .int log_, .int block, .ref q2, .int stocking, .ref q3, .int acts, .ref q4, .int keeps, .ref q5, .int hears, .ref q6, .ref q7, .int texted, .int at_, .ref q8, .ref q9, .int readFeetMany, .ref q10, .int readLog, .int readBlock, .ref q11, .int readStocking, .ref q12, .int lefts_, .int rights_, .ref q13, .ref q14, .ref q15, .ref q16, .ref q17])), (q12, .inl (cc 0, 52, .inl now_)), (q13, .inl (cc 0, 10, .inl left_)), (q14, .inl (cc 0, 10, .inl right_)), (q15, .inl (cc 0, 1100, .inl best))] H locs := hP
  refine lv_isub hx hb dX10_bestWith_46 ?_
  refine lv_iload hx hb dX10_bestWith_47 (lv_at hl 0 rfl) ?_
  refine lv_iadd hx hb dX10_bestWith_49 ?_
  exact ret_i hC hr hlk hP dX10_bestWith_50 () (⟨Option.some.inj h, rfl⟩) rfl
set_option maxHeartbeats 8000000 in
set_option maxRecDepth 100000 in
theorem c_X10_mayPair (l : Launch) (dC : Nat → ClassId) (dI : Nat → Nat → Nat) (cc : Nat → ClassId) (q0 q1 q2 q3 q4 q5 q6 q7 q8 q9 q10 q11 q12 q13 q14 q15 q16 q17 : Nat) (feetMany : Int32) (log_ : Int32) (block : Int32) (stocking : Int32) (acts : Int32) (keeps : Int32) (hears : Int32) (texted : Int32) (at_ : Int32) (readFeetMany : Int32) (readLog : Int32) (readBlock : Int32) (readStocking : Int32) (lefts_ : Int32) (rights_ : Int32) (now_ : (Nat → Int32)) (left_ : (Nat → Int32)) (right_ : (Nat → Int32)) (x1 : Int32) (x2 : Int32) (x3 : Int32) (sz : Nat) (ret : Int32) (hu : f_X10_mayPair x1 x2 x3 now_ left_ right_ = some ret) : Met l yX10_mayPair (mw yX10_mayPair cX10_mayPair 4 (some .boolean)) ({ frames := 3, cells := 0, slots := 0, locals := 66 } : Room) (va_Pc [.ref q0, .int x1, .int x2, .int x3] (mP (dC, dI) (ts cc) sz [(q0, .inr (10, [.int feetMany, .ref q1, .int log_, .int block, .ref q2, .int stocking, .ref q3, .int acts, .ref q4, .int keeps, .ref q5, .int hears, .ref q6, .ref q7, .int texted, .int at_, .ref q8, .ref q9, .int readFeetMany, .ref q10, .int readLog, .int readBlock, .ref q11, .int readStocking, .ref q12, .int lefts_, .int rights_, .ref q13, .ref q14, .ref q15, .ref q16, .ref q17])), (q12, .inl (cc 0, 52, .inl now_)), (q13, .inl (cc 0, 10, .inl left_)), (q14, .inl (cc 0, 10, .inl right_))])) ((fun A => va_Qi (fun (r : Int32) (w : Unit) => narrow .boolean (.int r) = .int r ∧ (r = ret ∧ w = ())) (fun (w : Unit) t => va_P (dC, dI) classes [(q0, .inr (10, [.int feetMany, .ref q1, .int log_, .int block, .ref q2, .int stocking, .ref q3, .int acts, .ref q4, .int keeps, .ref q5, .int hears, .ref q6, .ref q7, .int texted, .int at_, .ref q8, .ref q9, .int readFeetMany, .ref q10, .int readLog, .int readBlock, .ref q11, .int readStocking, .ref q12, .int lefts_, .int rights_, .ref q13, .ref q14, .ref q15, .ref q16, .ref q17])), (q12, .inl (cc 0, 52, .inl now_)), (q13, .inl (cc 0, 10, .inl left_)), (q14, .inl (cc 0, 10, .inl right_))] t.heap) A) (va_A [(q0, .inr (10, [.int feetMany, .ref q1, .int log_, .int block, .ref q2, .int stocking, .ref q3, .int acts, .ref q4, .int keeps, .ref q5, .int hears, .ref q6, .ref q7, .int texted, .int at_, .ref q8, .ref q9, .int readFeetMany, .ref q10, .int readLog, .int readBlock, .ref q11, .int readStocking, .ref q12, .int lefts_, .int rights_, .ref q13, .ref q14, .ref q15, .ref q16, .ref q17])), (q12, .inl (cc 0, 52, .inl now_)), (q13, .inl (cc 0, 10, .inl left_)), (q14, .inl (cc 0, 10, .inl right_))] sz)) 0 0 (va_A [(q0, .inr (10, [.int feetMany, .ref q1, .int log_, .int block, .ref q2, .int stocking, .ref q3, .int acts, .ref q4, .int keeps, .ref q5, .int hears, .ref q6, .ref q7, .int texted, .int at_, .ref q8, .ref q9, .int readFeetMany, .ref q10, .int readLog, .int readBlock, .ref q11, .int readStocking, .ref q12, .int lefts_, .int rights_, .ref q13, .ref q14, .ref q15, .ref q16, .ref q17])), (q12, .inl (cc 0, 52, .inl now_)), (q13, .inl (cc 0, 10, .inl left_)), (q14, .inl (cc 0, 10, .inl right_))] sz) := by
  refine met_go (Qc := fun A => va_Qi (fun (r : Int32) (w : Unit) => narrow .boolean (.int r) = .int r ∧ (r = ret ∧ w = ())) (fun (w : Unit) t => va_P (dC, dI) classes [(q0, .inr (10, [.int feetMany, .ref q1, .int log_, .int block, .ref q2, .int stocking, .ref q3, .int acts, .ref q4, .int keeps, .ref q5, .int hears, .ref q6, .ref q7, .int texted, .int at_, .ref q8, .ref q9, .int readFeetMany, .ref q10, .int readLog, .int readBlock, .ref q11, .int readStocking, .ref q12, .int lefts_, .int rights_, .ref q13, .ref q14, .ref q15, .ref q16, .ref q17])), (q12, .inl (cc 0, 52, .inl now_)), (q13, .inl (cc 0, 10, .inl left_)), (q14, .inl (cc 0, 10, .inl right_))] t.heap) A) (by decide) (Nat.le_of_ble_eq_true rfl) ?_
  intro p e s m below meth c A ls H locs hC hr hlk hin hA hP hl _
  have hC : CX p m c cX10_mayPair 4 s ([.ref q0, .int x1, .int x2, .int x3] : List Value).toArray RX10 (dC, dI) (ts cc) := hC
  have hx := hC.1.1
  have hb := hC.1.2
  have h := hu
  have hu0 := hu
  unfold f_X10_mayPair at h
  have hl : lv_has ls 4 [(0, .ref q0), (1, .int x1), (2, .int x2), (3, .int x3)] := hl
  refine lv_iload_n hx hb dX10_mayPair_0 rfl (lv_at hl 2 rfl) ?_
  refine lv_iload_n hx hb dX10_mayPair_1 rfl (lv_at hl 3 rfl) ?_
  obtain ⟨r1, hu, h⟩ := bnd_h h
  refine kc_z (kS hC (c_X10_has l dC dI cc x2 x3 H.size r1 hu) cs_X10_211 kw1060 rfl rfl ⟨(Nat.le_of_ble_eq_true rfl), (Nat.le_of_ble_eq_true rfl)⟩ hP [] rfl rfl (As := [.int x2, .int x3]) (rest := []) rfl rfl hl.1 (Nat.le_of_ble_eq_true rfl) dX10_mayPair_2 ⟨Nat.zero_le _, Nat.zero_le _⟩) hP hA [] rfl rfl (fun hz_r1 H locs hP => ?_)
  have hP : PD (dC, dI) A s.heap [(q0, .inr (10, [.int feetMany, .ref q1, .int log_, .int block, .ref q2, .int stocking, .ref q3, .int acts, .ref q4, .int keeps, .ref q5, .int hears, .ref q6, .ref q7, .int texted, .int at_, .ref q8, .ref q9, .int readFeetMany, .ref q10, .int readLog, .int readBlock, .ref q11, .int readStocking, .ref q12, .int lefts_, .int rights_, .ref q13, .ref q14, .ref q15, .ref q16, .ref q17])), (q12, .inl (cc 0, 52, .inl now_)), (q13, .inl (cc 0, 10, .inl left_)), (q14, .inl (cc 0, 10, .inl right_))] H locs := hP
  refine lv_if_ne (tgt := 31) hx hb dX10_mayPair_5 (by decide) (fun c2 => ?_) (fun c2 => ?_)
  · have h := if_f c2 h
    refine lv_iconst (v := 0) hx hb dX10_mayPair_31 (by decide) ?_
    exact ret_z hC hr rfl hlk hP dX10_mayPair_32 () (⟨Option.some.inj h, rfl⟩) rfl
  · have h := if_t c2 h
    refine lv_aload_n hx hb dX10_mayPair_8 rfl (lv_at hl 0 rfl) ?_
    refine lv_aload_n hx hb dX10_mayPair_9 rfl (lv_at hl 0 rfl) ?_
    refine g_get hC hP fg_X10_47 0 rfl rfl dX10_mayPair_10 ?_
    refine lv_iload_n hx hb dX10_mayPair_13 rfl (lv_at hl 1 rfl) ?_
    obtain ⟨hin, h⟩ := rd_h h
    refine g_iald hC hP 2 0 rfl rfl hin dX10_mayPair_14 (fun v3 ev => ?_)
    have h := h v3 ev
    refine lv_aload_n hx hb dX10_mayPair_15 rfl (lv_at hl 0 rfl) ?_
    refine g_get hC hP fg_X10_50 0 rfl rfl dX10_mayPair_16 ?_
    refine lv_iload_n hx hb dX10_mayPair_19 rfl (lv_at hl 3 rfl) ?_
    obtain ⟨hin, h⟩ := rd_h h
    refine g_iald hC hP 3 0 rfl rfl hin dX10_mayPair_20 (fun v4 ev => ?_)
    have h := h v4 ev
    obtain ⟨r5, hu, h⟩ := bnd_h h
    refine kc_z (kV hC (c_X10_areAlike l dC dI cc q0 q1 q2 q3 q4 q5 q6 q7 q8 q9 q10 q11 q12 q13 q14 q15 q16 q17 feetMany log_ block stocking acts keeps hears texted at_ readFeetMany readLog readBlock readStocking lefts_ rights_ now_ v3 v4 H.size r5 hu) cv_X10_197 kw1023 rfl rfl ⟨(Nat.le_of_ble_eq_true rfl), (Nat.le_of_ble_eq_true rfl)⟩ hP [0, 1] rfl rfl rfl (q0 := 0) rfl (As := [.int v3, .int v4]) (rest := []) rfl rfl hl.1 (Nat.le_of_ble_eq_true rfl) dX10_mayPair_21 ⟨Nat.zero_le _, Nat.zero_le _⟩) hP hA [0, 1] rfl rfl (fun hz_r5 H locs hP => ?_)
    have hP : PD (dC, dI) A s.heap [(q0, .inr (10, [.int feetMany, .ref q1, .int log_, .int block, .ref q2, .int stocking, .ref q3, .int acts, .ref q4, .int keeps, .ref q5, .int hears, .ref q6, .ref q7, .int texted, .int at_, .ref q8, .ref q9, .int readFeetMany, .ref q10, .int readLog, .int readBlock, .ref q11, .int readStocking, .ref q12, .int lefts_, .int rights_, .ref q13, .ref q14, .ref q15, .ref q16, .ref q17])), (q12, .inl (cc 0, 52, .inl now_)), (q13, .inl (cc 0, 10, .inl left_)), (q14, .inl (cc 0, 10, .inl right_))] H locs := hP
    refine lv_if_eq (tgt := 31) hx hb dX10_mayPair_24 (by decide) (fun c6 => ?_) (fun c6 => ?_)
    · have h := if_t c6 h
      refine lv_iconst (v := 0) hx hb dX10_mayPair_31 (by decide) ?_
      exact ret_z hC hr rfl hlk hP dX10_mayPair_32 () (⟨Option.some.inj h, rfl⟩) rfl
    · have h := if_f c6 h
      refine lv_iconst (v := 1) hx hb dX10_mayPair_27 (by decide) ?_
      refine lv_goto (tgt := 32) hx hb dX10_mayPair_28 (by decide) ?_
      exact ret_z hC hr rfl hlk hP dX10_mayPair_32 () (⟨Option.some.inj h, rfl⟩) rfl
set_option maxHeartbeats 8000000 in
set_option maxRecDepth 100000 in
theorem c_X10_findPairs (l : Launch) (dC : Nat → ClassId) (dI : Nat → Nat → Nat) (cc : Nat → ClassId) (q0 q1 q2 q3 q4 q5 q6 q7 q8 q9 q10 q11 q12 q13 q14 q15 q16 q17 : Nat) (feetMany : Int32) (log_ : Int32) (block : Int32) (stocking : Int32) (acts : Int32) (keeps : Int32) (hears : Int32) (texted : Int32) (at_ : Int32) (readFeetMany : Int32) (readLog : Int32) (readBlock : Int32) (readStocking : Int32) (lefts_ : Int32) (rights_ : Int32) (st : (Nat → Int32)) (now_ : (Nat → Int32)) (left_ : (Nat → Int32)) (right_ : (Nat → Int32)) (best : (Nat → Int32)) (with_ : (Nat → Int32)) (sz : Nat) (o_now_ : (Nat → Int32)) (o_lefts_ : Int32) (o_rights_ : Int32) (o_left_ : (Nat → Int32)) (o_right_ : (Nat → Int32)) (o_best : (Nat → Int32)) (o_with_ : (Nat → Int32)) (hu : f_X10_findPairs st now_ left_ right_ best with_ = some (o_now_, o_lefts_, o_rights_, o_left_, o_right_, o_best, o_with_)) : Met l yX10_findPairs (mw yX10_findPairs cX10_findPairs 6 none) ({ frames := 4, cells := 0, slots := 0, locals := 89 } : Room) (va_Pc [.ref q0] (mP (dC, dI) (ts cc) sz [(q0, .inr (10, [.int feetMany, .ref q1, .int log_, .int block, .ref q2, .int stocking, .ref q3, .int acts, .ref q4, .int keeps, .ref q5, .int hears, .ref q6, .ref q7, .int texted, .int at_, .ref q8, .ref q9, .int readFeetMany, .ref q10, .int readLog, .int readBlock, .ref q11, .int readStocking, .ref q12, .int lefts_, .int rights_, .ref q13, .ref q14, .ref q15, .ref q16, .ref q17])), (q3, .inl (cc 0, 52, .inl st)), (q12, .inl (cc 0, 52, .inl now_)), (q13, .inl (cc 0, 10, .inl left_)), (q14, .inl (cc 0, 10, .inl right_)), (q15, .inl (cc 0, 1100, .inl best)), (q16, .inl (cc 0, 10, .inl with_))])) ((fun A => va_Qv (fun (w : (Nat → Int32) × Int32 × Int32 × (Nat → Int32) × (Nat → Int32) × (Nat → Int32) × (Nat → Int32)) => w = (o_now_, o_lefts_, o_rights_, o_left_, o_right_, o_best, o_with_)) (fun (w : (Nat → Int32) × Int32 × Int32 × (Nat → Int32) × (Nat → Int32) × (Nat → Int32) × (Nat → Int32)) t => va_P (dC, dI) classes [(q0, .inr (10, [.int feetMany, .ref q1, .int log_, .int block, .ref q2, .int stocking, .ref q3, .int acts, .ref q4, .int keeps, .ref q5, .int hears, .ref q6, .ref q7, .int texted, .int at_, .ref q8, .ref q9, .int readFeetMany, .ref q10, .int readLog, .int readBlock, .ref q11, .int readStocking, .ref q12, .int w.2.1, .int w.2.2.1, .ref q13, .ref q14, .ref q15, .ref q16, .ref q17])), (q3, .inl (cc 0, 52, .inl st)), (q12, .inl (cc 0, 52, .inl w.1)), (q13, .inl (cc 0, 10, .inl w.2.2.2.1)), (q14, .inl (cc 0, 10, .inl w.2.2.2.2.1)), (q15, .inl (cc 0, 1100, .inl w.2.2.2.2.2.1)), (q16, .inl (cc 0, 10, .inl w.2.2.2.2.2.2))] t.heap) A) (va_A [(q0, .inr (10, [.int feetMany, .ref q1, .int log_, .int block, .ref q2, .int stocking, .ref q3, .int acts, .ref q4, .int keeps, .ref q5, .int hears, .ref q6, .ref q7, .int texted, .int at_, .ref q8, .ref q9, .int readFeetMany, .ref q10, .int readLog, .int readBlock, .ref q11, .int readStocking, .ref q12, .int lefts_, .int rights_, .ref q13, .ref q14, .ref q15, .ref q16, .ref q17])), (q3, .inl (cc 0, 52, .inl st)), (q12, .inl (cc 0, 52, .inl now_)), (q13, .inl (cc 0, 10, .inl left_)), (q14, .inl (cc 0, 10, .inl right_)), (q15, .inl (cc 0, 1100, .inl best)), (q16, .inl (cc 0, 10, .inl with_))] sz)) 0 0 (va_A [(q0, .inr (10, [.int feetMany, .ref q1, .int log_, .int block, .ref q2, .int stocking, .ref q3, .int acts, .ref q4, .int keeps, .ref q5, .int hears, .ref q6, .ref q7, .int texted, .int at_, .ref q8, .ref q9, .int readFeetMany, .ref q10, .int readLog, .int readBlock, .ref q11, .int readStocking, .ref q12, .int lefts_, .int rights_, .ref q13, .ref q14, .ref q15, .ref q16, .ref q17])), (q3, .inl (cc 0, 52, .inl st)), (q12, .inl (cc 0, 52, .inl now_)), (q13, .inl (cc 0, 10, .inl left_)), (q14, .inl (cc 0, 10, .inl right_)), (q15, .inl (cc 0, 1100, .inl best)), (q16, .inl (cc 0, 10, .inl with_))] sz) := by
  refine met_go (Qc := fun A => va_Qv (fun (w : (Nat → Int32) × Int32 × Int32 × (Nat → Int32) × (Nat → Int32) × (Nat → Int32) × (Nat → Int32)) => w = (o_now_, o_lefts_, o_rights_, o_left_, o_right_, o_best, o_with_)) (fun (w : (Nat → Int32) × Int32 × Int32 × (Nat → Int32) × (Nat → Int32) × (Nat → Int32) × (Nat → Int32)) t => va_P (dC, dI) classes [(q0, .inr (10, [.int feetMany, .ref q1, .int log_, .int block, .ref q2, .int stocking, .ref q3, .int acts, .ref q4, .int keeps, .ref q5, .int hears, .ref q6, .ref q7, .int texted, .int at_, .ref q8, .ref q9, .int readFeetMany, .ref q10, .int readLog, .int readBlock, .ref q11, .int readStocking, .ref q12, .int w.2.1, .int w.2.2.1, .ref q13, .ref q14, .ref q15, .ref q16, .ref q17])), (q3, .inl (cc 0, 52, .inl st)), (q12, .inl (cc 0, 52, .inl w.1)), (q13, .inl (cc 0, 10, .inl w.2.2.2.1)), (q14, .inl (cc 0, 10, .inl w.2.2.2.2.1)), (q15, .inl (cc 0, 1100, .inl w.2.2.2.2.2.1)), (q16, .inl (cc 0, 10, .inl w.2.2.2.2.2.2))] t.heap) A) (by decide) (Nat.le_of_ble_eq_true rfl) ?_
  intro p e s m below meth c A ls H locs hC hr hlk hin hA hP hl _
  have hC : CX p m c cX10_findPairs 6 s ([.ref q0] : List Value).toArray RX10 (dC, dI) (ts cc) := hC
  have hx := hC.1.1
  have hb := hC.1.2
  have h := hu
  have hu0 := hu
  unfold f_X10_findPairs at h
  have hl : lv_has ls 6 [(0, .ref q0)] := hl
  refine W_abs (fun Z eZ => ?_)
  refine lv_aload_n hx hb dX10_findPairs_0 rfl (lv_at hl 0 rfl) ?_
  obtain ⟨w1, hu, h⟩ := bnd_h h
  refine kc_v (kV hC (c_X10_asItIs l dC dI cc q0 q1 q2 q3 q4 q5 q6 q7 q8 q9 q10 q11 q12 q13 q14 q15 q16 q17 feetMany log_ block stocking acts keeps hears texted at_ readFeetMany readLog readBlock readStocking lefts_ rights_ st now_ H.size w1 hu) cv_X10_191 kw979 rfl rfl ⟨(Nat.le_of_ble_eq_true rfl), (Nat.le_of_ble_eq_true rfl)⟩ hP [0, 1, 2] rfl rfl rfl (q0 := 0) rfl (As := []) (rest := []) rfl rfl hl.1 (Nat.le_of_ble_eq_true rfl) dX10_findPairs_1 ⟨Nat.zero_le _, Nat.zero_le _⟩) hP hA [0, 1, 2] rfl rfl (fun H locs hP => ?_)
  have hP : PD (dC, dI) A s.heap [(q0, .inr (10, [.int feetMany, .ref q1, .int log_, .int block, .ref q2, .int stocking, .ref q3, .int acts, .ref q4, .int keeps, .ref q5, .int hears, .ref q6, .ref q7, .int texted, .int at_, .ref q8, .ref q9, .int readFeetMany, .ref q10, .int readLog, .int readBlock, .ref q11, .int readStocking, .ref q12, .int lefts_, .int rights_, .ref q13, .ref q14, .ref q15, .ref q16, .ref q17])), (q3, .inl (cc 0, 52, .inl st)), (q12, .inl (cc 0, 52, .inl w1)), (q13, .inl (cc 0, 10, .inl left_)), (q14, .inl (cc 0, 10, .inl right_)), (q15, .inl (cc 0, 1100, .inl best)), (q16, .inl (cc 0, 10, .inl with_))] H locs := hP
  refine lv_aload_n hx hb dX10_findPairs_4 rfl (lv_at hl 0 rfl) ?_
  obtain ⟨⟨w2, w3, w4, w5⟩, hu, h⟩ := bnd_h h
  refine kc_v (kV hC (c_X10_findSides l dC dI cc q0 q1 q2 q3 q4 q5 q6 q7 q8 q9 q10 q11 q12 q13 q14 q15 q16 q17 feetMany log_ block stocking acts keeps hears texted at_ readFeetMany readLog readBlock readStocking lefts_ rights_ st w1 left_ right_ H.size w2 w3 w4 w5 hu) cv_X10_214 kw1053 rfl rfl ⟨(Nat.le_of_ble_eq_true rfl), (Nat.le_of_ble_eq_true rfl)⟩ hP [0, 1, 2, 3, 4] rfl rfl rfl (q0 := 0) rfl (As := []) (rest := []) rfl rfl hl.1 (Nat.le_of_ble_eq_true rfl) dX10_findPairs_5 ⟨Nat.zero_le _, Nat.zero_le _⟩) hP hA [0, 1, 2, 3, 4] rfl rfl (fun H locs hP => ?_)
  have hP : PD (dC, dI) A s.heap [(q0, .inr (10, [.int feetMany, .ref q1, .int log_, .int block, .ref q2, .int stocking, .ref q3, .int acts, .ref q4, .int keeps, .ref q5, .int hears, .ref q6, .ref q7, .int texted, .int at_, .ref q8, .ref q9, .int readFeetMany, .ref q10, .int readLog, .int readBlock, .ref q11, .int readStocking, .ref q12, .int w2, .int w3, .ref q13, .ref q14, .ref q15, .ref q16, .ref q17])), (q3, .inl (cc 0, 52, .inl st)), (q12, .inl (cc 0, 52, .inl w1)), (q13, .inl (cc 0, 10, .inl w4)), (q14, .inl (cc 0, 10, .inl w5)), (q15, .inl (cc 0, 1100, .inl best)), (q16, .inl (cc 0, 10, .inl with_))] H locs := hP
  refine lv_iconst (v := 0) hx hb dX10_findPairs_8 (by decide) ?_
  refine lv_istore_n (lv' := [(1, .int 0), (0, .ref q0)]) hx hb dX10_findPairs_9 rfl hl (by decide) rfl (fun ls hl => ?_)
  obtain ⟨⟨j6x, w7x⟩, hlp, h⟩ := bnd_h h
  have L1 : ∀ (n : Nat) (j6 : Int32) (w7 : (Nat → Int32)) (j6x : Int32) (w7x : (Nat → Int32)), lp (u2 (b_X10_findPairs_1 w2 w3)) n (j6, w7) = some (j6x, w7x) → ∀ (H : Heap) (locs : List Loc) (ls : Array Slot), PD (dC, dI) A s.heap [(q0, .inr (10, [.int feetMany, .ref q1, .int log_, .int block, .ref q2, .int stocking, .ref q3, .int acts, .ref q4, .int keeps, .ref q5, .int hears, .ref q6, .ref q7, .int texted, .int at_, .ref q8, .ref q9, .int readFeetMany, .ref q10, .int readLog, .int readBlock, .ref q11, .int readStocking, .ref q12, .int w2, .int w3, .ref q13, .ref q14, .ref q15, .ref q16, .ref q17])), (q3, .inl (cc 0, 52, .inl st)), (q12, .inl (cc 0, 52, .inl w1)), (q13, .inl (cc 0, 10, .inl w4)), (q14, .inl (cc 0, 10, .inl w5)), (q15, .inl (cc 0, 1100, .inl w7)), (q16, .inl (cc 0, 10, .inl with_))] H locs → lv_has ls 6 [(0, .ref q0), (1, .int j6)] → (∀ (H : Heap) (locs : List Loc) (ls : Array Slot), PD (dC, dI) A s.heap [(q0, .inr (10, [.int feetMany, .ref q1, .int log_, .int block, .ref q2, .int stocking, .ref q3, .int acts, .ref q4, .int keeps, .ref q5, .int hears, .ref q6, .ref q7, .int texted, .int at_, .ref q8, .ref q9, .int readFeetMany, .ref q10, .int readLog, .int readBlock, .ref q11, .int readStocking, .ref q12, .int w2, .int w3, .ref q13, .ref q14, .ref q15, .ref q16, .ref q17])), (q3, .inl (cc 0, 52, .inl st)), (q12, .inl (cc 0, 52, .inl w1)), (q13, .inl (cc 0, 10, .inl w4)), (q14, .inl (cc 0, 10, .inl w5)), (q15, .inl (cc 0, 1100, .inl w7x)), (q16, .inl (cc 0, 10, .inl with_))] H locs → lv_has ls 6 [(0, .ref q0), (1, .int j6x)] → W p l e ({ frames := 4, cells := 0, slots := 0, locals := 89 } : Room) s m ([.ref q0] : List Value).toArray below meth c H locs 0 0 Z (F0 m 43 ls [])) → W p l e ({ frames := 4, cells := 0, slots := 0, locals := 89 } : Room) s m ([.ref q0] : List Value).toArray below meth c H locs 0 0 Z (F0 m 10 ls []) := by
    intro n
    induction n with
    | zero => intro j6 w7 j6x w7x h; exact (lp_0 h).elim
    | succ n ih =>
      intro j6 w7 j6x w7x h H locs ls hP hl KK
      obtain ⟨y, h, hz⟩ := lp_h h
      refine lv_iload_n hx hb dX10_findPairs_10 rfl (lv_at hl 1 rfl) ?_
      refine lv_iconst (v := 1) hx hb dX10_findPairs_11 (by decide) ?_
      refine lv_aload_n hx hb dX10_findPairs_12 rfl (lv_at hl 0 rfl) ?_
      refine g_get hC hP fg_X10_208 0 rfl rfl dX10_findPairs_13 ?_
      refine lv_ishl hx hb dX10_findPairs_16 ?_
      refine lv_icmp_ge (tgt := 43) hx hb dX10_findPairs_17 (by decide) (fun c8 => ?_) (fun c8 => ?_)
      · have h := if_t c8 h
        cases lp_e h hz
        exact KK H locs ls hP (lv_sub hl [0, 1] rfl)
      · have h := if_f c8 h
        refine lv_aload_n hx hb dX10_findPairs_20 rfl (lv_at hl 0 rfl) ?_
        refine g_get hC hP fg_X10_53 0 rfl rfl dX10_findPairs_21 ?_
        refine lv_aload_n hx hb dX10_findPairs_24 rfl (lv_at hl 0 rfl) ?_
        refine g_get hC hP fg_X10_205 0 rfl rfl dX10_findPairs_25 ?_
        refine lv_aload_n hx hb dX10_findPairs_28 rfl (lv_at hl 0 rfl) ?_
        refine g_get hC hP fg_X10_208 0 rfl rfl dX10_findPairs_29 ?_
        refine lv_ishl hx hb dX10_findPairs_32 ?_
        refine lv_iload_n hx hb dX10_findPairs_33 rfl (lv_at hl 1 rfl) ?_
        refine lv_iadd hx hb dX10_findPairs_34 ?_
        refine lv_iconst (v := 0) hx hb dX10_findPairs_35 (by decide) ?_
        obtain ⟨hin, h⟩ := wr_h h
        refine g_iast hC hP 5 0 rfl rfl hin dX10_findPairs_36 (fun a9 ev H locs hP => ?_)
        have hP : PD (dC, dI) A s.heap [(q0, .inr (10, [.int feetMany, .ref q1, .int log_, .int block, .ref q2, .int stocking, .ref q3, .int acts, .ref q4, .int keeps, .ref q5, .int hears, .ref q6, .ref q7, .int texted, .int at_, .ref q8, .ref q9, .int readFeetMany, .ref q10, .int readLog, .int readBlock, .ref q11, .int readStocking, .ref q12, .int w2, .int w3, .ref q13, .ref q14, .ref q15, .ref q16, .ref q17])), (q3, .inl (cc 0, 52, .inl st)), (q12, .inl (cc 0, 52, .inl w1)), (q13, .inl (cc 0, 10, .inl w4)), (q14, .inl (cc 0, 10, .inl w5)), (q15, .inl (cc 0, 1100, .inl a9)), (q16, .inl (cc 0, 10, .inl with_))] H locs := hP
        have h := h a9 ev
        refine lv_iinc (v := (j6 + 1)) (lv' := [(1, .int (j6 + 1)), (0, .ref q0)]) hx hb dX10_findPairs_37 hl (k := 1) rfl rfl (by decide) rfl (fun ls hl => ?_)
        refine lv_goto (tgt := 10) hx hb dX10_findPairs_40 (by decide) ?_
        exact ih _ _ _ _ (lp_n h hz) H locs ls hP (lv_sub hl [1, 0] rfl) KK
  refine L1 FU _ _ j6x w7x hlp H locs ls hP (lv_sub hl [1, 0] rfl) (fun H locs ls hP hl => ?_)
  refine lv_aload_n hx hb dX10_findPairs_43 rfl (lv_at hl 0 rfl) ?_
  refine g_get hC hP fg_X10_205 0 rfl rfl dX10_findPairs_44 ?_
  refine lv_iconst (v := 1) hx hb dX10_findPairs_47 (by decide) ?_
  refine lv_isub hx hb dX10_findPairs_48 ?_
  refine lv_istore_n (lv' := [(1, .int (w2 - 1)), (0, .ref q0)]) hx hb dX10_findPairs_49 rfl hl (by decide) rfl (fun ls hl => ?_)
  obtain ⟨⟨j10x, w11x⟩, hlp, h⟩ := bnd_h h
  have L2 : ∀ (n : Nat) (j10 : Int32) (w11 : (Nat → Int32)) (j10x : Int32) (w11x : (Nat → Int32)), lp (u2 (b_X10_findPairs_2 w1 w3 w4 w5)) n (j10, w11) = some (j10x, w11x) → ∀ (H : Heap) (locs : List Loc) (ls : Array Slot), PD (dC, dI) A s.heap [(q0, .inr (10, [.int feetMany, .ref q1, .int log_, .int block, .ref q2, .int stocking, .ref q3, .int acts, .ref q4, .int keeps, .ref q5, .int hears, .ref q6, .ref q7, .int texted, .int at_, .ref q8, .ref q9, .int readFeetMany, .ref q10, .int readLog, .int readBlock, .ref q11, .int readStocking, .ref q12, .int w2, .int w3, .ref q13, .ref q14, .ref q15, .ref q16, .ref q17])), (q3, .inl (cc 0, 52, .inl st)), (q12, .inl (cc 0, 52, .inl w1)), (q13, .inl (cc 0, 10, .inl w4)), (q14, .inl (cc 0, 10, .inl w5)), (q15, .inl (cc 0, 1100, .inl w11)), (q16, .inl (cc 0, 10, .inl with_))] H locs → lv_has ls 6 [(0, .ref q0), (1, .int j10)] → (∀ (H : Heap) (locs : List Loc) (ls : Array Slot), PD (dC, dI) A s.heap [(q0, .inr (10, [.int feetMany, .ref q1, .int log_, .int block, .ref q2, .int stocking, .ref q3, .int acts, .ref q4, .int keeps, .ref q5, .int hears, .ref q6, .ref q7, .int texted, .int at_, .ref q8, .ref q9, .int readFeetMany, .ref q10, .int readLog, .int readBlock, .ref q11, .int readStocking, .ref q12, .int w2, .int w3, .ref q13, .ref q14, .ref q15, .ref q16, .ref q17])), (q3, .inl (cc 0, 52, .inl st)), (q12, .inl (cc 0, 52, .inl w1)), (q13, .inl (cc 0, 10, .inl w4)), (q14, .inl (cc 0, 10, .inl w5)), (q15, .inl (cc 0, 1100, .inl w11x)), (q16, .inl (cc 0, 10, .inl with_))] H locs → lv_has ls 6 [(0, .ref q0), (1, .int j10x)] → W p l e ({ frames := 4, cells := 0, slots := 0, locals := 89 } : Room) s m ([.ref q0] : List Value).toArray below meth c H locs 0 0 Z (F0 m 164 ls [])) → W p l e ({ frames := 4, cells := 0, slots := 0, locals := 89 } : Room) s m ([.ref q0] : List Value).toArray below meth c H locs 0 0 Z (F0 m 50 ls []) := by
    intro n
    induction n with
    | zero => intro j10 w11 j10x w11x h; exact (lp_0 h).elim
    | succ n ih =>
      intro j10 w11 j10x w11x h H locs ls hP hl KK
      obtain ⟨y, h, hz⟩ := lp_h h
      refine lv_iload_n hx hb dX10_findPairs_50 rfl (lv_at hl 1 rfl) ?_
      refine lv_if_lt (tgt := 164) hx hb dX10_findPairs_51 (by decide) (fun c12 => ?_) (fun c12 => ?_)
      · have h := if_t c12 h
        cases lp_e h hz
        exact KK H locs ls hP (lv_sub hl [0, 1] rfl)
      · have h := if_f c12 h
        refine lv_iconst (v := 0) hx hb dX10_findPairs_54 (by decide) ?_
        refine lv_istore_n (lv' := [(2, .int 0), (0, .ref q0), (1, .int j10)]) hx hb dX10_findPairs_55 rfl hl (by decide) rfl (fun ls hl => ?_)
        obtain ⟨⟨j13x, w14x⟩, hlp, h⟩ := bnd_h h
        have L3 : ∀ (n : Nat) (j13 : Int32) (w14 : (Nat → Int32)) (j13x : Int32) (w14x : (Nat → Int32)), lp (u2 (b_X10_findPairs_3 j10 w1 w3 w4 w5)) n (j13, w14) = some (j13x, w14x) → ∀ (H : Heap) (locs : List Loc) (ls : Array Slot), PD (dC, dI) A s.heap [(q0, .inr (10, [.int feetMany, .ref q1, .int log_, .int block, .ref q2, .int stocking, .ref q3, .int acts, .ref q4, .int keeps, .ref q5, .int hears, .ref q6, .ref q7, .int texted, .int at_, .ref q8, .ref q9, .int readFeetMany, .ref q10, .int readLog, .int readBlock, .ref q11, .int readStocking, .ref q12, .int w2, .int w3, .ref q13, .ref q14, .ref q15, .ref q16, .ref q17])), (q3, .inl (cc 0, 52, .inl st)), (q12, .inl (cc 0, 52, .inl w1)), (q13, .inl (cc 0, 10, .inl w4)), (q14, .inl (cc 0, 10, .inl w5)), (q15, .inl (cc 0, 1100, .inl w14)), (q16, .inl (cc 0, 10, .inl with_))] H locs → lv_has ls 6 [(0, .ref q0), (1, .int j10), (2, .int j13)] → (∀ (H : Heap) (locs : List Loc) (ls : Array Slot), PD (dC, dI) A s.heap [(q0, .inr (10, [.int feetMany, .ref q1, .int log_, .int block, .ref q2, .int stocking, .ref q3, .int acts, .ref q4, .int keeps, .ref q5, .int hears, .ref q6, .ref q7, .int texted, .int at_, .ref q8, .ref q9, .int readFeetMany, .ref q10, .int readLog, .int readBlock, .ref q11, .int readStocking, .ref q12, .int w2, .int w3, .ref q13, .ref q14, .ref q15, .ref q16, .ref q17])), (q3, .inl (cc 0, 52, .inl st)), (q12, .inl (cc 0, 52, .inl w1)), (q13, .inl (cc 0, 10, .inl w4)), (q14, .inl (cc 0, 10, .inl w5)), (q15, .inl (cc 0, 1100, .inl w14x)), (q16, .inl (cc 0, 10, .inl with_))] H locs → lv_has ls 6 [(0, .ref q0), (1, .int j10), (2, .int j13x)] → W p l e ({ frames := 4, cells := 0, slots := 0, locals := 89 } : Room) s m ([.ref q0] : List Value).toArray below meth c H locs 0 0 Z (F0 m 158 ls [])) → W p l e ({ frames := 4, cells := 0, slots := 0, locals := 89 } : Room) s m ([.ref q0] : List Value).toArray below meth c H locs 0 0 Z (F0 m 56 ls []) := by
          intro n
          induction n with
          | zero => intro j13 w14 j13x w14x h; exact (lp_0 h).elim
          | succ n ih =>
            intro j13 w14 j13x w14x h H locs ls hP hl KK
            obtain ⟨y, h, hz⟩ := lp_h h
            refine lv_iload_n hx hb dX10_findPairs_56 rfl (lv_at hl 2 rfl) ?_
            refine lv_iconst (v := 1) hx hb dX10_findPairs_57 (by decide) ?_
            refine lv_aload_n hx hb dX10_findPairs_58 rfl (lv_at hl 0 rfl) ?_
            refine g_get hC hP fg_X10_208 0 rfl rfl dX10_findPairs_59 ?_
            refine lv_ishl hx hb dX10_findPairs_62 ?_
            refine lv_icmp_ge (tgt := 158) hx hb dX10_findPairs_63 (by decide) (fun c15 => ?_) (fun c15 => ?_)
            · have h := if_t c15 h
              cases lp_e h hz
              exact KK H locs ls hP (lv_sub hl [0, 1, 2] rfl)
            · have h := if_f c15 h
              refine lv_aload_n hx hb dX10_findPairs_66 rfl (lv_at hl 0 rfl) ?_
              refine g_get hC hP fg_X10_53 0 rfl rfl dX10_findPairs_67 ?_
              refine lv_iload_n hx hb dX10_findPairs_70 rfl (lv_at hl 1 rfl) ?_
              refine lv_iconst (v := 1) hx hb dX10_findPairs_71 (by decide) ?_
              refine lv_iadd hx hb dX10_findPairs_72 ?_
              refine lv_aload_n hx hb dX10_findPairs_73 rfl (lv_at hl 0 rfl) ?_
              refine g_get hC hP fg_X10_208 0 rfl rfl dX10_findPairs_74 ?_
              refine lv_ishl hx hb dX10_findPairs_77 ?_
              refine lv_iload_n hx hb dX10_findPairs_78 rfl (lv_at hl 2 rfl) ?_
              refine lv_iadd hx hb dX10_findPairs_79 ?_
              obtain ⟨hin, h⟩ := rd_h h
              refine g_iald hC hP 5 0 rfl rfl hin dX10_findPairs_80 (fun v16 ev => ?_)
              have h := h v16 ev
              refine lv_istore_n (lv' := [(3, .int v16), (0, .ref q0), (1, .int j10), (2, .int j13)]) hx hb dX10_findPairs_81 rfl hl (by decide) rfl (fun ls hl => ?_)
              refine lv_iconst (v := 0) hx hb dX10_findPairs_82 (by decide) ?_
              refine lv_istore (lv' := [(4, .int 0), (3, .int v16), (0, .ref q0), (1, .int j10), (2, .int j13)]) hx hb dX10_findPairs_83 hl (by decide) rfl (fun ls hl => ?_)
              obtain ⟨⟨j17x, j18x⟩, hlp, h⟩ := bnd_h h
              have L4 : ∀ (n : Nat) (j17 : Int32) (j18 : Int32) (j17x : Int32) (j18x : Int32), lp (u2 (b_X10_findPairs_4 j10 j13 w1 w14 w3 w4 w5)) n (j17, j18) = some (j17x, j18x) → ∀ (H : Heap) (locs : List Loc) (ls : Array Slot), PD (dC, dI) A s.heap [(q0, .inr (10, [.int feetMany, .ref q1, .int log_, .int block, .ref q2, .int stocking, .ref q3, .int acts, .ref q4, .int keeps, .ref q5, .int hears, .ref q6, .ref q7, .int texted, .int at_, .ref q8, .ref q9, .int readFeetMany, .ref q10, .int readLog, .int readBlock, .ref q11, .int readStocking, .ref q12, .int w2, .int w3, .ref q13, .ref q14, .ref q15, .ref q16, .ref q17])), (q3, .inl (cc 0, 52, .inl st)), (q12, .inl (cc 0, 52, .inl w1)), (q13, .inl (cc 0, 10, .inl w4)), (q14, .inl (cc 0, 10, .inl w5)), (q15, .inl (cc 0, 1100, .inl w14)), (q16, .inl (cc 0, 10, .inl with_))] H locs → lv_has ls 6 [(0, .ref q0), (1, .int j10), (2, .int j13), (3, .int j17), (4, .int j18)] → (∀ (H : Heap) (locs : List Loc) (ls : Array Slot), PD (dC, dI) A s.heap [(q0, .inr (10, [.int feetMany, .ref q1, .int log_, .int block, .ref q2, .int stocking, .ref q3, .int acts, .ref q4, .int keeps, .ref q5, .int hears, .ref q6, .ref q7, .int texted, .int at_, .ref q8, .ref q9, .int readFeetMany, .ref q10, .int readLog, .int readBlock, .ref q11, .int readStocking, .ref q12, .int w2, .int w3, .ref q13, .ref q14, .ref q15, .ref q16, .ref q17])), (q3, .inl (cc 0, 52, .inl st)), (q12, .inl (cc 0, 52, .inl w1)), (q13, .inl (cc 0, 10, .inl w4)), (q14, .inl (cc 0, 10, .inl w5)), (q15, .inl (cc 0, 1100, .inl w14)), (q16, .inl (cc 0, 10, .inl with_))] H locs → lv_has ls 6 [(0, .ref q0), (1, .int j10), (2, .int j13), (3, .int j17x), (4, .int j18x)] → W p l e ({ frames := 4, cells := 0, slots := 0, locals := 89 } : Room) s m ([.ref q0] : List Value).toArray below meth c H locs 0 0 Z (F0 m 138 ls [])) → W p l e ({ frames := 4, cells := 0, slots := 0, locals := 89 } : Room) s m ([.ref q0] : List Value).toArray below meth c H locs 0 0 Z (F0 m 85 ls []) := by
                intro n
                induction n with
                | zero => intro j17 j18 j17x j18x h; exact (lp_0 h).elim
                | succ n ih =>
                  intro j17 j18 j17x j18x h H locs ls hP hl KK
                  obtain ⟨y, h, hz⟩ := lp_h h
                  refine lv_iload hx hb dX10_findPairs_85 (lv_at hl 4 rfl) ?_
                  refine lv_aload_n hx hb dX10_findPairs_87 rfl (lv_at hl 0 rfl) ?_
                  refine g_get hC hP fg_X10_208 0 rfl rfl dX10_findPairs_88 ?_
                  refine lv_icmp_ge (tgt := 138) hx hb dX10_findPairs_91 (by decide) (fun c19 => ?_) (fun c19 => ?_)
                  · have h := if_t c19 h
                    cases lp_e h hz
                    exact KK H locs ls hP (lv_sub hl [0, 1, 2, 3, 4] rfl)
                  · have h := if_f c19 h
                    refine lv_aload_n hx hb dX10_findPairs_94 rfl (lv_at hl 0 rfl) ?_
                    refine lv_iload_n hx hb dX10_findPairs_95 rfl (lv_at hl 1 rfl) ?_
                    refine lv_iload_n hx hb dX10_findPairs_96 rfl (lv_at hl 2 rfl) ?_
                    refine lv_iload hx hb dX10_findPairs_97 (lv_at hl 4 rfl) ?_
                    obtain ⟨r20, hu, h⟩ := bnd_h h
                    refine kc_z (kV hC (c_X10_mayPair l dC dI cc q0 q1 q2 q3 q4 q5 q6 q7 q8 q9 q10 q11 q12 q13 q14 q15 q16 q17 feetMany log_ block stocking acts keeps hears texted at_ readFeetMany readLog readBlock readStocking w2 w3 w1 w4 w5 j10 j13 j18 H.size r20 hu) cv_X10_217 kw1057 rfl rfl ⟨(Nat.le_of_ble_eq_true rfl), (Nat.le_of_ble_eq_true rfl)⟩ hP [0, 2, 3, 4] rfl rfl rfl (q0 := 0) rfl (As := [.int j10, .int j13, .int j18]) (rest := []) rfl rfl hl.1 (Nat.le_of_ble_eq_true rfl) dX10_findPairs_99 ⟨Nat.zero_le _, Nat.zero_le _⟩) hP hA [0, 2, 3, 4] rfl rfl (fun hz_r20 H locs hP => ?_)
                    have hP : PD (dC, dI) A s.heap [(q0, .inr (10, [.int feetMany, .ref q1, .int log_, .int block, .ref q2, .int stocking, .ref q3, .int acts, .ref q4, .int keeps, .ref q5, .int hears, .ref q6, .ref q7, .int texted, .int at_, .ref q8, .ref q9, .int readFeetMany, .ref q10, .int readLog, .int readBlock, .ref q11, .int readStocking, .ref q12, .int w2, .int w3, .ref q13, .ref q14, .ref q15, .ref q16, .ref q17])), (q3, .inl (cc 0, 52, .inl st)), (q12, .inl (cc 0, 52, .inl w1)), (q13, .inl (cc 0, 10, .inl w4)), (q14, .inl (cc 0, 10, .inl w5)), (q15, .inl (cc 0, 1100, .inl w14)), (q16, .inl (cc 0, 10, .inl with_))] H locs := hP
                    refine lv_if_eq (tgt := 116) hx hb dX10_findPairs_102 (by decide) (fun c21 => ?_) (fun c21 => ?_)
                    · have h := if_t c21 h
                      refine lv_iconst (v := -1) hx hb dX10_findPairs_116 (by decide) ?_
                      refine lv_istore (lv' := [(5, .int (-1)), (0, .ref q0), (1, .int j10), (2, .int j13), (3, .int j17), (4, .int j18)]) hx hb dX10_findPairs_117 hl (by decide) rfl (fun ls hl => ?_)
                      refine lv_iload hx hb dX10_findPairs_119 (lv_at hl 0 rfl) ?_
                      refine lv_iload_n hx hb dX10_findPairs_121 rfl (lv_at hl 4 rfl) ?_
                      refine lv_icmp_le (tgt := 130) hx hb dX10_findPairs_122 (by decide) (fun c22 => ?_) (fun c22 => ?_)
                      · have h := if_t c22 h
                        refine lv_iload_n hx hb dX10_findPairs_130 rfl (lv_at hl 4 rfl) ?_
                        refine lv_istore_n (lv' := [(3, .int j17), (5, .int (-1)), (0, .ref q0), (1, .int j10), (2, .int j13), (4, .int j18)]) hx hb dX10_findPairs_131 rfl hl (by decide) rfl (fun ls hl => ?_)
                        refine lv_iinc (v := (j18 + 1)) (lv' := [(4, .int (j18 + 1)), (3, .int j17), (5, .int (-1)), (0, .ref q0), (1, .int j10), (2, .int j13)]) hx hb dX10_findPairs_132 hl (k := 5) rfl rfl (by decide) rfl (fun ls hl => ?_)
                        refine lv_goto (tgt := 85) hx hb dX10_findPairs_135 (by decide) ?_
                        exact ih _ _ _ _ (lp_n h hz) H locs ls hP (lv_sub hl [3, 4, 5, 1, 0] rfl) KK
                      · have h := if_f c22 h
                        refine lv_iload hx hb dX10_findPairs_125 (lv_at hl 0 rfl) ?_
                        refine lv_goto (tgt := 131) hx hb dX10_findPairs_127 (by decide) ?_
                        refine lv_istore_n (lv' := [(3, .int (-1)), (5, .int (-1)), (0, .ref q0), (1, .int j10), (2, .int j13), (4, .int j18)]) hx hb dX10_findPairs_131 rfl hl (by decide) rfl (fun ls hl => ?_)
                        refine lv_iinc (v := (j18 + 1)) (lv' := [(4, .int (j18 + 1)), (3, .int (-1)), (5, .int (-1)), (0, .ref q0), (1, .int j10), (2, .int j13)]) hx hb dX10_findPairs_132 hl (k := 5) rfl rfl (by decide) rfl (fun ls hl => ?_)
                        refine lv_goto (tgt := 85) hx hb dX10_findPairs_135 (by decide) ?_
                        exact ih _ _ _ _ (lp_n h hz) H locs ls hP (lv_sub hl [3, 4, 5, 1, 0] rfl) KK
                    · have h := if_f c21 h
                      refine lv_aload_n hx hb dX10_findPairs_105 rfl (lv_at hl 0 rfl) ?_
                      refine lv_iload_n hx hb dX10_findPairs_106 rfl (lv_at hl 1 rfl) ?_
                      refine lv_iload_n hx hb dX10_findPairs_107 rfl (lv_at hl 2 rfl) ?_
                      refine lv_iload hx hb dX10_findPairs_108 (lv_at hl 4 rfl) ?_
                      obtain ⟨r23, hu, h⟩ := bnd_h h
                      refine kc_i (kV hC (c_X10_bestWith l dC dI cc q0 q1 q2 q3 q4 q5 q6 q7 q8 q9 q10 q11 q12 q13 q14 q15 q16 q17 feetMany log_ block stocking acts keeps hears texted at_ readFeetMany readLog readBlock readStocking w2 w3 w1 w4 w5 w14 j10 j13 j18 H.size r23 hu) cv_X10_220 kw1064 rfl rfl ⟨(Nat.le_of_ble_eq_true rfl), (Nat.le_of_ble_eq_true rfl)⟩ hP [0, 2, 3, 4, 5] rfl rfl rfl (q0 := 0) rfl (As := [.int j10, .int j13, .int j18]) (rest := []) rfl rfl hl.1 (Nat.le_of_ble_eq_true rfl) dX10_findPairs_110 ⟨Nat.zero_le _, Nat.zero_le _⟩) hP hA [0, 2, 3, 4, 5] rfl rfl (fun H locs hP => ?_)
                      have hP : PD (dC, dI) A s.heap [(q0, .inr (10, [.int feetMany, .ref q1, .int log_, .int block, .ref q2, .int stocking, .ref q3, .int acts, .ref q4, .int keeps, .ref q5, .int hears, .ref q6, .ref q7, .int texted, .int at_, .ref q8, .ref q9, .int readFeetMany, .ref q10, .int readLog, .int readBlock, .ref q11, .int readStocking, .ref q12, .int w2, .int w3, .ref q13, .ref q14, .ref q15, .ref q16, .ref q17])), (q3, .inl (cc 0, 52, .inl st)), (q12, .inl (cc 0, 52, .inl w1)), (q13, .inl (cc 0, 10, .inl w4)), (q14, .inl (cc 0, 10, .inl w5)), (q15, .inl (cc 0, 1100, .inl w14)), (q16, .inl (cc 0, 10, .inl with_))] H locs := hP
                      refine lv_goto (tgt := 117) hx hb dX10_findPairs_113 (by decide) ?_
                      refine lv_istore (lv' := [(5, .int r23), (0, .ref q0), (1, .int j10), (2, .int j13), (3, .int j17), (4, .int j18)]) hx hb dX10_findPairs_117 hl (by decide) rfl (fun ls hl => ?_)
                      refine lv_iload hx hb dX10_findPairs_119 (lv_at hl 0 rfl) ?_
                      refine lv_iload_n hx hb dX10_findPairs_121 rfl (lv_at hl 4 rfl) ?_
                      refine lv_icmp_le (tgt := 130) hx hb dX10_findPairs_122 (by decide) (fun c24 => ?_) (fun c24 => ?_)
                      · have h := if_t c24 h
                        refine lv_iload_n hx hb dX10_findPairs_130 rfl (lv_at hl 4 rfl) ?_
                        refine lv_istore_n (lv' := [(3, .int j17), (5, .int r23), (0, .ref q0), (1, .int j10), (2, .int j13), (4, .int j18)]) hx hb dX10_findPairs_131 rfl hl (by decide) rfl (fun ls hl => ?_)
                        refine lv_iinc (v := (j18 + 1)) (lv' := [(4, .int (j18 + 1)), (3, .int j17), (5, .int r23), (0, .ref q0), (1, .int j10), (2, .int j13)]) hx hb dX10_findPairs_132 hl (k := 5) rfl rfl (by decide) rfl (fun ls hl => ?_)
                        refine lv_goto (tgt := 85) hx hb dX10_findPairs_135 (by decide) ?_
                        exact ih _ _ _ _ (lp_n h hz) H locs ls hP (lv_sub hl [3, 4, 5, 1, 0] rfl) KK
                      · have h := if_f c24 h
                        refine lv_iload hx hb dX10_findPairs_125 (lv_at hl 0 rfl) ?_
                        refine lv_goto (tgt := 131) hx hb dX10_findPairs_127 (by decide) ?_
                        refine lv_istore_n (lv' := [(3, .int r23), (5, .int r23), (0, .ref q0), (1, .int j10), (2, .int j13), (4, .int j18)]) hx hb dX10_findPairs_131 rfl hl (by decide) rfl (fun ls hl => ?_)
                        refine lv_iinc (v := (j18 + 1)) (lv' := [(4, .int (j18 + 1)), (3, .int r23), (5, .int r23), (0, .ref q0), (1, .int j10), (2, .int j13)]) hx hb dX10_findPairs_132 hl (k := 5) rfl rfl (by decide) rfl (fun ls hl => ?_)
                        refine lv_goto (tgt := 85) hx hb dX10_findPairs_135 (by decide) ?_
                        exact ih _ _ _ _ (lp_n h hz) H locs ls hP (lv_sub hl [3, 4, 5, 1, 0] rfl) KK
              refine L4 FU _ _ j17x j18x hlp H locs ls hP (lv_sub hl [2, 3, 4, 1, 0] rfl) (fun H locs ls hP hl => ?_)
              refine lv_aload_n hx hb dX10_findPairs_138 rfl (lv_at hl 0 rfl) ?_
              refine g_get hC hP fg_X10_53 0 rfl rfl dX10_findPairs_139 ?_
              refine lv_iload_n hx hb dX10_findPairs_142 rfl (lv_at hl 1 rfl) ?_
              refine lv_aload_n hx hb dX10_findPairs_143 rfl (lv_at hl 0 rfl) ?_
              refine g_get hC hP fg_X10_208 0 rfl rfl dX10_findPairs_144 ?_
              refine lv_ishl hx hb dX10_findPairs_147 ?_
              refine lv_iload_n hx hb dX10_findPairs_148 rfl (lv_at hl 2 rfl) ?_
              refine lv_iadd hx hb dX10_findPairs_149 ?_
              refine lv_iload_n hx hb dX10_findPairs_150 rfl (lv_at hl 3 rfl) ?_
              obtain ⟨hin, h⟩ := wr_h h
              refine g_iast hC hP 5 0 rfl rfl hin dX10_findPairs_151 (fun a25 ev H locs hP => ?_)
              have hP : PD (dC, dI) A s.heap [(q0, .inr (10, [.int feetMany, .ref q1, .int log_, .int block, .ref q2, .int stocking, .ref q3, .int acts, .ref q4, .int keeps, .ref q5, .int hears, .ref q6, .ref q7, .int texted, .int at_, .ref q8, .ref q9, .int readFeetMany, .ref q10, .int readLog, .int readBlock, .ref q11, .int readStocking, .ref q12, .int w2, .int w3, .ref q13, .ref q14, .ref q15, .ref q16, .ref q17])), (q3, .inl (cc 0, 52, .inl st)), (q12, .inl (cc 0, 52, .inl w1)), (q13, .inl (cc 0, 10, .inl w4)), (q14, .inl (cc 0, 10, .inl w5)), (q15, .inl (cc 0, 1100, .inl a25)), (q16, .inl (cc 0, 10, .inl with_))] H locs := hP
              have h := h a25 ev
              refine lv_iinc (v := (j13 + 1)) (lv' := [(2, .int (j13 + 1)), (0, .ref q0), (1, .int j10), (3, .int j17x), (4, .int j18x)]) hx hb dX10_findPairs_152 hl (k := 2) rfl rfl (by decide) rfl (fun ls hl => ?_)
              refine lv_goto (tgt := 56) hx hb dX10_findPairs_155 (by decide) ?_
              exact ih _ _ _ _ (lp_n h hz) H locs ls hP (lv_sub hl [1, 2, 0] rfl) KK
        refine L3 FU _ _ j13x w14x hlp H locs ls hP (lv_sub hl [1, 2, 0] rfl) (fun H locs ls hP hl => ?_)
        refine lv_iinc (v := (j10 + (-1))) (lv' := [(1, .int (j10 + (-1))), (0, .ref q0), (2, .int j13x)]) hx hb dX10_findPairs_158 hl (k := 1) rfl rfl (by decide) rfl (fun ls hl => ?_)
        refine lv_goto (tgt := 50) hx hb dX10_findPairs_161 (by decide) ?_
        exact ih _ _ _ _ (lp_n h hz) H locs ls hP (lv_sub hl [1, 0] rfl) KK
  refine L2 FU _ _ j10x w11x hlp H locs ls hP (lv_sub hl [1, 0] rfl) (fun H locs ls hP hl => ?_)
  refine lv_iconst (v := 0) hx hb dX10_findPairs_164 (by decide) ?_
  refine lv_istore_n (lv' := [(1, .int 0), (0, .ref q0)]) hx hb dX10_findPairs_165 rfl hl (by decide) rfl (fun ls hl => ?_)
  obtain ⟨⟨j26x, w27x⟩, hlp, h⟩ := bnd_h h
  have L5 : ∀ (n : Nat) (j26 : Int32) (w27 : (Nat → Int32)) (j26x : Int32) (w27x : (Nat → Int32)), lp (u2 b_X10_findPairs_5) n (j26, w27) = some (j26x, w27x) → ∀ (H : Heap) (locs : List Loc) (ls : Array Slot), PD (dC, dI) A s.heap [(q0, .inr (10, [.int feetMany, .ref q1, .int log_, .int block, .ref q2, .int stocking, .ref q3, .int acts, .ref q4, .int keeps, .ref q5, .int hears, .ref q6, .ref q7, .int texted, .int at_, .ref q8, .ref q9, .int readFeetMany, .ref q10, .int readLog, .int readBlock, .ref q11, .int readStocking, .ref q12, .int w2, .int w3, .ref q13, .ref q14, .ref q15, .ref q16, .ref q17])), (q3, .inl (cc 0, 52, .inl st)), (q12, .inl (cc 0, 52, .inl w1)), (q13, .inl (cc 0, 10, .inl w4)), (q14, .inl (cc 0, 10, .inl w5)), (q15, .inl (cc 0, 1100, .inl w11x)), (q16, .inl (cc 0, 10, .inl w27))] H locs → lv_has ls 6 [(0, .ref q0), (1, .int j26)] → (∀ (H : Heap) (locs : List Loc) (ls : Array Slot), PD (dC, dI) A s.heap [(q0, .inr (10, [.int feetMany, .ref q1, .int log_, .int block, .ref q2, .int stocking, .ref q3, .int acts, .ref q4, .int keeps, .ref q5, .int hears, .ref q6, .ref q7, .int texted, .int at_, .ref q8, .ref q9, .int readFeetMany, .ref q10, .int readLog, .int readBlock, .ref q11, .int readStocking, .ref q12, .int w2, .int w3, .ref q13, .ref q14, .ref q15, .ref q16, .ref q17])), (q3, .inl (cc 0, 52, .inl st)), (q12, .inl (cc 0, 52, .inl w1)), (q13, .inl (cc 0, 10, .inl w4)), (q14, .inl (cc 0, 10, .inl w5)), (q15, .inl (cc 0, 1100, .inl w11x)), (q16, .inl (cc 0, 10, .inl w27x))] H locs → lv_has ls 6 [(0, .ref q0), (1, .int j26x)] → W p l e ({ frames := 4, cells := 0, slots := 0, locals := 89 } : Room) s m ([.ref q0] : List Value).toArray below meth c H locs 0 0 Z (F0 m 186 ls [])) → W p l e ({ frames := 4, cells := 0, slots := 0, locals := 89 } : Room) s m ([.ref q0] : List Value).toArray below meth c H locs 0 0 Z (F0 m 166 ls []) := by
    intro n
    induction n with
    | zero => intro j26 w27 j26x w27x h; exact (lp_0 h).elim
    | succ n ih =>
      intro j26 w27 j26x w27x h H locs ls hP hl KK
      obtain ⟨y, h, hz⟩ := lp_h h
      refine lv_iload_n hx hb dX10_findPairs_166 rfl (lv_at hl 1 rfl) ?_
      refine lv_bipush (v := 10) hx hb dX10_findPairs_167 (by decide) ?_
      refine lv_icmp_ge (tgt := 186) hx hb dX10_findPairs_169 (by decide) (fun c28 => ?_) (fun c28 => ?_)
      · have h := if_t c28 h
        cases lp_e h hz
        exact KK H locs ls hP (lv_sub hl [0, 1] rfl)
      · have h := if_f c28 h
        refine lv_aload_n hx hb dX10_findPairs_172 rfl (lv_at hl 0 rfl) ?_
        refine g_get hC hP fg_X10_56 0 rfl rfl dX10_findPairs_173 ?_
        refine lv_iload_n hx hb dX10_findPairs_176 rfl (lv_at hl 1 rfl) ?_
        refine lv_bipush (v := -4) hx hb dX10_findPairs_177 (by decide) ?_
        obtain ⟨hin, h⟩ := wr_h h
        refine g_iast hC hP 6 0 rfl rfl hin dX10_findPairs_179 (fun a29 ev H locs hP => ?_)
        have hP : PD (dC, dI) A s.heap [(q0, .inr (10, [.int feetMany, .ref q1, .int log_, .int block, .ref q2, .int stocking, .ref q3, .int acts, .ref q4, .int keeps, .ref q5, .int hears, .ref q6, .ref q7, .int texted, .int at_, .ref q8, .ref q9, .int readFeetMany, .ref q10, .int readLog, .int readBlock, .ref q11, .int readStocking, .ref q12, .int w2, .int w3, .ref q13, .ref q14, .ref q15, .ref q16, .ref q17])), (q3, .inl (cc 0, 52, .inl st)), (q12, .inl (cc 0, 52, .inl w1)), (q13, .inl (cc 0, 10, .inl w4)), (q14, .inl (cc 0, 10, .inl w5)), (q15, .inl (cc 0, 1100, .inl w11x)), (q16, .inl (cc 0, 10, .inl a29))] H locs := hP
        have h := h a29 ev
        refine lv_iinc (v := (j26 + 1)) (lv' := [(1, .int (j26 + 1)), (0, .ref q0)]) hx hb dX10_findPairs_180 hl (k := 1) rfl rfl (by decide) rfl (fun ls hl => ?_)
        refine lv_goto (tgt := 166) hx hb dX10_findPairs_183 (by decide) ?_
        exact ih _ _ _ _ (lp_n h hz) H locs ls hP (lv_sub hl [1, 0] rfl) KK
  refine L5 FU _ _ j26x w27x hlp H locs ls hP (lv_sub hl [1, 0] rfl) (fun H locs ls hP hl => ?_)
  refine lv_iconst (v := 0) hx hb dX10_findPairs_186 (by decide) ?_
  refine lv_istore_n (lv' := [(1, .int 0), (0, .ref q0)]) hx hb dX10_findPairs_187 rfl hl (by decide) rfl (fun ls hl => ?_)
  refine lv_iconst (v := 0) hx hb dX10_findPairs_188 (by decide) ?_
  refine lv_istore_n (lv' := [(2, .int 0), (1, .int 0), (0, .ref q0)]) hx hb dX10_findPairs_189 rfl hl (by decide) rfl (fun ls hl => ?_)
  obtain ⟨⟨j30x, j31x, w32x⟩, hlp, h⟩ := bnd_h h
  have L6 : ∀ (n : Nat) (j30 : Int32) (j31 : Int32) (w32 : (Nat → Int32)) (j30x : Int32) (j31x : Int32) (w32x : (Nat → Int32)), lp (u3 (b_X10_findPairs_6 w1 w11x w2 w3 w4 w5)) n (j30, j31, w32) = some (j30x, j31x, w32x) → ∀ (H : Heap) (locs : List Loc) (ls : Array Slot), PD (dC, dI) A s.heap [(q0, .inr (10, [.int feetMany, .ref q1, .int log_, .int block, .ref q2, .int stocking, .ref q3, .int acts, .ref q4, .int keeps, .ref q5, .int hears, .ref q6, .ref q7, .int texted, .int at_, .ref q8, .ref q9, .int readFeetMany, .ref q10, .int readLog, .int readBlock, .ref q11, .int readStocking, .ref q12, .int w2, .int w3, .ref q13, .ref q14, .ref q15, .ref q16, .ref q17])), (q3, .inl (cc 0, 52, .inl st)), (q12, .inl (cc 0, 52, .inl w1)), (q13, .inl (cc 0, 10, .inl w4)), (q14, .inl (cc 0, 10, .inl w5)), (q15, .inl (cc 0, 1100, .inl w11x)), (q16, .inl (cc 0, 10, .inl w32))] H locs → lv_has ls 6 [(0, .ref q0), (1, .int j30), (2, .int j31)] → (∀ (H : Heap) (locs : List Loc) (ls : Array Slot), PD (dC, dI) A s.heap [(q0, .inr (10, [.int feetMany, .ref q1, .int log_, .int block, .ref q2, .int stocking, .ref q3, .int acts, .ref q4, .int keeps, .ref q5, .int hears, .ref q6, .ref q7, .int texted, .int at_, .ref q8, .ref q9, .int readFeetMany, .ref q10, .int readLog, .int readBlock, .ref q11, .int readStocking, .ref q12, .int w2, .int w3, .ref q13, .ref q14, .ref q15, .ref q16, .ref q17])), (q3, .inl (cc 0, 52, .inl st)), (q12, .inl (cc 0, 52, .inl w1)), (q13, .inl (cc 0, 10, .inl w4)), (q14, .inl (cc 0, 10, .inl w5)), (q15, .inl (cc 0, 1100, .inl w11x)), (q16, .inl (cc 0, 10, .inl w32x))] H locs → lv_has ls 6 [(0, .ref q0), (1, .int j30x), (2, .int j31x)] → W p l e ({ frames := 4, cells := 0, slots := 0, locals := 89 } : Room) s m ([.ref q0] : List Value).toArray below meth c H locs 0 0 Z (F0 m 301 ls [])) → W p l e ({ frames := 4, cells := 0, slots := 0, locals := 89 } : Room) s m ([.ref q0] : List Value).toArray below meth c H locs 0 0 Z (F0 m 190 ls []) := by
    intro n
    induction n with
    | zero => intro j30 j31 w32 j30x j31x w32x h; exact (lp_0 h).elim
    | succ n ih =>
      intro j30 j31 w32 j30x j31x w32x h H locs ls hP hl KK
      obtain ⟨y, h, hz⟩ := lp_h h
      refine lv_iload_n hx hb dX10_findPairs_190 rfl (lv_at hl 2 rfl) ?_
      refine lv_aload_n hx hb dX10_findPairs_191 rfl (lv_at hl 0 rfl) ?_
      refine g_get hC hP fg_X10_205 0 rfl rfl dX10_findPairs_192 ?_
      refine lv_icmp_ge (tgt := 301) hx hb dX10_findPairs_195 (by decide) (fun c33 => ?_) (fun c33 => ?_)
      · have h := if_t c33 h
        cases lp_e h hz
        exact KK H locs ls hP (lv_sub hl [0, 1, 2] rfl)
      · have h := if_f c33 h
        refine lv_iconst (v := 0) hx hb dX10_findPairs_198 (by decide) ?_
        refine lv_istore_n (lv' := [(3, .int 0), (0, .ref q0), (1, .int j30), (2, .int j31)]) hx hb dX10_findPairs_199 rfl hl (by decide) rfl (fun ls hl => ?_)
        obtain ⟨j34x, hlp, h⟩ := bnd_h h
        have L7 : ∀ (n : Nat) (j34 : Int32) (j34x : Int32), lp ((b_X10_findPairs_7 j30 j31 w1 w11x w3 w4 w5)) n j34 = some j34x → ∀ (H : Heap) (locs : List Loc) (ls : Array Slot), PD (dC, dI) A s.heap [(q0, .inr (10, [.int feetMany, .ref q1, .int log_, .int block, .ref q2, .int stocking, .ref q3, .int acts, .ref q4, .int keeps, .ref q5, .int hears, .ref q6, .ref q7, .int texted, .int at_, .ref q8, .ref q9, .int readFeetMany, .ref q10, .int readLog, .int readBlock, .ref q11, .int readStocking, .ref q12, .int w2, .int w3, .ref q13, .ref q14, .ref q15, .ref q16, .ref q17])), (q3, .inl (cc 0, 52, .inl st)), (q12, .inl (cc 0, 52, .inl w1)), (q13, .inl (cc 0, 10, .inl w4)), (q14, .inl (cc 0, 10, .inl w5)), (q15, .inl (cc 0, 1100, .inl w11x)), (q16, .inl (cc 0, 10, .inl w32))] H locs → lv_has ls 6 [(0, .ref q0), (1, .int j30), (2, .int j31), (3, .int j34)] → (∀ (H : Heap) (locs : List Loc) (ls : Array Slot), PD (dC, dI) A s.heap [(q0, .inr (10, [.int feetMany, .ref q1, .int log_, .int block, .ref q2, .int stocking, .ref q3, .int acts, .ref q4, .int keeps, .ref q5, .int hears, .ref q6, .ref q7, .int texted, .int at_, .ref q8, .ref q9, .int readFeetMany, .ref q10, .int readLog, .int readBlock, .ref q11, .int readStocking, .ref q12, .int w2, .int w3, .ref q13, .ref q14, .ref q15, .ref q16, .ref q17])), (q3, .inl (cc 0, 52, .inl st)), (q12, .inl (cc 0, 52, .inl w1)), (q13, .inl (cc 0, 10, .inl w4)), (q14, .inl (cc 0, 10, .inl w5)), (q15, .inl (cc 0, 1100, .inl w11x)), (q16, .inl (cc 0, 10, .inl w32))] H locs → lv_has ls 6 [(0, .ref q0), (1, .int j30), (2, .int j31), (3, .int j34x)] → W p l e ({ frames := 4, cells := 0, slots := 0, locals := 89 } : Room) s m ([.ref q0] : List Value).toArray below meth c H locs 0 0 Z (F0 m 247 ls [])) → W p l e ({ frames := 4, cells := 0, slots := 0, locals := 89 } : Room) s m ([.ref q0] : List Value).toArray below meth c H locs 0 0 Z (F0 m 200 ls []) := by
          intro n
          induction n with
          | zero => intro j34 j34x h; exact (lp_0 h).elim
          | succ n ih =>
            intro j34 j34x h H locs ls hP hl KK
            obtain ⟨y, h, hz⟩ := lp_h h
            refine lv_iload_n hx hb dX10_findPairs_200 rfl (lv_at hl 3 rfl) ?_
            refine lv_aload_n hx hb dX10_findPairs_201 rfl (lv_at hl 0 rfl) ?_
            refine g_get hC hP fg_X10_208 0 rfl rfl dX10_findPairs_202 ?_
            refine lv_icmp_ge (tgt := 247) hx hb dX10_findPairs_205 (by decide) (fun c35 => ?_) (fun c35 => ?_)
            · have h := if_t c35 h
              cases lp_e h hz
              exact KK H locs ls hP (lv_sub hl [0, 1, 2, 3] rfl)
            · have h := if_f c35 h
              refine lv_aload_n hx hb dX10_findPairs_208 rfl (lv_at hl 0 rfl) ?_
              refine lv_iload_n hx hb dX10_findPairs_209 rfl (lv_at hl 2 rfl) ?_
              refine lv_iload_n hx hb dX10_findPairs_210 rfl (lv_at hl 1 rfl) ?_
              refine lv_iload_n hx hb dX10_findPairs_211 rfl (lv_at hl 3 rfl) ?_
              obtain ⟨r36, hu, h⟩ := bnd_h h
              refine kc_z (kV hC (c_X10_mayPair l dC dI cc q0 q1 q2 q3 q4 q5 q6 q7 q8 q9 q10 q11 q12 q13 q14 q15 q16 q17 feetMany log_ block stocking acts keeps hears texted at_ readFeetMany readLog readBlock readStocking w2 w3 w1 w4 w5 j31 j30 j34 H.size r36 hu) cv_X10_217 kw1057 rfl rfl ⟨(Nat.le_of_ble_eq_true rfl), (Nat.le_of_ble_eq_true rfl)⟩ hP [0, 2, 3, 4] rfl rfl rfl (q0 := 0) rfl (As := [.int j31, .int j30, .int j34]) (rest := []) rfl rfl hl.1 (Nat.le_of_ble_eq_true rfl) dX10_findPairs_212 ⟨Nat.zero_le _, Nat.zero_le _⟩) hP hA [0, 2, 3, 4] rfl rfl (fun hz_r36 H locs hP => ?_)
              have hP : PD (dC, dI) A s.heap [(q0, .inr (10, [.int feetMany, .ref q1, .int log_, .int block, .ref q2, .int stocking, .ref q3, .int acts, .ref q4, .int keeps, .ref q5, .int hears, .ref q6, .ref q7, .int texted, .int at_, .ref q8, .ref q9, .int readFeetMany, .ref q10, .int readLog, .int readBlock, .ref q11, .int readStocking, .ref q12, .int w2, .int w3, .ref q13, .ref q14, .ref q15, .ref q16, .ref q17])), (q3, .inl (cc 0, 52, .inl st)), (q12, .inl (cc 0, 52, .inl w1)), (q13, .inl (cc 0, 10, .inl w4)), (q14, .inl (cc 0, 10, .inl w5)), (q15, .inl (cc 0, 1100, .inl w11x)), (q16, .inl (cc 0, 10, .inl w32))] H locs := hP
              refine lv_if_eq (tgt := 241) hx hb dX10_findPairs_215 (by decide) (fun c37 => ?_) (fun c37 => ?_)
              · have h := if_t c37 h
                refine lv_iinc (v := (j34 + 1)) (lv' := [(3, .int (j34 + 1)), (0, .ref q0), (1, .int j30), (2, .int j31)]) hx hb dX10_findPairs_241 hl (k := 3) rfl rfl (by decide) rfl (fun ls hl => ?_)
                refine lv_goto (tgt := 200) hx hb dX10_findPairs_244 (by decide) ?_
                exact ih _ _ (lp_n h hz) H locs ls hP (lv_sub hl [1, 2, 3, 0] rfl) KK
              · have h := if_f c37 h
                refine lv_aload_n hx hb dX10_findPairs_218 rfl (lv_at hl 0 rfl) ?_
                refine lv_iload_n hx hb dX10_findPairs_219 rfl (lv_at hl 2 rfl) ?_
                refine lv_iload_n hx hb dX10_findPairs_220 rfl (lv_at hl 1 rfl) ?_
                refine lv_iload_n hx hb dX10_findPairs_221 rfl (lv_at hl 3 rfl) ?_
                obtain ⟨r38, hu, h⟩ := bnd_h h
                refine kc_i (kV hC (c_X10_bestWith l dC dI cc q0 q1 q2 q3 q4 q5 q6 q7 q8 q9 q10 q11 q12 q13 q14 q15 q16 q17 feetMany log_ block stocking acts keeps hears texted at_ readFeetMany readLog readBlock readStocking w2 w3 w1 w4 w5 w11x j31 j30 j34 H.size r38 hu) cv_X10_220 kw1064 rfl rfl ⟨(Nat.le_of_ble_eq_true rfl), (Nat.le_of_ble_eq_true rfl)⟩ hP [0, 2, 3, 4, 5] rfl rfl rfl (q0 := 0) rfl (As := [.int j31, .int j30, .int j34]) (rest := []) rfl rfl hl.1 (Nat.le_of_ble_eq_true rfl) dX10_findPairs_222 ⟨Nat.zero_le _, Nat.zero_le _⟩) hP hA [0, 2, 3, 4, 5] rfl rfl (fun H locs hP => ?_)
                have hP : PD (dC, dI) A s.heap [(q0, .inr (10, [.int feetMany, .ref q1, .int log_, .int block, .ref q2, .int stocking, .ref q3, .int acts, .ref q4, .int keeps, .ref q5, .int hears, .ref q6, .ref q7, .int texted, .int at_, .ref q8, .ref q9, .int readFeetMany, .ref q10, .int readLog, .int readBlock, .ref q11, .int readStocking, .ref q12, .int w2, .int w3, .ref q13, .ref q14, .ref q15, .ref q16, .ref q17])), (q3, .inl (cc 0, 52, .inl st)), (q12, .inl (cc 0, 52, .inl w1)), (q13, .inl (cc 0, 10, .inl w4)), (q14, .inl (cc 0, 10, .inl w5)), (q15, .inl (cc 0, 1100, .inl w11x)), (q16, .inl (cc 0, 10, .inl w32))] H locs := hP
                refine lv_aload_n hx hb dX10_findPairs_225 rfl (lv_at hl 0 rfl) ?_
                refine g_get hC hP fg_X10_53 0 rfl rfl dX10_findPairs_226 ?_
                refine lv_iload_n hx hb dX10_findPairs_229 rfl (lv_at hl 2 rfl) ?_
                refine lv_aload_n hx hb dX10_findPairs_230 rfl (lv_at hl 0 rfl) ?_
                refine g_get hC hP fg_X10_208 0 rfl rfl dX10_findPairs_231 ?_
                refine lv_ishl hx hb dX10_findPairs_234 ?_
                refine lv_iload_n hx hb dX10_findPairs_235 rfl (lv_at hl 1 rfl) ?_
                refine lv_iadd hx hb dX10_findPairs_236 ?_
                obtain ⟨hin, h⟩ := rd_h h
                refine g_iald hC hP 5 0 rfl rfl hin dX10_findPairs_237 (fun v39 ev => ?_)
                have h := h v39 ev
                refine lv_icmp_eq (tgt := 247) hx hb dX10_findPairs_238 (by decide) (fun c40 => ?_) (fun c40 => ?_)
                · have h := if_t c40 h
                  cases lp_e h hz
                  exact KK H locs ls hP (lv_sub hl [0, 1, 2, 3] rfl)
                · have h := if_f c40 h
                  refine lv_iinc (v := (j34 + 1)) (lv' := [(3, .int (j34 + 1)), (0, .ref q0), (1, .int j30), (2, .int j31)]) hx hb dX10_findPairs_241 hl (k := 3) rfl rfl (by decide) rfl (fun ls hl => ?_)
                  refine lv_goto (tgt := 200) hx hb dX10_findPairs_244 (by decide) ?_
                  exact ih _ _ (lp_n h hz) H locs ls hP (lv_sub hl [1, 2, 3, 0] rfl) KK
        refine L7 FU _ j34x hlp H locs ls hP (lv_sub hl [1, 2, 3, 0] rfl) (fun H locs ls hP hl => ?_)
        refine lv_iload_n hx hb dX10_findPairs_247 rfl (lv_at hl 3 rfl) ?_
        refine lv_aload_n hx hb dX10_findPairs_248 rfl (lv_at hl 0 rfl) ?_
        refine g_get hC hP fg_X10_208 0 rfl rfl dX10_findPairs_249 ?_
        refine lv_icmp_ge (tgt := 295) hx hb dX10_findPairs_252 (by decide) (fun c41 => ?_) (fun c41 => ?_)
        · have h := if_t c41 h
          refine lv_iinc (v := (j31 + 1)) (lv' := [(2, .int (j31 + 1)), (0, .ref q0), (1, .int j30), (3, .int j34x)]) hx hb dX10_findPairs_295 hl (k := 2) rfl rfl (by decide) rfl (fun ls hl => ?_)
          refine lv_goto (tgt := 190) hx hb dX10_findPairs_298 (by decide) ?_
          exact ih _ _ _ _ _ _ (lp_n h hz) H locs ls hP (lv_sub hl [1, 2, 0] rfl) KK
        · have h := if_f c41 h
          refine lv_aload_n hx hb dX10_findPairs_255 rfl (lv_at hl 0 rfl) ?_
          refine g_get hC hP fg_X10_56 0 rfl rfl dX10_findPairs_256 ?_
          refine lv_aload_n hx hb dX10_findPairs_259 rfl (lv_at hl 0 rfl) ?_
          refine g_get hC hP fg_X10_47 0 rfl rfl dX10_findPairs_260 ?_
          refine lv_iload_n hx hb dX10_findPairs_263 rfl (lv_at hl 2 rfl) ?_
          obtain ⟨hin, h⟩ := rd_h h
          refine g_iald hC hP 3 0 rfl rfl hin dX10_findPairs_264 (fun v42 ev => ?_)
          have h := h v42 ev
          refine lv_aload_n hx hb dX10_findPairs_265 rfl (lv_at hl 0 rfl) ?_
          refine g_get hC hP fg_X10_50 0 rfl rfl dX10_findPairs_266 ?_
          refine lv_iload_n hx hb dX10_findPairs_269 rfl (lv_at hl 3 rfl) ?_
          obtain ⟨hin, h⟩ := rd_h h
          refine g_iald hC hP 4 0 rfl rfl hin dX10_findPairs_270 (fun v43 ev => ?_)
          have h := h v43 ev
          obtain ⟨hin, h⟩ := wr_h h
          refine g_iast hC hP 6 0 rfl rfl hin dX10_findPairs_271 (fun a44 ev H locs hP => ?_)
          have hP : PD (dC, dI) A s.heap [(q0, .inr (10, [.int feetMany, .ref q1, .int log_, .int block, .ref q2, .int stocking, .ref q3, .int acts, .ref q4, .int keeps, .ref q5, .int hears, .ref q6, .ref q7, .int texted, .int at_, .ref q8, .ref q9, .int readFeetMany, .ref q10, .int readLog, .int readBlock, .ref q11, .int readStocking, .ref q12, .int w2, .int w3, .ref q13, .ref q14, .ref q15, .ref q16, .ref q17])), (q3, .inl (cc 0, 52, .inl st)), (q12, .inl (cc 0, 52, .inl w1)), (q13, .inl (cc 0, 10, .inl w4)), (q14, .inl (cc 0, 10, .inl w5)), (q15, .inl (cc 0, 1100, .inl w11x)), (q16, .inl (cc 0, 10, .inl a44))] H locs := hP
          have h := h a44 ev
          refine lv_aload_n hx hb dX10_findPairs_272 rfl (lv_at hl 0 rfl) ?_
          refine g_get hC hP fg_X10_56 0 rfl rfl dX10_findPairs_273 ?_
          refine lv_aload_n hx hb dX10_findPairs_276 rfl (lv_at hl 0 rfl) ?_
          refine g_get hC hP fg_X10_50 0 rfl rfl dX10_findPairs_277 ?_
          refine lv_iload_n hx hb dX10_findPairs_280 rfl (lv_at hl 3 rfl) ?_
          obtain ⟨hin, h⟩ := rd_h h
          refine g_iald hC hP 4 0 rfl rfl hin dX10_findPairs_281 (fun v45 ev => ?_)
          have h := h v45 ev
          refine lv_aload_n hx hb dX10_findPairs_282 rfl (lv_at hl 0 rfl) ?_
          refine g_get hC hP fg_X10_47 0 rfl rfl dX10_findPairs_283 ?_
          refine lv_iload_n hx hb dX10_findPairs_286 rfl (lv_at hl 2 rfl) ?_
          obtain ⟨hin, h⟩ := rd_h h
          refine g_iald hC hP 3 0 rfl rfl hin dX10_findPairs_287 (fun v46 ev => ?_)
          have h := h v46 ev
          obtain ⟨hin, h⟩ := wr_h h
          refine g_iast hC hP 6 0 rfl rfl hin dX10_findPairs_288 (fun a47 ev H locs hP => ?_)
          have hP : PD (dC, dI) A s.heap [(q0, .inr (10, [.int feetMany, .ref q1, .int log_, .int block, .ref q2, .int stocking, .ref q3, .int acts, .ref q4, .int keeps, .ref q5, .int hears, .ref q6, .ref q7, .int texted, .int at_, .ref q8, .ref q9, .int readFeetMany, .ref q10, .int readLog, .int readBlock, .ref q11, .int readStocking, .ref q12, .int w2, .int w3, .ref q13, .ref q14, .ref q15, .ref q16, .ref q17])), (q3, .inl (cc 0, 52, .inl st)), (q12, .inl (cc 0, 52, .inl w1)), (q13, .inl (cc 0, 10, .inl w4)), (q14, .inl (cc 0, 10, .inl w5)), (q15, .inl (cc 0, 1100, .inl w11x)), (q16, .inl (cc 0, 10, .inl a47))] H locs := hP
          have h := h a47 ev
          refine lv_iload_n hx hb dX10_findPairs_289 rfl (lv_at hl 1 rfl) ?_
          refine lv_iconst (v := 1) hx hb dX10_findPairs_290 (by decide) ?_
          refine lv_iload_n hx hb dX10_findPairs_291 rfl (lv_at hl 3 rfl) ?_
          refine lv_ishl hx hb dX10_findPairs_292 ?_
          refine lv_ior hx hb dX10_findPairs_293 ?_
          refine lv_topi (fun v48 ev => ?_)
          have h := nm_h ev h
          refine lv_istore_n (lv' := [(1, .int v48), (0, .ref q0), (2, .int j31), (3, .int j34x)]) hx hb dX10_findPairs_294 rfl hl (by decide) rfl (fun ls hl => ?_)
          refine lv_iinc (v := (j31 + 1)) (lv' := [(2, .int (j31 + 1)), (1, .int v48), (0, .ref q0), (3, .int j34x)]) hx hb dX10_findPairs_295 hl (k := 2) rfl rfl (by decide) rfl (fun ls hl => ?_)
          refine lv_goto (tgt := 190) hx hb dX10_findPairs_298 (by decide) ?_
          exact ih _ _ _ _ _ _ (lp_n h hz) H locs ls hP (lv_sub hl [2, 1, 0] rfl) KK
  refine L6 FU _ _ _ j30x j31x w32x hlp H locs ls hP (lv_sub hl [2, 1, 0] rfl) (fun H locs ls hP hl => ?_)
  rw [eZ]
  exact ret_v hC hr hlk hP dX10_findPairs_301 (w1, w2, w3, w4, w5, w11x, w32x) (Option.some.inj h) rfl
set_option maxHeartbeats 8000000 in
set_option maxRecDepth 100000 in
theorem c_X10_pairs (l : Launch) (dC : Nat → ClassId) (dI : Nat → Nat → Nat) (cc : Nat → ClassId) (q0 q1 q2 q3 q4 q5 q6 q7 q8 q9 q10 q11 q12 q13 q14 q15 q16 q17 : Nat) (feetMany : Int32) (log_ : Int32) (block : Int32) (stocking : Int32) (acts : Int32) (keeps : Int32) (hears : Int32) (texted : Int32) (at_ : Int32) (readFeetMany : Int32) (readLog : Int32) (readBlock : Int32) (readStocking : Int32) (lefts_ : Int32) (rights_ : Int32) (st : (Nat → Int32)) (now_ : (Nat → Int32)) (left_ : (Nat → Int32)) (right_ : (Nat → Int32)) (best : (Nat → Int32)) (with_ : (Nat → Int32)) (x1 : Int32) (sz : Nat) (ret : Int32) (o_now_ : (Nat → Int32)) (o_lefts_ : Int32) (o_rights_ : Int32) (o_left_ : (Nat → Int32)) (o_right_ : (Nat → Int32)) (o_best : (Nat → Int32)) (o_with_ : (Nat → Int32)) (hu : f_X10_pairs x1 lefts_ rights_ st now_ left_ right_ best with_ = some (ret, o_now_, o_lefts_, o_rights_, o_left_, o_right_, o_best, o_with_)) : Met l yX10_pairs (mw yX10_pairs cX10_pairs 3 (some .int)) ({ frames := 5, cells := 0, slots := 0, locals := 114 } : Room) (va_Pc [.ref q0, .int x1] (mP (dC, dI) (ts cc) sz [(q0, .inr (10, [.int feetMany, .ref q1, .int log_, .int block, .ref q2, .int stocking, .ref q3, .int acts, .ref q4, .int keeps, .ref q5, .int hears, .ref q6, .ref q7, .int texted, .int at_, .ref q8, .ref q9, .int readFeetMany, .ref q10, .int readLog, .int readBlock, .ref q11, .int readStocking, .ref q12, .int lefts_, .int rights_, .ref q13, .ref q14, .ref q15, .ref q16, .ref q17])), (q3, .inl (cc 0, 52, .inl st)), (q12, .inl (cc 0, 52, .inl now_)), (q13, .inl (cc 0, 10, .inl left_)), (q14, .inl (cc 0, 10, .inl right_)), (q15, .inl (cc 0, 1100, .inl best)), (q16, .inl (cc 0, 10, .inl with_))])) ((fun A => va_Qi (fun (r : Int32) (w : (Nat → Int32) × Int32 × Int32 × (Nat → Int32) × (Nat → Int32) × (Nat → Int32) × (Nat → Int32)) => r = ret ∧ w = (o_now_, o_lefts_, o_rights_, o_left_, o_right_, o_best, o_with_)) (fun (w : (Nat → Int32) × Int32 × Int32 × (Nat → Int32) × (Nat → Int32) × (Nat → Int32) × (Nat → Int32)) t => va_P (dC, dI) classes [(q0, .inr (10, [.int feetMany, .ref q1, .int log_, .int block, .ref q2, .int stocking, .ref q3, .int acts, .ref q4, .int keeps, .ref q5, .int hears, .ref q6, .ref q7, .int texted, .int at_, .ref q8, .ref q9, .int readFeetMany, .ref q10, .int readLog, .int readBlock, .ref q11, .int readStocking, .ref q12, .int w.2.1, .int w.2.2.1, .ref q13, .ref q14, .ref q15, .ref q16, .ref q17])), (q3, .inl (cc 0, 52, .inl st)), (q12, .inl (cc 0, 52, .inl w.1)), (q13, .inl (cc 0, 10, .inl w.2.2.2.1)), (q14, .inl (cc 0, 10, .inl w.2.2.2.2.1)), (q15, .inl (cc 0, 1100, .inl w.2.2.2.2.2.1)), (q16, .inl (cc 0, 10, .inl w.2.2.2.2.2.2))] t.heap) A) (va_A [(q0, .inr (10, [.int feetMany, .ref q1, .int log_, .int block, .ref q2, .int stocking, .ref q3, .int acts, .ref q4, .int keeps, .ref q5, .int hears, .ref q6, .ref q7, .int texted, .int at_, .ref q8, .ref q9, .int readFeetMany, .ref q10, .int readLog, .int readBlock, .ref q11, .int readStocking, .ref q12, .int lefts_, .int rights_, .ref q13, .ref q14, .ref q15, .ref q16, .ref q17])), (q3, .inl (cc 0, 52, .inl st)), (q12, .inl (cc 0, 52, .inl now_)), (q13, .inl (cc 0, 10, .inl left_)), (q14, .inl (cc 0, 10, .inl right_)), (q15, .inl (cc 0, 1100, .inl best)), (q16, .inl (cc 0, 10, .inl with_))] sz)) 0 0 (va_A [(q0, .inr (10, [.int feetMany, .ref q1, .int log_, .int block, .ref q2, .int stocking, .ref q3, .int acts, .ref q4, .int keeps, .ref q5, .int hears, .ref q6, .ref q7, .int texted, .int at_, .ref q8, .ref q9, .int readFeetMany, .ref q10, .int readLog, .int readBlock, .ref q11, .int readStocking, .ref q12, .int lefts_, .int rights_, .ref q13, .ref q14, .ref q15, .ref q16, .ref q17])), (q3, .inl (cc 0, 52, .inl st)), (q12, .inl (cc 0, 52, .inl now_)), (q13, .inl (cc 0, 10, .inl left_)), (q14, .inl (cc 0, 10, .inl right_)), (q15, .inl (cc 0, 1100, .inl best)), (q16, .inl (cc 0, 10, .inl with_))] sz) := by
  refine met_go (Qc := fun A => va_Qi (fun (r : Int32) (w : (Nat → Int32) × Int32 × Int32 × (Nat → Int32) × (Nat → Int32) × (Nat → Int32) × (Nat → Int32)) => r = ret ∧ w = (o_now_, o_lefts_, o_rights_, o_left_, o_right_, o_best, o_with_)) (fun (w : (Nat → Int32) × Int32 × Int32 × (Nat → Int32) × (Nat → Int32) × (Nat → Int32) × (Nat → Int32)) t => va_P (dC, dI) classes [(q0, .inr (10, [.int feetMany, .ref q1, .int log_, .int block, .ref q2, .int stocking, .ref q3, .int acts, .ref q4, .int keeps, .ref q5, .int hears, .ref q6, .ref q7, .int texted, .int at_, .ref q8, .ref q9, .int readFeetMany, .ref q10, .int readLog, .int readBlock, .ref q11, .int readStocking, .ref q12, .int w.2.1, .int w.2.2.1, .ref q13, .ref q14, .ref q15, .ref q16, .ref q17])), (q3, .inl (cc 0, 52, .inl st)), (q12, .inl (cc 0, 52, .inl w.1)), (q13, .inl (cc 0, 10, .inl w.2.2.2.1)), (q14, .inl (cc 0, 10, .inl w.2.2.2.2.1)), (q15, .inl (cc 0, 1100, .inl w.2.2.2.2.2.1)), (q16, .inl (cc 0, 10, .inl w.2.2.2.2.2.2))] t.heap) A) (by decide) (Nat.le_of_ble_eq_true rfl) ?_
  intro p e s m below meth c A ls H locs hC hr hlk hin hA hP hl _
  have hC : CX p m c cX10_pairs 3 s ([.ref q0, .int x1] : List Value).toArray RX10 (dC, dI) (ts cc) := hC
  have hx := hC.1.1
  have hb := hC.1.2
  have h := hu
  have hu0 := hu
  unfold f_X10_pairs at h
  have hl : lv_has ls 3 [(0, .ref q0), (1, .int x1)] := hl
  refine lv_iload_n hx hb dX10_pairs_0 rfl (lv_at hl 1 rfl) ?_
  refine lv_bipush (v := -2) hx hb dX10_pairs_1 (by decide) ?_
  refine lv_aload_n hx hb dX10_pairs_3 rfl (lv_at hl 0 rfl) ?_
  refine g_get hC hP fg_X10_17 0 rfl rfl dX10_pairs_4 ?_
  refine lv_iconst (v := 1) hx hb dX10_pairs_7 (by decide) ?_
  obtain ⟨hin, h⟩ := rd_h h
  refine g_iald hC hP 1 0 rfl rfl hin dX10_pairs_8 (fun v1 ev => ?_)
  have h := h v1 ev
  refine lv_iconst (v := 1) hx hb dX10_pairs_9 (by decide) ?_
  refine lv_isub hx hb dX10_pairs_10 ?_
  obtain ⟨r2, hu, h⟩ := bnd_h h
  refine kc_z (kS hC (c_X10_in l dC dI cc x1 (-2) (v1 - 1) H.size r2 hu) cs_X10_90 kw912 rfl rfl ⟨(Nat.le_of_ble_eq_true rfl), (Nat.le_of_ble_eq_true rfl)⟩ hP [] rfl rfl (As := [.int x1, .int (-2), .int (v1 - 1)]) (rest := []) rfl rfl hl.1 (Nat.le_of_ble_eq_true rfl) dX10_pairs_11 ⟨Nat.zero_le _, Nat.zero_le _⟩) hP hA [] rfl rfl (fun hz_r2 H locs hP => ?_)
  have hP : PD (dC, dI) A s.heap [(q0, .inr (10, [.int feetMany, .ref q1, .int log_, .int block, .ref q2, .int stocking, .ref q3, .int acts, .ref q4, .int keeps, .ref q5, .int hears, .ref q6, .ref q7, .int texted, .int at_, .ref q8, .ref q9, .int readFeetMany, .ref q10, .int readLog, .int readBlock, .ref q11, .int readStocking, .ref q12, .int lefts_, .int rights_, .ref q13, .ref q14, .ref q15, .ref q16, .ref q17])), (q3, .inl (cc 0, 52, .inl st)), (q12, .inl (cc 0, 52, .inl now_)), (q13, .inl (cc 0, 10, .inl left_)), (q14, .inl (cc 0, 10, .inl right_)), (q15, .inl (cc 0, 1100, .inl best)), (q16, .inl (cc 0, 10, .inl with_))] H locs := hP
  refine lv_if_ne (tgt := 19) hx hb dX10_pairs_14 (by decide) (fun c3 => ?_) (fun c3 => ?_)
  · have h := if_f c3 h
    refine lv_aload_n hx hb dX10_pairs_19 rfl (lv_at hl 0 rfl) ?_
    obtain ⟨⟨w4, w5, w6, w7, w8, w9, w10⟩, hu, h⟩ := bnd_h h
    refine kc_v (kV hC (c_X10_findPairs l dC dI cc q0 q1 q2 q3 q4 q5 q6 q7 q8 q9 q10 q11 q12 q13 q14 q15 q16 q17 feetMany log_ block stocking acts keeps hears texted at_ readFeetMany readLog readBlock readStocking lefts_ rights_ st now_ left_ right_ best with_ H.size w4 w5 w6 w7 w8 w9 w10 hu) cv_X10_224 kw1049 rfl rfl ⟨(Nat.le_of_ble_eq_true rfl), (Nat.le_of_ble_eq_true rfl)⟩ hP [0, 1, 2, 3, 4, 5, 6] rfl rfl rfl (q0 := 0) rfl (As := []) (rest := []) rfl rfl hl.1 (Nat.le_of_ble_eq_true rfl) dX10_pairs_20 ⟨Nat.zero_le _, Nat.zero_le _⟩) hP hA [0, 1, 2, 3, 4, 5, 6] rfl rfl (fun H locs hP => ?_)
    have hP : PD (dC, dI) A s.heap [(q0, .inr (10, [.int feetMany, .ref q1, .int log_, .int block, .ref q2, .int stocking, .ref q3, .int acts, .ref q4, .int keeps, .ref q5, .int hears, .ref q6, .ref q7, .int texted, .int at_, .ref q8, .ref q9, .int readFeetMany, .ref q10, .int readLog, .int readBlock, .ref q11, .int readStocking, .ref q12, .int w5, .int w6, .ref q13, .ref q14, .ref q15, .ref q16, .ref q17])), (q3, .inl (cc 0, 52, .inl st)), (q12, .inl (cc 0, 52, .inl w4)), (q13, .inl (cc 0, 10, .inl w7)), (q14, .inl (cc 0, 10, .inl w8)), (q15, .inl (cc 0, 1100, .inl w9)), (q16, .inl (cc 0, 10, .inl w10))] H locs := hP
    refine lv_aload_n hx hb dX10_pairs_23 rfl (lv_at hl 0 rfl) ?_
    refine g_get hC hP fg_X10_53 0 rfl rfl dX10_pairs_24 ?_
    refine lv_iconst (v := 0) hx hb dX10_pairs_27 (by decide) ?_
    obtain ⟨hin, h⟩ := rd_h h
    refine g_iald hC hP 5 0 rfl rfl hin dX10_pairs_28 (fun v11 ev => ?_)
    have h := h v11 ev
    refine lv_bipush (v := 99) hx hb dX10_pairs_29 (by decide) ?_
    refine lv_iadd hx hb dX10_pairs_31 ?_
    refine lv_bipush (v := 100) hx hb dX10_pairs_32 (by decide) ?_
    refine lv_idiv hx hb dX10_pairs_34 (by decide) ?_
    refine lv_istore_n (lv' := [(2, .int ((v11 + 99) / 100)), (0, .ref q0), (1, .int x1)]) hx hb dX10_pairs_35 rfl hl (by decide) rfl (fun ls hl => ?_)
    refine lv_iload_n hx hb dX10_pairs_36 rfl (lv_at hl 2 rfl) ?_
    refine lv_iconst (v := -1) hx hb dX10_pairs_37 (by decide) ?_
    refine lv_icmp_ne (tgt := 45) hx hb dX10_pairs_38 (by decide) (fun c12 => ?_) (fun c12 => ?_)
    · have h := if_f c12 h
      refine lv_iload_n hx hb dX10_pairs_45 rfl (lv_at hl 2 rfl) ?_
      refine lv_bipush (v := -2) hx hb dX10_pairs_46 (by decide) ?_
      refine lv_icmp_ne (tgt := 65) hx hb dX10_pairs_48 (by decide) (fun c13 => ?_) (fun c13 => ?_)
      · have h := if_f c13 h
        refine lv_aload_n hx hb dX10_pairs_65 rfl (lv_at hl 1 rfl) ?_
        refine g_get hC hP fg_X10_56 0 rfl rfl dX10_pairs_66 ?_
        refine lv_iload_n hx hb dX10_pairs_69 rfl (lv_at hl 2 rfl) ?_
        obtain ⟨hin, h⟩ := rd_h h
        refine g_iald hC hP 6 0 rfl rfl hin dX10_pairs_70 (fun v14 ev => ?_)
        have h := h v14 ev
        exact ret_i hC hr hlk hP dX10_pairs_71 (w4, w5, w6, w7, w8, w9, w10) (Prod.mk.inj (Option.some.inj h)) rfl
      · have h := if_t c13 h
        refine lv_bipush (v := 100) hx hb dX10_pairs_51 (by decide) ?_
        refine lv_iload_n hx hb dX10_pairs_53 rfl (lv_at hl 0 rfl) ?_
        refine lv_imul hx hb dX10_pairs_54 ?_
        refine lv_aload_n hx hb dX10_pairs_55 rfl (lv_at hl 1 rfl) ?_
        refine g_get hC hP fg_X10_53 0 rfl rfl dX10_pairs_56 ?_
        refine lv_iconst (v := 0) hx hb dX10_pairs_59 (by decide) ?_
        obtain ⟨hin, h⟩ := rd_h h
        refine g_iald hC hP 5 0 rfl rfl hin dX10_pairs_60 (fun v15 ev => ?_)
        have h := h v15 ev
        refine lv_isub hx hb dX10_pairs_61 ?_
        refine lv_goto (tgt := 71) hx hb dX10_pairs_62 (by decide) ?_
        exact ret_i hC hr hlk hP dX10_pairs_71 (w4, w5, w6, w7, w8, w9, w10) (Prod.mk.inj (Option.some.inj h)) rfl
    · have h := if_t c12 h
      refine lv_iload_n hx hb dX10_pairs_41 rfl (lv_at hl 0 rfl) ?_
      refine lv_goto (tgt := 71) hx hb dX10_pairs_42 (by decide) ?_
      exact ret_i hC hr hlk hP dX10_pairs_71 (w4, w5, w6, w7, w8, w9, w10) (Prod.mk.inj (Option.some.inj h)) rfl
  · have h := if_t c3 h
    refine lv_iconst (v := -1) hx hb dX10_pairs_17 (by decide) ?_
    exact ret_i hC hr hlk hP dX10_pairs_18 (now_, lefts_, rights_, left_, right_, best, with_) (Prod.mk.inj (Option.some.inj h)) rfl
set_option maxHeartbeats 8000000 in
set_option maxRecDepth 100000 in
theorem c_X10_leftOver (l : Launch) (dC : Nat → ClassId) (dI : Nat → Nat → Nat) (cc : Nat → ClassId) (q0 q1 q2 q3 q4 q5 q6 q7 q8 q9 q10 q11 q12 q13 q14 q15 q16 q17 : Nat) (feetMany : Int32) (log_ : Int32) (block : Int32) (stocking : Int32) (acts : Int32) (keeps : Int32) (hears : Int32) (texted : Int32) (at_ : Int32) (readFeetMany : Int32) (readLog : Int32) (readBlock : Int32) (readStocking : Int32) (lefts_ : Int32) (rights_ : Int32) (st : (Nat → Int32)) (now_ : (Nat → Int32)) (left_ : (Nat → Int32)) (right_ : (Nat → Int32)) (best : (Nat → Int32)) (with_ : (Nat → Int32)) (x1 : Int32) (sz : Nat) (ret : Int32) (o_now_ : (Nat → Int32)) (o_lefts_ : Int32) (o_rights_ : Int32) (o_left_ : (Nat → Int32)) (o_right_ : (Nat → Int32)) (o_best : (Nat → Int32)) (o_with_ : (Nat → Int32)) (hu : f_X10_leftOver x1 lefts_ rights_ st now_ left_ right_ best with_ = some (ret, o_now_, o_lefts_, o_rights_, o_left_, o_right_, o_best, o_with_)) : Met l yX10_leftOver (mw yX10_leftOver cX10_leftOver 4 (some .int)) ({ frames := 5, cells := 0, slots := 0, locals := 114 } : Room) (va_Pc [.ref q0, .int x1] (mP (dC, dI) (ts cc) sz [(q0, .inr (10, [.int feetMany, .ref q1, .int log_, .int block, .ref q2, .int stocking, .ref q3, .int acts, .ref q4, .int keeps, .ref q5, .int hears, .ref q6, .ref q7, .int texted, .int at_, .ref q8, .ref q9, .int readFeetMany, .ref q10, .int readLog, .int readBlock, .ref q11, .int readStocking, .ref q12, .int lefts_, .int rights_, .ref q13, .ref q14, .ref q15, .ref q16, .ref q17])), (q3, .inl (cc 0, 52, .inl st)), (q12, .inl (cc 0, 52, .inl now_)), (q13, .inl (cc 0, 10, .inl left_)), (q14, .inl (cc 0, 10, .inl right_)), (q15, .inl (cc 0, 1100, .inl best)), (q16, .inl (cc 0, 10, .inl with_))])) ((fun A => va_Qi (fun (r : Int32) (w : (Nat → Int32) × Int32 × Int32 × (Nat → Int32) × (Nat → Int32) × (Nat → Int32) × (Nat → Int32)) => r = ret ∧ w = (o_now_, o_lefts_, o_rights_, o_left_, o_right_, o_best, o_with_)) (fun (w : (Nat → Int32) × Int32 × Int32 × (Nat → Int32) × (Nat → Int32) × (Nat → Int32) × (Nat → Int32)) t => va_P (dC, dI) classes [(q0, .inr (10, [.int feetMany, .ref q1, .int log_, .int block, .ref q2, .int stocking, .ref q3, .int acts, .ref q4, .int keeps, .ref q5, .int hears, .ref q6, .ref q7, .int texted, .int at_, .ref q8, .ref q9, .int readFeetMany, .ref q10, .int readLog, .int readBlock, .ref q11, .int readStocking, .ref q12, .int w.2.1, .int w.2.2.1, .ref q13, .ref q14, .ref q15, .ref q16, .ref q17])), (q3, .inl (cc 0, 52, .inl st)), (q12, .inl (cc 0, 52, .inl w.1)), (q13, .inl (cc 0, 10, .inl w.2.2.2.1)), (q14, .inl (cc 0, 10, .inl w.2.2.2.2.1)), (q15, .inl (cc 0, 1100, .inl w.2.2.2.2.2.1)), (q16, .inl (cc 0, 10, .inl w.2.2.2.2.2.2))] t.heap) A) (va_A [(q0, .inr (10, [.int feetMany, .ref q1, .int log_, .int block, .ref q2, .int stocking, .ref q3, .int acts, .ref q4, .int keeps, .ref q5, .int hears, .ref q6, .ref q7, .int texted, .int at_, .ref q8, .ref q9, .int readFeetMany, .ref q10, .int readLog, .int readBlock, .ref q11, .int readStocking, .ref q12, .int lefts_, .int rights_, .ref q13, .ref q14, .ref q15, .ref q16, .ref q17])), (q3, .inl (cc 0, 52, .inl st)), (q12, .inl (cc 0, 52, .inl now_)), (q13, .inl (cc 0, 10, .inl left_)), (q14, .inl (cc 0, 10, .inl right_)), (q15, .inl (cc 0, 1100, .inl best)), (q16, .inl (cc 0, 10, .inl with_))] sz)) 0 0 (va_A [(q0, .inr (10, [.int feetMany, .ref q1, .int log_, .int block, .ref q2, .int stocking, .ref q3, .int acts, .ref q4, .int keeps, .ref q5, .int hears, .ref q6, .ref q7, .int texted, .int at_, .ref q8, .ref q9, .int readFeetMany, .ref q10, .int readLog, .int readBlock, .ref q11, .int readStocking, .ref q12, .int lefts_, .int rights_, .ref q13, .ref q14, .ref q15, .ref q16, .ref q17])), (q3, .inl (cc 0, 52, .inl st)), (q12, .inl (cc 0, 52, .inl now_)), (q13, .inl (cc 0, 10, .inl left_)), (q14, .inl (cc 0, 10, .inl right_)), (q15, .inl (cc 0, 1100, .inl best)), (q16, .inl (cc 0, 10, .inl with_))] sz) := by
  refine met_go (Qc := fun A => va_Qi (fun (r : Int32) (w : (Nat → Int32) × Int32 × Int32 × (Nat → Int32) × (Nat → Int32) × (Nat → Int32) × (Nat → Int32)) => r = ret ∧ w = (o_now_, o_lefts_, o_rights_, o_left_, o_right_, o_best, o_with_)) (fun (w : (Nat → Int32) × Int32 × Int32 × (Nat → Int32) × (Nat → Int32) × (Nat → Int32) × (Nat → Int32)) t => va_P (dC, dI) classes [(q0, .inr (10, [.int feetMany, .ref q1, .int log_, .int block, .ref q2, .int stocking, .ref q3, .int acts, .ref q4, .int keeps, .ref q5, .int hears, .ref q6, .ref q7, .int texted, .int at_, .ref q8, .ref q9, .int readFeetMany, .ref q10, .int readLog, .int readBlock, .ref q11, .int readStocking, .ref q12, .int w.2.1, .int w.2.2.1, .ref q13, .ref q14, .ref q15, .ref q16, .ref q17])), (q3, .inl (cc 0, 52, .inl st)), (q12, .inl (cc 0, 52, .inl w.1)), (q13, .inl (cc 0, 10, .inl w.2.2.2.1)), (q14, .inl (cc 0, 10, .inl w.2.2.2.2.1)), (q15, .inl (cc 0, 1100, .inl w.2.2.2.2.2.1)), (q16, .inl (cc 0, 10, .inl w.2.2.2.2.2.2))] t.heap) A) (by decide) (Nat.le_of_ble_eq_true rfl) ?_
  intro p e s m below meth c A ls H locs hC hr hlk hin hA hP hl _
  have hC : CX p m c cX10_leftOver 4 s ([.ref q0, .int x1] : List Value).toArray RX10 (dC, dI) (ts cc) := hC
  have hx := hC.1.1
  have hb := hC.1.2
  have h := hu
  have hu0 := hu
  unfold f_X10_leftOver at h
  have hl : lv_has ls 4 [(0, .ref q0), (1, .int x1)] := hl
  refine W_abs (fun Z eZ => ?_)
  refine lv_iload_n hx hb dX10_leftOver_0 rfl (lv_at hl 1 rfl) ?_
  refine lv_iconst (v := 0) hx hb dX10_leftOver_1 (by decide) ?_
  refine lv_iconst (v := 1) hx hb dX10_leftOver_2 (by decide) ?_
  obtain ⟨r1, hu, h⟩ := bnd_h h
  refine kc_z (kS hC (c_X10_in l dC dI cc x1 0 1 H.size r1 hu) cs_X10_90 kw912 rfl rfl ⟨(Nat.le_of_ble_eq_true rfl), (Nat.le_of_ble_eq_true rfl)⟩ hP [] rfl rfl (As := [.int x1, .int 0, .int 1]) (rest := []) rfl rfl hl.1 (Nat.le_of_ble_eq_true rfl) dX10_leftOver_3 ⟨Nat.zero_le _, Nat.zero_le _⟩) hP hA [] rfl rfl (fun hz_r1 H locs hP => ?_)
  have hP : PD (dC, dI) A s.heap [(q0, .inr (10, [.int feetMany, .ref q1, .int log_, .int block, .ref q2, .int stocking, .ref q3, .int acts, .ref q4, .int keeps, .ref q5, .int hears, .ref q6, .ref q7, .int texted, .int at_, .ref q8, .ref q9, .int readFeetMany, .ref q10, .int readLog, .int readBlock, .ref q11, .int readStocking, .ref q12, .int lefts_, .int rights_, .ref q13, .ref q14, .ref q15, .ref q16, .ref q17])), (q3, .inl (cc 0, 52, .inl st)), (q12, .inl (cc 0, 52, .inl now_)), (q13, .inl (cc 0, 10, .inl left_)), (q14, .inl (cc 0, 10, .inl right_)), (q15, .inl (cc 0, 1100, .inl best)), (q16, .inl (cc 0, 10, .inl with_))] H locs := hP
  refine lv_if_ne (tgt := 11) hx hb dX10_leftOver_6 (by decide) (fun c2 => ?_) (fun c2 => ?_)
  · have h := if_f c2 h
    refine lv_aload_n hx hb dX10_leftOver_11 rfl (lv_at hl 0 rfl) ?_
    obtain ⟨⟨w3, w4, w5, w6, w7, w8, w9⟩, hu, h⟩ := bnd_h h
    refine kc_v (kV hC (c_X10_findPairs l dC dI cc q0 q1 q2 q3 q4 q5 q6 q7 q8 q9 q10 q11 q12 q13 q14 q15 q16 q17 feetMany log_ block stocking acts keeps hears texted at_ readFeetMany readLog readBlock readStocking lefts_ rights_ st now_ left_ right_ best with_ H.size w3 w4 w5 w6 w7 w8 w9 hu) cv_X10_224 kw1049 rfl rfl ⟨(Nat.le_of_ble_eq_true rfl), (Nat.le_of_ble_eq_true rfl)⟩ hP [0, 1, 2, 3, 4, 5, 6] rfl rfl rfl (q0 := 0) rfl (As := []) (rest := []) rfl rfl hl.1 (Nat.le_of_ble_eq_true rfl) dX10_leftOver_12 ⟨Nat.zero_le _, Nat.zero_le _⟩) hP hA [0, 1, 2, 3, 4, 5, 6] rfl rfl (fun H locs hP => ?_)
    have hP : PD (dC, dI) A s.heap [(q0, .inr (10, [.int feetMany, .ref q1, .int log_, .int block, .ref q2, .int stocking, .ref q3, .int acts, .ref q4, .int keeps, .ref q5, .int hears, .ref q6, .ref q7, .int texted, .int at_, .ref q8, .ref q9, .int readFeetMany, .ref q10, .int readLog, .int readBlock, .ref q11, .int readStocking, .ref q12, .int w4, .int w5, .ref q13, .ref q14, .ref q15, .ref q16, .ref q17])), (q3, .inl (cc 0, 52, .inl st)), (q12, .inl (cc 0, 52, .inl w3)), (q13, .inl (cc 0, 10, .inl w6)), (q14, .inl (cc 0, 10, .inl w7)), (q15, .inl (cc 0, 1100, .inl w8)), (q16, .inl (cc 0, 10, .inl w9))] H locs := hP
    refine lv_iconst (v := 0) hx hb dX10_leftOver_15 (by decide) ?_
    refine lv_istore_n (lv' := [(2, .int 0), (0, .ref q0), (1, .int x1)]) hx hb dX10_leftOver_16 rfl hl (by decide) rfl (fun ls hl => ?_)
    refine lv_iconst (v := 0) hx hb dX10_leftOver_17 (by decide) ?_
    refine lv_istore_n (lv' := [(3, .int 0), (2, .int 0), (0, .ref q0), (1, .int x1)]) hx hb dX10_leftOver_18 rfl hl (by decide) rfl (fun ls hl => ?_)
    obtain ⟨⟨j10x, j11x⟩, hlp, h⟩ := bnd_h h
    have L1 : ∀ (n : Nat) (j10 : Int32) (j11 : Int32) (j10x : Int32) (j11x : Int32), lp (u2 (b_X10_leftOver_1 st w3 w9 x1)) n (j10, j11) = some (j10x, j11x) → ∀ (H : Heap) (locs : List Loc) (ls : Array Slot), PD (dC, dI) A s.heap [(q0, .inr (10, [.int feetMany, .ref q1, .int log_, .int block, .ref q2, .int stocking, .ref q3, .int acts, .ref q4, .int keeps, .ref q5, .int hears, .ref q6, .ref q7, .int texted, .int at_, .ref q8, .ref q9, .int readFeetMany, .ref q10, .int readLog, .int readBlock, .ref q11, .int readStocking, .ref q12, .int w4, .int w5, .ref q13, .ref q14, .ref q15, .ref q16, .ref q17])), (q3, .inl (cc 0, 52, .inl st)), (q12, .inl (cc 0, 52, .inl w3)), (q13, .inl (cc 0, 10, .inl w6)), (q14, .inl (cc 0, 10, .inl w7)), (q15, .inl (cc 0, 1100, .inl w8)), (q16, .inl (cc 0, 10, .inl w9))] H locs → lv_has ls 4 [(0, .ref q0), (1, .int x1), (2, .int j10), (3, .int j11)] → (∀ (H : Heap) (locs : List Loc) (ls : Array Slot), PD (dC, dI) A s.heap [(q0, .inr (10, [.int feetMany, .ref q1, .int log_, .int block, .ref q2, .int stocking, .ref q3, .int acts, .ref q4, .int keeps, .ref q5, .int hears, .ref q6, .ref q7, .int texted, .int at_, .ref q8, .ref q9, .int readFeetMany, .ref q10, .int readLog, .int readBlock, .ref q11, .int readStocking, .ref q12, .int w4, .int w5, .ref q13, .ref q14, .ref q15, .ref q16, .ref q17])), (q3, .inl (cc 0, 52, .inl st)), (q12, .inl (cc 0, 52, .inl w3)), (q13, .inl (cc 0, 10, .inl w6)), (q14, .inl (cc 0, 10, .inl w7)), (q15, .inl (cc 0, 1100, .inl w8)), (q16, .inl (cc 0, 10, .inl w9))] H locs → lv_has ls 4 [(0, .ref q0), (1, .int x1), (2, .int j10x), (3, .int j11x)] → W p l e ({ frames := 5, cells := 0, slots := 0, locals := 114 } : Room) s m ([.ref q0, .int x1] : List Value).toArray below meth c H locs 0 0 Z (F0 m 61 ls [])) → W p l e ({ frames := 5, cells := 0, slots := 0, locals := 114 } : Room) s m ([.ref q0, .int x1] : List Value).toArray below meth c H locs 0 0 Z (F0 m 19 ls []) := by
      intro n
      induction n with
      | zero => intro j10 j11 j10x j11x h; exact (lp_0 h).elim
      | succ n ih =>
        intro j10 j11 j10x j11x h H locs ls hP hl KK
        obtain ⟨y, h, hz⟩ := lp_h h
        refine lv_iload_n hx hb dX10_leftOver_19 rfl (lv_at hl 3 rfl) ?_
        refine lv_aload_n hx hb dX10_leftOver_20 rfl (lv_at hl 0 rfl) ?_
        refine g_get hC hP fg_X10_17 0 rfl rfl dX10_leftOver_21 ?_
        refine lv_iconst (v := 1) hx hb dX10_leftOver_24 (by decide) ?_
        obtain ⟨hin, h⟩ := rd_h h
        refine g_iald hC hP 1 0 rfl rfl hin dX10_leftOver_25 (fun v12 ev => ?_)
        have h := h v12 ev
        refine lv_icmp_ge (tgt := 61) hx hb dX10_leftOver_26 (by decide) (fun c13 => ?_) (fun c13 => ?_)
        · have h := if_t c13 h
          cases lp_e h hz
          exact KK H locs ls hP (lv_sub hl [0, 1, 2, 3] rfl)
        · have h := if_f c13 h
          refine lv_iload_n hx hb dX10_leftOver_29 rfl (lv_at hl 2 rfl) ?_
          refine lv_aload_n hx hb dX10_leftOver_30 rfl (lv_at hl 0 rfl) ?_
          refine lv_iload_n hx hb dX10_leftOver_31 rfl (lv_at hl 3 rfl) ?_
          obtain ⟨r14, hu, h⟩ := bnd_h h
          refine kc_i (kV hC (c_X10_sideOf l dC dI cc q0 q1 q2 q3 q4 q5 q6 q7 q8 q9 q10 q11 q12 q13 q14 q15 q16 q17 feetMany log_ block stocking acts keeps hears texted at_ readFeetMany readLog readBlock readStocking w4 w5 w3 j11 H.size r14 hu) cv_X10_175 kw987 rfl rfl ⟨(Nat.le_of_ble_eq_true rfl), (Nat.le_of_ble_eq_true rfl)⟩ hP [0, 2] rfl rfl rfl (q0 := 0) rfl (As := [.int j11]) (rest := [.int j10]) rfl rfl hl.1 (Nat.le_of_ble_eq_true rfl) dX10_leftOver_32 ⟨Nat.zero_le _, Nat.zero_le _⟩) hP hA [0, 2] rfl rfl (fun H locs hP => ?_)
          have hP : PD (dC, dI) A s.heap [(q0, .inr (10, [.int feetMany, .ref q1, .int log_, .int block, .ref q2, .int stocking, .ref q3, .int acts, .ref q4, .int keeps, .ref q5, .int hears, .ref q6, .ref q7, .int texted, .int at_, .ref q8, .ref q9, .int readFeetMany, .ref q10, .int readLog, .int readBlock, .ref q11, .int readStocking, .ref q12, .int w4, .int w5, .ref q13, .ref q14, .ref q15, .ref q16, .ref q17])), (q3, .inl (cc 0, 52, .inl st)), (q12, .inl (cc 0, 52, .inl w3)), (q13, .inl (cc 0, 10, .inl w6)), (q14, .inl (cc 0, 10, .inl w7)), (q15, .inl (cc 0, 1100, .inl w8)), (q16, .inl (cc 0, 10, .inl w9))] H locs := hP
          refine lv_iload_n hx hb dX10_leftOver_35 rfl (lv_at hl 1 rfl) ?_
          refine lv_icmp_ne (tgt := 52) hx hb dX10_leftOver_36 (by decide) (fun c15 => ?_) (fun c15 => ?_)
          · have h := if_f c15 h
            refine lv_iconst (v := 0) hx hb dX10_leftOver_52 (by decide) ?_
            refine lv_iadd hx hb dX10_leftOver_53 ?_
            refine lv_istore_n (lv' := [(2, .int (j10 + 0)), (0, .ref q0), (1, .int x1), (3, .int j11)]) hx hb dX10_leftOver_54 rfl hl (by decide) rfl (fun ls hl => ?_)
            refine lv_iinc (v := (j11 + 1)) (lv' := [(3, .int (j11 + 1)), (2, .int (j10 + 0)), (0, .ref q0), (1, .int x1)]) hx hb dX10_leftOver_55 hl (k := 3) rfl rfl (by decide) rfl (fun ls hl => ?_)
            refine lv_goto (tgt := 19) hx hb dX10_leftOver_58 (by decide) ?_
            exact ih _ _ _ _ (lp_n h hz) H locs ls hP (lv_sub hl [2, 3, 1, 0] rfl) KK
          · have h := if_t c15 h
            refine lv_aload_n hx hb dX10_leftOver_39 rfl (lv_at hl 0 rfl) ?_
            refine g_get hC hP fg_X10_56 0 rfl rfl dX10_leftOver_40 ?_
            refine lv_iload_n hx hb dX10_leftOver_43 rfl (lv_at hl 3 rfl) ?_
            obtain ⟨hin, h⟩ := rd_h h
            refine g_iald hC hP 6 0 rfl rfl hin dX10_leftOver_44 (fun v16 ev => ?_)
            have h := h v16 ev
            refine lv_if_ge (tgt := 52) hx hb dX10_leftOver_45 (by decide) (fun c17 => ?_) (fun c17 => ?_)
            · have h := if_t c17 h
              refine lv_iconst (v := 0) hx hb dX10_leftOver_52 (by decide) ?_
              refine lv_iadd hx hb dX10_leftOver_53 ?_
              refine lv_istore_n (lv' := [(2, .int (j10 + 0)), (0, .ref q0), (1, .int x1), (3, .int j11)]) hx hb dX10_leftOver_54 rfl hl (by decide) rfl (fun ls hl => ?_)
              refine lv_iinc (v := (j11 + 1)) (lv' := [(3, .int (j11 + 1)), (2, .int (j10 + 0)), (0, .ref q0), (1, .int x1)]) hx hb dX10_leftOver_55 hl (k := 3) rfl rfl (by decide) rfl (fun ls hl => ?_)
              refine lv_goto (tgt := 19) hx hb dX10_leftOver_58 (by decide) ?_
              exact ih _ _ _ _ (lp_n h hz) H locs ls hP (lv_sub hl [2, 3, 1, 0] rfl) KK
            · have h := if_f c17 h
              refine lv_iconst (v := 1) hx hb dX10_leftOver_48 (by decide) ?_
              refine lv_goto (tgt := 53) hx hb dX10_leftOver_49 (by decide) ?_
              refine lv_iadd hx hb dX10_leftOver_53 ?_
              refine lv_istore_n (lv' := [(2, .int (j10 + 1)), (0, .ref q0), (1, .int x1), (3, .int j11)]) hx hb dX10_leftOver_54 rfl hl (by decide) rfl (fun ls hl => ?_)
              refine lv_iinc (v := (j11 + 1)) (lv' := [(3, .int (j11 + 1)), (2, .int (j10 + 1)), (0, .ref q0), (1, .int x1)]) hx hb dX10_leftOver_55 hl (k := 3) rfl rfl (by decide) rfl (fun ls hl => ?_)
              refine lv_goto (tgt := 19) hx hb dX10_leftOver_58 (by decide) ?_
              exact ih _ _ _ _ (lp_n h hz) H locs ls hP (lv_sub hl [2, 3, 1, 0] rfl) KK
    refine L1 FU _ _ j10x j11x hlp H locs ls hP (lv_sub hl [2, 3, 1, 0] rfl) (fun H locs ls hP hl => ?_)
    refine lv_iload_n hx hb dX10_leftOver_61 rfl (lv_at hl 2 rfl) ?_
    rw [eZ]
    exact ret_i hC hr hlk hP dX10_leftOver_62 (w3, w4, w5, w6, w7, w8, w9) (Prod.mk.inj (Option.some.inj h)) rfl
  · have h := if_t c2 h
    refine lv_iconst (v := -1) hx hb dX10_leftOver_9 (by decide) ?_
    rw [eZ]
    exact ret_i hC hr hlk hP dX10_leftOver_10 (now_, lefts_, rights_, left_, right_, best, with_) (Prod.mk.inj (Option.some.inj h)) rfl
set_option maxHeartbeats 8000000 in
set_option maxRecDepth 100000 in
theorem c_X10_fits (l : Launch) (dC : Nat → ClassId) (dI : Nat → Nat → Nat) (cc : Nat → ClassId) (q0 q1 q2 q3 q4 q5 q6 q7 q8 q9 q10 q11 q12 q13 q14 q15 q16 q17 : Nat) (feetMany : Int32) (log_ : Int32) (block : Int32) (stocking : Int32) (acts : Int32) (keeps : Int32) (hears : Int32) (texted : Int32) (at_ : Int32) (readFeetMany : Int32) (readLog : Int32) (readBlock : Int32) (readStocking : Int32) (lefts_ : Int32) (rights_ : Int32) (feet : (Nat → Int32)) (now_ : (Nat → Int32)) (x1 : Int32) (x2 : Int32) (x3 : Int32) (sz : Nat) (ret : Int32) (hu : f_X10_fits x1 x2 x3 stocking feet now_ = some ret) : Met l yX10_fits (mw yX10_fits cX10_fits 5 (some .boolean)) ({ frames := 2, cells := 0, slots := 0, locals := 44 } : Room) (va_Pc [.ref q0, .int x1, .int x2, .int x3] (mP (dC, dI) (ts cc) sz [(q0, .inr (10, [.int feetMany, .ref q1, .int log_, .int block, .ref q2, .int stocking, .ref q3, .int acts, .ref q4, .int keeps, .ref q5, .int hears, .ref q6, .ref q7, .int texted, .int at_, .ref q8, .ref q9, .int readFeetMany, .ref q10, .int readLog, .int readBlock, .ref q11, .int readStocking, .ref q12, .int lefts_, .int rights_, .ref q13, .ref q14, .ref q15, .ref q16, .ref q17])), (q1, .inl (cc 0, 10, .inl feet)), (q12, .inl (cc 0, 52, .inl now_))])) ((fun A => va_Qi (fun (r : Int32) (w : Unit) => narrow .boolean (.int r) = .int r ∧ (r = ret ∧ w = ())) (fun (w : Unit) t => va_P (dC, dI) classes [(q0, .inr (10, [.int feetMany, .ref q1, .int log_, .int block, .ref q2, .int stocking, .ref q3, .int acts, .ref q4, .int keeps, .ref q5, .int hears, .ref q6, .ref q7, .int texted, .int at_, .ref q8, .ref q9, .int readFeetMany, .ref q10, .int readLog, .int readBlock, .ref q11, .int readStocking, .ref q12, .int lefts_, .int rights_, .ref q13, .ref q14, .ref q15, .ref q16, .ref q17])), (q1, .inl (cc 0, 10, .inl feet)), (q12, .inl (cc 0, 52, .inl now_))] t.heap) A) (va_A [(q0, .inr (10, [.int feetMany, .ref q1, .int log_, .int block, .ref q2, .int stocking, .ref q3, .int acts, .ref q4, .int keeps, .ref q5, .int hears, .ref q6, .ref q7, .int texted, .int at_, .ref q8, .ref q9, .int readFeetMany, .ref q10, .int readLog, .int readBlock, .ref q11, .int readStocking, .ref q12, .int lefts_, .int rights_, .ref q13, .ref q14, .ref q15, .ref q16, .ref q17])), (q1, .inl (cc 0, 10, .inl feet)), (q12, .inl (cc 0, 52, .inl now_))] sz)) 0 0 (va_A [(q0, .inr (10, [.int feetMany, .ref q1, .int log_, .int block, .ref q2, .int stocking, .ref q3, .int acts, .ref q4, .int keeps, .ref q5, .int hears, .ref q6, .ref q7, .int texted, .int at_, .ref q8, .ref q9, .int readFeetMany, .ref q10, .int readLog, .int readBlock, .ref q11, .int readStocking, .ref q12, .int lefts_, .int rights_, .ref q13, .ref q14, .ref q15, .ref q16, .ref q17])), (q1, .inl (cc 0, 10, .inl feet)), (q12, .inl (cc 0, 52, .inl now_))] sz) := by
  refine met_go (Qc := fun A => va_Qi (fun (r : Int32) (w : Unit) => narrow .boolean (.int r) = .int r ∧ (r = ret ∧ w = ())) (fun (w : Unit) t => va_P (dC, dI) classes [(q0, .inr (10, [.int feetMany, .ref q1, .int log_, .int block, .ref q2, .int stocking, .ref q3, .int acts, .ref q4, .int keeps, .ref q5, .int hears, .ref q6, .ref q7, .int texted, .int at_, .ref q8, .ref q9, .int readFeetMany, .ref q10, .int readLog, .int readBlock, .ref q11, .int readStocking, .ref q12, .int lefts_, .int rights_, .ref q13, .ref q14, .ref q15, .ref q16, .ref q17])), (q1, .inl (cc 0, 10, .inl feet)), (q12, .inl (cc 0, 52, .inl now_))] t.heap) A) (by decide) (Nat.le_of_ble_eq_true rfl) ?_
  intro p e s m below meth c A ls H locs hC hr hlk hin hA hP hl _
  have hC : CX p m c cX10_fits 5 s ([.ref q0, .int x1, .int x2, .int x3] : List Value).toArray RX10 (dC, dI) (ts cc) := hC
  have hx := hC.1.1
  have hb := hC.1.2
  have h := hu
  have hu0 := hu
  unfold f_X10_fits at h
  have hl : lv_has ls 5 [(0, .ref q0), (1, .int x1), (2, .int x2), (3, .int x3)] := hl
  refine lv_aload_n hx hb dX10_fits_0 rfl (lv_at hl 0 rfl) ?_
  refine g_get hC hP fg_X10_7 0 rfl rfl dX10_fits_1 ?_
  refine lv_iconst (v := 2) hx hb dX10_fits_4 (by decide) ?_
  refine lv_iload_n hx hb dX10_fits_5 rfl (lv_at hl 2 rfl) ?_
  refine lv_imul hx hb dX10_fits_6 ?_
  refine lv_iload_n hx hb dX10_fits_7 rfl (lv_at hl 3 rfl) ?_
  refine lv_iadd hx hb dX10_fits_8 ?_
  obtain ⟨hin, h⟩ := rd_h h
  refine g_iald hC hP 1 0 rfl rfl hin dX10_fits_9 (fun v1 ev => ?_)
  have h := h v1 ev
  refine lv_aload_n hx hb dX10_fits_10 rfl (lv_at hl 0 rfl) ?_
  refine g_get hC hP fg_X10_157 0 rfl rfl dX10_fits_11 ?_
  refine lv_iadd hx hb dX10_fits_14 ?_
  refine lv_istore (lv' := [(4, .int (v1 + stocking)), (0, .ref q0), (1, .int x1), (2, .int x2), (3, .int x3)]) hx hb dX10_fits_15 hl (by decide) rfl (fun ls hl => ?_)
  refine lv_aload_n hx hb dX10_fits_17 rfl (lv_at hl 1 rfl) ?_
  refine lv_iload_n hx hb dX10_fits_18 rfl (lv_at hl 2 rfl) ?_
  obtain ⟨r2, hu, h⟩ := bnd_h h
  refine kc_i (kV hC (c_X10_sideOf l dC dI cc q0 q1 q2 q3 q4 q5 q6 q7 q8 q9 q10 q11 q12 q13 q14 q15 q16 q17 feetMany log_ block stocking acts keeps hears texted at_ readFeetMany readLog readBlock readStocking lefts_ rights_ now_ x1 H.size r2 hu) cv_X10_175 kw987 rfl rfl ⟨(Nat.le_of_ble_eq_true rfl), (Nat.le_of_ble_eq_true rfl)⟩ hP [0, 2] rfl rfl rfl (q0 := 0) rfl (As := [.int x1]) (rest := []) rfl rfl hl.1 (Nat.le_of_ble_eq_true rfl) dX10_fits_19 ⟨Nat.zero_le _, Nat.zero_le _⟩) hP hA [0, 2] rfl rfl (fun H locs hP => ?_)
  have hP : PD (dC, dI) A s.heap [(q0, .inr (10, [.int feetMany, .ref q1, .int log_, .int block, .ref q2, .int stocking, .ref q3, .int acts, .ref q4, .int keeps, .ref q5, .int hears, .ref q6, .ref q7, .int texted, .int at_, .ref q8, .ref q9, .int readFeetMany, .ref q10, .int readLog, .int readBlock, .ref q11, .int readStocking, .ref q12, .int lefts_, .int rights_, .ref q13, .ref q14, .ref q15, .ref q16, .ref q17])), (q1, .inl (cc 0, 10, .inl feet)), (q12, .inl (cc 0, 52, .inl now_))] H locs := hP
  refine lv_iload_n hx hb dX10_fits_22 rfl (lv_at hl 4 rfl) ?_
  refine lv_icmp_ne (tgt := 47) hx hb dX10_fits_23 (by decide) (fun c3 => ?_) (fun c3 => ?_)
  · have h := if_f c3 h
    refine lv_iconst (v := 0) hx hb dX10_fits_47 (by decide) ?_
    exact ret_z hC hr rfl hlk hP dX10_fits_48 () (⟨Option.some.inj h, rfl⟩) rfl
  · have h := if_t c3 h
    refine lv_aload_n hx hb dX10_fits_26 rfl (lv_at hl 1 rfl) ?_
    refine lv_iload_n hx hb dX10_fits_27 rfl (lv_at hl 2 rfl) ?_
    obtain ⟨r4, hu, h⟩ := bnd_h h
    refine kc_i (kV hC (c_X10_sizeOf l dC dI cc q0 q1 q2 q3 q4 q5 q6 q7 q8 q9 q10 q11 q12 q13 q14 q15 q16 q17 feetMany log_ block stocking acts keeps hears texted at_ readFeetMany readLog readBlock readStocking lefts_ rights_ now_ x1 H.size r4 hu) cv_X10_178 kw991 rfl rfl ⟨(Nat.le_of_ble_eq_true rfl), (Nat.le_of_ble_eq_true rfl)⟩ hP [0, 2] rfl rfl rfl (q0 := 0) rfl (As := [.int x1]) (rest := []) rfl rfl hl.1 (Nat.le_of_ble_eq_true rfl) dX10_fits_28 ⟨Nat.zero_le _, Nat.zero_le _⟩) hP hA [0, 2] rfl rfl (fun H locs hP => ?_)
    have hP : PD (dC, dI) A s.heap [(q0, .inr (10, [.int feetMany, .ref q1, .int log_, .int block, .ref q2, .int stocking, .ref q3, .int acts, .ref q4, .int keeps, .ref q5, .int hears, .ref q6, .ref q7, .int texted, .int at_, .ref q8, .ref q9, .int readFeetMany, .ref q10, .int readLog, .int readBlock, .ref q11, .int readStocking, .ref q12, .int lefts_, .int rights_, .ref q13, .ref q14, .ref q15, .ref q16, .ref q17])), (q1, .inl (cc 0, 10, .inl feet)), (q12, .inl (cc 0, 52, .inl now_))] H locs := hP
    refine lv_iload hx hb dX10_fits_31 (lv_at hl 0 rfl) ?_
    refine lv_iload hx hb dX10_fits_33 (lv_at hl 0 rfl) ?_
    refine lv_iconst (v := 4) hx hb dX10_fits_35 (by decide) ?_
    refine lv_iadd hx hb dX10_fits_36 ?_
    obtain ⟨r5, hu, h⟩ := bnd_h h
    refine kc_z (kS hC (c_X10_in l dC dI cc r4 (v1 + stocking) ((v1 + stocking) + 4) H.size r5 hu) cs_X10_90 kw912 rfl rfl ⟨(Nat.le_of_ble_eq_true rfl), (Nat.le_of_ble_eq_true rfl)⟩ hP [] rfl rfl (As := [.int r4, .int (v1 + stocking), .int ((v1 + stocking) + 4)]) (rest := []) rfl rfl hl.1 (Nat.le_of_ble_eq_true rfl) dX10_fits_37 ⟨Nat.zero_le _, Nat.zero_le _⟩) hP hA [] rfl rfl (fun hz_r5 H locs hP => ?_)
    have hP : PD (dC, dI) A s.heap [(q0, .inr (10, [.int feetMany, .ref q1, .int log_, .int block, .ref q2, .int stocking, .ref q3, .int acts, .ref q4, .int keeps, .ref q5, .int hears, .ref q6, .ref q7, .int texted, .int at_, .ref q8, .ref q9, .int readFeetMany, .ref q10, .int readLog, .int readBlock, .ref q11, .int readStocking, .ref q12, .int lefts_, .int rights_, .ref q13, .ref q14, .ref q15, .ref q16, .ref q17])), (q1, .inl (cc 0, 10, .inl feet)), (q12, .inl (cc 0, 52, .inl now_))] H locs := hP
    refine lv_if_eq (tgt := 47) hx hb dX10_fits_40 (by decide) (fun c6 => ?_) (fun c6 => ?_)
    · have h := if_t c6 h
      refine lv_iconst (v := 0) hx hb dX10_fits_47 (by decide) ?_
      exact ret_z hC hr rfl hlk hP dX10_fits_48 () (⟨Option.some.inj h, rfl⟩) rfl
    · have h := if_f c6 h
      refine lv_iconst (v := 1) hx hb dX10_fits_43 (by decide) ?_
      refine lv_goto (tgt := 48) hx hb dX10_fits_44 (by decide) ?_
      exact ret_z hC hr rfl hlk hP dX10_fits_48 () (⟨Option.some.inj h, rfl⟩) rfl
set_option maxHeartbeats 8000000 in
set_option maxRecDepth 100000 in
theorem c_X10_serveMore (l : Launch) (dC : Nat → ClassId) (dI : Nat → Nat → Nat) (cc : Nat → ClassId) (q0 q1 q2 q3 q4 q5 q6 q7 q8 q9 q10 q11 q12 q13 q14 q15 q16 q17 : Nat) (feetMany : Int32) (log_ : Int32) (block : Int32) (stocking : Int32) (acts : Int32) (keeps : Int32) (hears : Int32) (texted : Int32) (at_ : Int32) (readFeetMany : Int32) (readLog : Int32) (readBlock : Int32) (readStocking : Int32) (lefts_ : Int32) (rights_ : Int32) (feet : (Nat → Int32)) (st : (Nat → Int32)) (now_ : (Nat → Int32)) (serves : (Nat → Int32)) (x1 : Int32) (x2 : Int32) (sz : Nat) (o_serves : (Nat → Int32)) (hu : f_X10_serveMore x1 x2 stocking feet st now_ serves = some o_serves) : Met l yX10_serveMore (mw yX10_serveMore cX10_serveMore 7 none) ({ frames := 3, cells := 0, slots := 0, locals := 68 } : Room) (va_Pc [.ref q0, .int x1, .int x2] (mP (dC, dI) (ts cc) sz [(q0, .inr (10, [.int feetMany, .ref q1, .int log_, .int block, .ref q2, .int stocking, .ref q3, .int acts, .ref q4, .int keeps, .ref q5, .int hears, .ref q6, .ref q7, .int texted, .int at_, .ref q8, .ref q9, .int readFeetMany, .ref q10, .int readLog, .int readBlock, .ref q11, .int readStocking, .ref q12, .int lefts_, .int rights_, .ref q13, .ref q14, .ref q15, .ref q16, .ref q17])), (q1, .inl (cc 0, 10, .inl feet)), (q3, .inl (cc 0, 52, .inl st)), (q12, .inl (cc 0, 52, .inl now_)), (q17, .inl (cc 0, 1024, .inl serves))])) ((fun A => va_Qv (fun (w : (Nat → Int32)) => w = o_serves) (fun (w : (Nat → Int32)) t => va_P (dC, dI) classes [(q0, .inr (10, [.int feetMany, .ref q1, .int log_, .int block, .ref q2, .int stocking, .ref q3, .int acts, .ref q4, .int keeps, .ref q5, .int hears, .ref q6, .ref q7, .int texted, .int at_, .ref q8, .ref q9, .int readFeetMany, .ref q10, .int readLog, .int readBlock, .ref q11, .int readStocking, .ref q12, .int lefts_, .int rights_, .ref q13, .ref q14, .ref q15, .ref q16, .ref q17])), (q1, .inl (cc 0, 10, .inl feet)), (q3, .inl (cc 0, 52, .inl st)), (q12, .inl (cc 0, 52, .inl now_)), (q17, .inl (cc 0, 1024, .inl w))] t.heap) A) (va_A [(q0, .inr (10, [.int feetMany, .ref q1, .int log_, .int block, .ref q2, .int stocking, .ref q3, .int acts, .ref q4, .int keeps, .ref q5, .int hears, .ref q6, .ref q7, .int texted, .int at_, .ref q8, .ref q9, .int readFeetMany, .ref q10, .int readLog, .int readBlock, .ref q11, .int readStocking, .ref q12, .int lefts_, .int rights_, .ref q13, .ref q14, .ref q15, .ref q16, .ref q17])), (q1, .inl (cc 0, 10, .inl feet)), (q3, .inl (cc 0, 52, .inl st)), (q12, .inl (cc 0, 52, .inl now_)), (q17, .inl (cc 0, 1024, .inl serves))] sz)) 0 0 (va_A [(q0, .inr (10, [.int feetMany, .ref q1, .int log_, .int block, .ref q2, .int stocking, .ref q3, .int acts, .ref q4, .int keeps, .ref q5, .int hears, .ref q6, .ref q7, .int texted, .int at_, .ref q8, .ref q9, .int readFeetMany, .ref q10, .int readLog, .int readBlock, .ref q11, .int readStocking, .ref q12, .int lefts_, .int rights_, .ref q13, .ref q14, .ref q15, .ref q16, .ref q17])), (q1, .inl (cc 0, 10, .inl feet)), (q3, .inl (cc 0, 52, .inl st)), (q12, .inl (cc 0, 52, .inl now_)), (q17, .inl (cc 0, 1024, .inl serves))] sz) := by
  refine met_go (Qc := fun A => va_Qv (fun (w : (Nat → Int32)) => w = o_serves) (fun (w : (Nat → Int32)) t => va_P (dC, dI) classes [(q0, .inr (10, [.int feetMany, .ref q1, .int log_, .int block, .ref q2, .int stocking, .ref q3, .int acts, .ref q4, .int keeps, .ref q5, .int hears, .ref q6, .ref q7, .int texted, .int at_, .ref q8, .ref q9, .int readFeetMany, .ref q10, .int readLog, .int readBlock, .ref q11, .int readStocking, .ref q12, .int lefts_, .int rights_, .ref q13, .ref q14, .ref q15, .ref q16, .ref q17])), (q1, .inl (cc 0, 10, .inl feet)), (q3, .inl (cc 0, 52, .inl st)), (q12, .inl (cc 0, 52, .inl now_)), (q17, .inl (cc 0, 1024, .inl w))] t.heap) A) (by decide) (Nat.le_of_ble_eq_true rfl) ?_
  intro p e s m below meth c A ls H locs hC hr hlk hin hA hP hl _
  have hC : CX p m c cX10_serveMore 7 s ([.ref q0, .int x1, .int x2] : List Value).toArray RX10 (dC, dI) (ts cc) := hC
  have hx := hC.1.1
  have hb := hC.1.2
  have h := hu
  have hu0 := hu
  unfold f_X10_serveMore at h
  have hl : lv_has ls 7 [(0, .ref q0), (1, .int x1), (2, .int x2)] := hl
  refine W_abs (fun Z eZ => ?_)
  refine lv_iconst (v := 0) hx hb dX10_serveMore_0 (by decide) ?_
  refine lv_istore_n (lv' := [(3, .int 0), (0, .ref q0), (1, .int x1), (2, .int x2)]) hx hb dX10_serveMore_1 rfl hl (by decide) rfl (fun ls hl => ?_)
  obtain ⟨⟨j1x, w2x⟩, hlp, h⟩ := bnd_h h
  have L1 : ∀ (n : Nat) (j1 : Int32) (w2 : (Nat → Int32)) (j1x : Int32) (w2x : (Nat → Int32)), lp (u2 (b_X10_serveMore_1 feet now_ st stocking x1 x2)) n (j1, w2) = some (j1x, w2x) → ∀ (H : Heap) (locs : List Loc) (ls : Array Slot), PD (dC, dI) A s.heap [(q0, .inr (10, [.int feetMany, .ref q1, .int log_, .int block, .ref q2, .int stocking, .ref q3, .int acts, .ref q4, .int keeps, .ref q5, .int hears, .ref q6, .ref q7, .int texted, .int at_, .ref q8, .ref q9, .int readFeetMany, .ref q10, .int readLog, .int readBlock, .ref q11, .int readStocking, .ref q12, .int lefts_, .int rights_, .ref q13, .ref q14, .ref q15, .ref q16, .ref q17])), (q1, .inl (cc 0, 10, .inl feet)), (q3, .inl (cc 0, 52, .inl st)), (q12, .inl (cc 0, 52, .inl now_)), (q17, .inl (cc 0, 1024, .inl w2))] H locs → lv_has ls 7 [(0, .ref q0), (1, .int x1), (2, .int x2), (3, .int j1)] → (∀ (H : Heap) (locs : List Loc) (ls : Array Slot), PD (dC, dI) A s.heap [(q0, .inr (10, [.int feetMany, .ref q1, .int log_, .int block, .ref q2, .int stocking, .ref q3, .int acts, .ref q4, .int keeps, .ref q5, .int hears, .ref q6, .ref q7, .int texted, .int at_, .ref q8, .ref q9, .int readFeetMany, .ref q10, .int readLog, .int readBlock, .ref q11, .int readStocking, .ref q12, .int lefts_, .int rights_, .ref q13, .ref q14, .ref q15, .ref q16, .ref q17])), (q1, .inl (cc 0, 10, .inl feet)), (q3, .inl (cc 0, 52, .inl st)), (q12, .inl (cc 0, 52, .inl now_)), (q17, .inl (cc 0, 1024, .inl w2x))] H locs → lv_has ls 7 [(0, .ref q0), (1, .int x1), (2, .int x2), (3, .int j1x)] → W p l e ({ frames := 3, cells := 0, slots := 0, locals := 68 } : Room) s m ([.ref q0, .int x1, .int x2] : List Value).toArray below meth c H locs 0 0 Z (F0 m 153 ls [])) → W p l e ({ frames := 3, cells := 0, slots := 0, locals := 68 } : Room) s m ([.ref q0, .int x1, .int x2] : List Value).toArray below meth c H locs 0 0 Z (F0 m 2 ls []) := by
    intro n
    induction n with
    | zero => intro j1 w2 j1x w2x h; exact (lp_0 h).elim
    | succ n ih =>
      intro j1 w2 j1x w2x h H locs ls hP hl KK
      obtain ⟨y, h, hz⟩ := lp_h h
      refine lv_iload_n hx hb dX10_serveMore_2 rfl (lv_at hl 3 rfl) ?_
      refine lv_aload_n hx hb dX10_serveMore_3 rfl (lv_at hl 0 rfl) ?_
      refine g_get hC hP fg_X10_17 0 rfl rfl dX10_serveMore_4 ?_
      refine lv_iconst (v := 1) hx hb dX10_serveMore_7 (by decide) ?_
      obtain ⟨hin, h⟩ := rd_h h
      refine g_iald hC hP 2 0 rfl rfl hin dX10_serveMore_8 (fun v3 ev => ?_)
      have h := h v3 ev
      refine lv_icmp_ge (tgt := 153) hx hb dX10_serveMore_9 (by decide) (fun c4 => ?_) (fun c4 => ?_)
      · have h := if_t c4 h
        cases lp_e h hz
        exact KK H locs ls hP (lv_sub hl [0, 1, 2, 3] rfl)
      · have h := if_f c4 h
        refine lv_iconst (v := 0) hx hb dX10_serveMore_12 (by decide) ?_
        refine lv_istore (lv' := [(4, .int 0), (0, .ref q0), (1, .int x1), (2, .int x2), (3, .int j1)]) hx hb dX10_serveMore_13 hl (by decide) rfl (fun ls hl => ?_)
        obtain ⟨⟨j5x, w6x⟩, hlp, h⟩ := bnd_h h
        have L2 : ∀ (n : Nat) (j5 : Int32) (w6 : (Nat → Int32)) (j5x : Int32) (w6x : (Nat → Int32)), lp (u2 (b_X10_serveMore_2 feet j1 now_ st stocking x1 x2)) n (j5, w6) = some (j5x, w6x) → ∀ (H : Heap) (locs : List Loc) (ls : Array Slot), PD (dC, dI) A s.heap [(q0, .inr (10, [.int feetMany, .ref q1, .int log_, .int block, .ref q2, .int stocking, .ref q3, .int acts, .ref q4, .int keeps, .ref q5, .int hears, .ref q6, .ref q7, .int texted, .int at_, .ref q8, .ref q9, .int readFeetMany, .ref q10, .int readLog, .int readBlock, .ref q11, .int readStocking, .ref q12, .int lefts_, .int rights_, .ref q13, .ref q14, .ref q15, .ref q16, .ref q17])), (q1, .inl (cc 0, 10, .inl feet)), (q3, .inl (cc 0, 52, .inl st)), (q12, .inl (cc 0, 52, .inl now_)), (q17, .inl (cc 0, 1024, .inl w6))] H locs → lv_has ls 7 [(0, .ref q0), (1, .int x1), (2, .int x2), (3, .int j1), (4, .int j5)] → (∀ (H : Heap) (locs : List Loc) (ls : Array Slot), PD (dC, dI) A s.heap [(q0, .inr (10, [.int feetMany, .ref q1, .int log_, .int block, .ref q2, .int stocking, .ref q3, .int acts, .ref q4, .int keeps, .ref q5, .int hears, .ref q6, .ref q7, .int texted, .int at_, .ref q8, .ref q9, .int readFeetMany, .ref q10, .int readLog, .int readBlock, .ref q11, .int readStocking, .ref q12, .int lefts_, .int rights_, .ref q13, .ref q14, .ref q15, .ref q16, .ref q17])), (q1, .inl (cc 0, 10, .inl feet)), (q3, .inl (cc 0, 52, .inl st)), (q12, .inl (cc 0, 52, .inl now_)), (q17, .inl (cc 0, 1024, .inl w6x))] H locs → lv_has ls 7 [(0, .ref q0), (1, .int x1), (2, .int x2), (3, .int j1), (4, .int j5x)] → W p l e ({ frames := 3, cells := 0, slots := 0, locals := 68 } : Room) s m ([.ref q0, .int x1, .int x2] : List Value).toArray below meth c H locs 0 0 Z (F0 m 147 ls [])) → W p l e ({ frames := 3, cells := 0, slots := 0, locals := 68 } : Room) s m ([.ref q0, .int x1, .int x2] : List Value).toArray below meth c H locs 0 0 Z (F0 m 15 ls []) := by
          intro n
          induction n with
          | zero => intro j5 w6 j5x w6x h; exact (lp_0 h).elim
          | succ n ih =>
            intro j5 w6 j5x w6x h H locs ls hP hl KK
            obtain ⟨y, h, hz⟩ := lp_h h
            refine lv_iload hx hb dX10_serveMore_15 (lv_at hl 4 rfl) ?_
            refine lv_aload_n hx hb dX10_serveMore_17 rfl (lv_at hl 0 rfl) ?_
            refine g_get hC hP fg_X10_17 0 rfl rfl dX10_serveMore_18 ?_
            refine lv_iconst (v := 1) hx hb dX10_serveMore_21 (by decide) ?_
            obtain ⟨hin, h⟩ := rd_h h
            refine g_iald hC hP 2 0 rfl rfl hin dX10_serveMore_22 (fun v7 ev => ?_)
            have h := h v7 ev
            refine lv_icmp_ge (tgt := 147) hx hb dX10_serveMore_23 (by decide) (fun c8 => ?_) (fun c8 => ?_)
            · have h := if_t c8 h
              cases lp_e h hz
              exact KK H locs ls hP (lv_sub hl [0, 1, 2, 3, 4] rfl)
            · have h := if_f c8 h
              refine lv_iload_n hx hb dX10_serveMore_26 rfl (lv_at hl 2 rfl) ?_
              refine lv_iload_n hx hb dX10_serveMore_27 rfl (lv_at hl 3 rfl) ?_
              obtain ⟨r9, hu, h⟩ := bnd_h h
              refine kc_z (kS hC (c_X10_has l dC dI cc x2 j1 H.size r9 hu) cs_X10_211 kw1060 rfl rfl ⟨(Nat.le_of_ble_eq_true rfl), (Nat.le_of_ble_eq_true rfl)⟩ hP [] rfl rfl (As := [.int x2, .int j1]) (rest := []) rfl rfl hl.1 (Nat.le_of_ble_eq_true rfl) dX10_serveMore_28 ⟨Nat.zero_le _, Nat.zero_le _⟩) hP hA [] rfl rfl (fun hz_r9 H locs hP => ?_)
              have hP : PD (dC, dI) A s.heap [(q0, .inr (10, [.int feetMany, .ref q1, .int log_, .int block, .ref q2, .int stocking, .ref q3, .int acts, .ref q4, .int keeps, .ref q5, .int hears, .ref q6, .ref q7, .int texted, .int at_, .ref q8, .ref q9, .int readFeetMany, .ref q10, .int readLog, .int readBlock, .ref q11, .int readStocking, .ref q12, .int lefts_, .int rights_, .ref q13, .ref q14, .ref q15, .ref q16, .ref q17])), (q1, .inl (cc 0, 10, .inl feet)), (q3, .inl (cc 0, 52, .inl st)), (q12, .inl (cc 0, 52, .inl now_)), (q17, .inl (cc 0, 1024, .inl w6))] H locs := hP
              refine lv_if_ne (tgt := 78) hx hb dX10_serveMore_31 (by decide) (fun c10 => ?_) (fun c10 => ?_)
              · have h := if_f c10 h
                refine lv_iconst (v := 0) hx hb dX10_serveMore_78 (by decide) ?_
                refine lv_istore (lv' := [(5, .int 0), (0, .ref q0), (1, .int x1), (2, .int x2), (3, .int j1), (4, .int j5)]) hx hb dX10_serveMore_79 hl (by decide) rfl (fun ls hl => ?_)
                refine lv_iload hx hb dX10_serveMore_81 (lv_at hl 0 rfl) ?_
                refine lv_if_eq (tgt := 141) hx hb dX10_serveMore_83 (by decide) (fun _ => ?_) (fun c => absurd (by decide) c)
                refine lv_iinc (v := (j5 + 1)) (lv' := [(4, .int (j5 + 1)), (5, .int 0), (0, .ref q0), (1, .int x1), (2, .int x2), (3, .int j1)]) hx hb dX10_serveMore_141 hl (k := 5) rfl rfl (by decide) rfl (fun ls hl => ?_)
                refine lv_goto (tgt := 15) hx hb dX10_serveMore_144 (by decide) ?_
                exact ih _ _ _ _ (lp_n h hz) H locs ls hP (lv_sub hl [2, 3, 4, 5, 0] rfl) KK
              · have h := if_t c10 h
                refine lv_iload_n hx hb dX10_serveMore_34 rfl (lv_at hl 2 rfl) ?_
                refine lv_iload hx hb dX10_serveMore_35 (lv_at hl 4 rfl) ?_
                obtain ⟨r12, hu, h⟩ := bnd_h h
                refine kc_z (kS hC (c_X10_has l dC dI cc x2 j5 H.size r12 hu) cs_X10_211 kw1060 rfl rfl ⟨(Nat.le_of_ble_eq_true rfl), (Nat.le_of_ble_eq_true rfl)⟩ hP [] rfl rfl (As := [.int x2, .int j5]) (rest := []) rfl rfl hl.1 (Nat.le_of_ble_eq_true rfl) dX10_serveMore_37 ⟨Nat.zero_le _, Nat.zero_le _⟩) hP hA [] rfl rfl (fun hz_r12 H locs hP => ?_)
                have hP : PD (dC, dI) A s.heap [(q0, .inr (10, [.int feetMany, .ref q1, .int log_, .int block, .ref q2, .int stocking, .ref q3, .int acts, .ref q4, .int keeps, .ref q5, .int hears, .ref q6, .ref q7, .int texted, .int at_, .ref q8, .ref q9, .int readFeetMany, .ref q10, .int readLog, .int readBlock, .ref q11, .int readStocking, .ref q12, .int lefts_, .int rights_, .ref q13, .ref q14, .ref q15, .ref q16, .ref q17])), (q1, .inl (cc 0, 10, .inl feet)), (q3, .inl (cc 0, 52, .inl st)), (q12, .inl (cc 0, 52, .inl now_)), (q17, .inl (cc 0, 1024, .inl w6))] H locs := hP
                refine lv_if_ne (tgt := 78) hx hb dX10_serveMore_40 (by decide) (fun c13 => ?_) (fun c13 => ?_)
                · have h := if_f c13 h
                  refine lv_iconst (v := 0) hx hb dX10_serveMore_78 (by decide) ?_
                  refine lv_istore (lv' := [(5, .int 0), (0, .ref q0), (1, .int x1), (2, .int x2), (3, .int j1), (4, .int j5)]) hx hb dX10_serveMore_79 hl (by decide) rfl (fun ls hl => ?_)
                  refine lv_iload hx hb dX10_serveMore_81 (lv_at hl 0 rfl) ?_
                  refine lv_if_eq (tgt := 141) hx hb dX10_serveMore_83 (by decide) (fun _ => ?_) (fun c => absurd (by decide) c)
                  refine lv_iinc (v := (j5 + 1)) (lv' := [(4, .int (j5 + 1)), (5, .int 0), (0, .ref q0), (1, .int x1), (2, .int x2), (3, .int j1)]) hx hb dX10_serveMore_141 hl (k := 5) rfl rfl (by decide) rfl (fun ls hl => ?_)
                  refine lv_goto (tgt := 15) hx hb dX10_serveMore_144 (by decide) ?_
                  exact ih _ _ _ _ (lp_n h hz) H locs ls hP (lv_sub hl [2, 3, 4, 5, 0] rfl) KK
                · have h := if_t c13 h
                  refine lv_aload_n hx hb dX10_serveMore_43 rfl (lv_at hl 0 rfl) ?_
                  refine lv_iload_n hx hb dX10_serveMore_44 rfl (lv_at hl 3 rfl) ?_
                  refine lv_iload_n hx hb dX10_serveMore_45 rfl (lv_at hl 1 rfl) ?_
                  refine lv_iconst (v := 0) hx hb dX10_serveMore_46 (by decide) ?_
                  obtain ⟨r15, hu, h⟩ := bnd_h h
                  refine kc_z (kV hC (c_X10_fits l dC dI cc q0 q1 q2 q3 q4 q5 q6 q7 q8 q9 q10 q11 q12 q13 q14 q15 q16 q17 feetMany log_ block stocking acts keeps hears texted at_ readFeetMany readLog readBlock readStocking lefts_ rights_ feet now_ j1 x1 0 H.size r15 hu) cv_X10_230 kw1080 rfl rfl ⟨(Nat.le_of_ble_eq_true rfl), (Nat.le_of_ble_eq_true rfl)⟩ hP [0, 1, 3] rfl rfl rfl (q0 := 0) rfl (As := [.int j1, .int x1, .int 0]) (rest := []) rfl rfl hl.1 (Nat.le_of_ble_eq_true rfl) dX10_serveMore_47 ⟨Nat.zero_le _, Nat.zero_le _⟩) hP hA [0, 1, 3] rfl rfl (fun hz_r15 H locs hP => ?_)
                  have hP : PD (dC, dI) A s.heap [(q0, .inr (10, [.int feetMany, .ref q1, .int log_, .int block, .ref q2, .int stocking, .ref q3, .int acts, .ref q4, .int keeps, .ref q5, .int hears, .ref q6, .ref q7, .int texted, .int at_, .ref q8, .ref q9, .int readFeetMany, .ref q10, .int readLog, .int readBlock, .ref q11, .int readStocking, .ref q12, .int lefts_, .int rights_, .ref q13, .ref q14, .ref q15, .ref q16, .ref q17])), (q1, .inl (cc 0, 10, .inl feet)), (q3, .inl (cc 0, 52, .inl st)), (q12, .inl (cc 0, 52, .inl now_)), (q17, .inl (cc 0, 1024, .inl w6))] H locs := hP
                  refine lv_if_eq (tgt := 78) hx hb dX10_serveMore_50 (by decide) (fun c16 => ?_) (fun c16 => ?_)
                  · have h := if_t c16 h
                    refine lv_iconst (v := 0) hx hb dX10_serveMore_78 (by decide) ?_
                    refine lv_istore (lv' := [(5, .int 0), (0, .ref q0), (1, .int x1), (2, .int x2), (3, .int j1), (4, .int j5)]) hx hb dX10_serveMore_79 hl (by decide) rfl (fun ls hl => ?_)
                    refine lv_iload hx hb dX10_serveMore_81 (lv_at hl 0 rfl) ?_
                    refine lv_if_eq (tgt := 141) hx hb dX10_serveMore_83 (by decide) (fun _ => ?_) (fun c => absurd (by decide) c)
                    refine lv_iinc (v := (j5 + 1)) (lv' := [(4, .int (j5 + 1)), (5, .int 0), (0, .ref q0), (1, .int x1), (2, .int x2), (3, .int j1)]) hx hb dX10_serveMore_141 hl (k := 5) rfl rfl (by decide) rfl (fun ls hl => ?_)
                    refine lv_goto (tgt := 15) hx hb dX10_serveMore_144 (by decide) ?_
                    exact ih _ _ _ _ (lp_n h hz) H locs ls hP (lv_sub hl [2, 3, 4, 5, 0] rfl) KK
                  · have h := if_f c16 h
                    refine lv_aload_n hx hb dX10_serveMore_53 rfl (lv_at hl 0 rfl) ?_
                    refine lv_iload hx hb dX10_serveMore_54 (lv_at hl 4 rfl) ?_
                    refine lv_iload_n hx hb dX10_serveMore_56 rfl (lv_at hl 1 rfl) ?_
                    refine lv_iconst (v := 1) hx hb dX10_serveMore_57 (by decide) ?_
                    obtain ⟨r18, hu, h⟩ := bnd_h h
                    refine kc_z (kV hC (c_X10_fits l dC dI cc q0 q1 q2 q3 q4 q5 q6 q7 q8 q9 q10 q11 q12 q13 q14 q15 q16 q17 feetMany log_ block stocking acts keeps hears texted at_ readFeetMany readLog readBlock readStocking lefts_ rights_ feet now_ j5 x1 1 H.size r18 hu) cv_X10_230 kw1080 rfl rfl ⟨(Nat.le_of_ble_eq_true rfl), (Nat.le_of_ble_eq_true rfl)⟩ hP [0, 1, 3] rfl rfl rfl (q0 := 0) rfl (As := [.int j5, .int x1, .int 1]) (rest := []) rfl rfl hl.1 (Nat.le_of_ble_eq_true rfl) dX10_serveMore_58 ⟨Nat.zero_le _, Nat.zero_le _⟩) hP hA [0, 1, 3] rfl rfl (fun hz_r18 H locs hP => ?_)
                    have hP : PD (dC, dI) A s.heap [(q0, .inr (10, [.int feetMany, .ref q1, .int log_, .int block, .ref q2, .int stocking, .ref q3, .int acts, .ref q4, .int keeps, .ref q5, .int hears, .ref q6, .ref q7, .int texted, .int at_, .ref q8, .ref q9, .int readFeetMany, .ref q10, .int readLog, .int readBlock, .ref q11, .int readStocking, .ref q12, .int lefts_, .int rights_, .ref q13, .ref q14, .ref q15, .ref q16, .ref q17])), (q1, .inl (cc 0, 10, .inl feet)), (q3, .inl (cc 0, 52, .inl st)), (q12, .inl (cc 0, 52, .inl now_)), (q17, .inl (cc 0, 1024, .inl w6))] H locs := hP
                    refine lv_if_eq (tgt := 78) hx hb dX10_serveMore_61 (by decide) (fun c19 => ?_) (fun c19 => ?_)
                    · have h := if_t c19 h
                      refine lv_iconst (v := 0) hx hb dX10_serveMore_78 (by decide) ?_
                      refine lv_istore (lv' := [(5, .int 0), (0, .ref q0), (1, .int x1), (2, .int x2), (3, .int j1), (4, .int j5)]) hx hb dX10_serveMore_79 hl (by decide) rfl (fun ls hl => ?_)
                      refine lv_iload hx hb dX10_serveMore_81 (lv_at hl 0 rfl) ?_
                      refine lv_if_eq (tgt := 141) hx hb dX10_serveMore_83 (by decide) (fun _ => ?_) (fun c => absurd (by decide) c)
                      refine lv_iinc (v := (j5 + 1)) (lv' := [(4, .int (j5 + 1)), (5, .int 0), (0, .ref q0), (1, .int x1), (2, .int x2), (3, .int j1)]) hx hb dX10_serveMore_141 hl (k := 5) rfl rfl (by decide) rfl (fun ls hl => ?_)
                      refine lv_goto (tgt := 15) hx hb dX10_serveMore_144 (by decide) ?_
                      exact ih _ _ _ _ (lp_n h hz) H locs ls hP (lv_sub hl [2, 3, 4, 5, 0] rfl) KK
                    · have h := if_f c19 h
                      refine lv_aload_n hx hb dX10_serveMore_64 rfl (lv_at hl 0 rfl) ?_
                      refine lv_iload_n hx hb dX10_serveMore_65 rfl (lv_at hl 3 rfl) ?_
                      refine lv_iload hx hb dX10_serveMore_66 (lv_at hl 4 rfl) ?_
                      obtain ⟨r21, hu, h⟩ := bnd_h h
                      refine kc_z (kV hC (c_X10_areAlike l dC dI cc q0 q1 q2 q3 q4 q5 q6 q7 q8 q9 q10 q11 q12 q13 q14 q15 q16 q17 feetMany log_ block stocking acts keeps hears texted at_ readFeetMany readLog readBlock readStocking lefts_ rights_ now_ j1 j5 H.size r21 hu) cv_X10_197 kw1023 rfl rfl ⟨(Nat.le_of_ble_eq_true rfl), (Nat.le_of_ble_eq_true rfl)⟩ hP [0, 3] rfl rfl rfl (q0 := 0) rfl (As := [.int j1, .int j5]) (rest := []) rfl rfl hl.1 (Nat.le_of_ble_eq_true rfl) dX10_serveMore_68 ⟨Nat.zero_le _, Nat.zero_le _⟩) hP hA [0, 3] rfl rfl (fun hz_r21 H locs hP => ?_)
                      have hP : PD (dC, dI) A s.heap [(q0, .inr (10, [.int feetMany, .ref q1, .int log_, .int block, .ref q2, .int stocking, .ref q3, .int acts, .ref q4, .int keeps, .ref q5, .int hears, .ref q6, .ref q7, .int texted, .int at_, .ref q8, .ref q9, .int readFeetMany, .ref q10, .int readLog, .int readBlock, .ref q11, .int readStocking, .ref q12, .int lefts_, .int rights_, .ref q13, .ref q14, .ref q15, .ref q16, .ref q17])), (q1, .inl (cc 0, 10, .inl feet)), (q3, .inl (cc 0, 52, .inl st)), (q12, .inl (cc 0, 52, .inl now_)), (q17, .inl (cc 0, 1024, .inl w6))] H locs := hP
                      refine lv_if_eq (tgt := 78) hx hb dX10_serveMore_71 (by decide) (fun c22 => ?_) (fun c22 => ?_)
                      · have h := if_t c22 h
                        refine lv_iconst (v := 0) hx hb dX10_serveMore_78 (by decide) ?_
                        refine lv_istore (lv' := [(5, .int 0), (0, .ref q0), (1, .int x1), (2, .int x2), (3, .int j1), (4, .int j5)]) hx hb dX10_serveMore_79 hl (by decide) rfl (fun ls hl => ?_)
                        refine lv_iload hx hb dX10_serveMore_81 (lv_at hl 0 rfl) ?_
                        refine lv_if_eq (tgt := 141) hx hb dX10_serveMore_83 (by decide) (fun _ => ?_) (fun c => absurd (by decide) c)
                        refine lv_iinc (v := (j5 + 1)) (lv' := [(4, .int (j5 + 1)), (5, .int 0), (0, .ref q0), (1, .int x1), (2, .int x2), (3, .int j1)]) hx hb dX10_serveMore_141 hl (k := 5) rfl rfl (by decide) rfl (fun ls hl => ?_)
                        refine lv_goto (tgt := 15) hx hb dX10_serveMore_144 (by decide) ?_
                        exact ih _ _ _ _ (lp_n h hz) H locs ls hP (lv_sub hl [2, 3, 4, 5, 0] rfl) KK
                      · have h := if_f c22 h
                        refine lv_iconst (v := 1) hx hb dX10_serveMore_74 (by decide) ?_
                        refine lv_goto (tgt := 79) hx hb dX10_serveMore_75 (by decide) ?_
                        refine lv_istore (lv' := [(5, .int 1), (0, .ref q0), (1, .int x1), (2, .int x2), (3, .int j1), (4, .int j5)]) hx hb dX10_serveMore_79 hl (by decide) rfl (fun ls hl => ?_)
                        refine lv_iload hx hb dX10_serveMore_81 (lv_at hl 0 rfl) ?_
                        refine lv_if_eq (tgt := 141) hx hb dX10_serveMore_83 (by decide) (fun c => absurd c (by decide)) (fun _ => ?_)
                        refine lv_iload_n hx hb dX10_serveMore_86 rfl (lv_at hl 3 rfl) ?_
                        refine lv_iconst (v := 1) hx hb dX10_serveMore_87 (by decide) ?_
                        refine lv_iload_n hx hb dX10_serveMore_88 rfl (lv_at hl 4 rfl) ?_
                        refine lv_ishl hx hb dX10_serveMore_89 ?_
                        refine lv_ior hx hb dX10_serveMore_90 ?_
                        refine lv_iconst (v := 1) hx hb dX10_serveMore_91 (by decide) ?_
                        refine lv_iload hx hb dX10_serveMore_92 (lv_at hl 5 rfl) ?_
                        refine lv_ishl hx hb dX10_serveMore_94 ?_
                        refine lv_ior hx hb dX10_serveMore_95 ?_
                        refine lv_topi (fun v25 ev => ?_)
                        have h := nm_h ev h
                        refine lv_istore (lv' := [(6, .int v25), (5, .int 1), (0, .ref q0), (1, .int x1), (2, .int x2), (3, .int j1), (4, .int j5)]) hx hb dX10_serveMore_96 hl (by decide) rfl (fun ls hl => ?_)
                        refine lv_aload_n hx hb dX10_serveMore_98 rfl (lv_at hl 2 rfl) ?_
                        refine g_get hC hP fg_X10_59 0 rfl rfl dX10_serveMore_99 ?_
                        refine lv_iload hx hb dX10_serveMore_102 (lv_at hl 0 rfl) ?_
                        refine lv_aload_n hx hb dX10_serveMore_104 rfl (lv_at hl 2 rfl) ?_
                        refine g_get hC hP fg_X10_59 0 rfl rfl dX10_serveMore_105 ?_
                        refine lv_iload_n hx hb dX10_serveMore_108 rfl (lv_at hl 4 rfl) ?_
                        obtain ⟨hin, h⟩ := rd_h h
                        refine g_iald hC hP 4 0 rfl rfl hin dX10_serveMore_109 (fun v26 ev => ?_)
                        have h := h v26 ev
                        refine lv_iconst (v := 1) hx hb dX10_serveMore_110 (by decide) ?_
                        refine lv_iadd hx hb dX10_serveMore_111 ?_
                        refine lv_aload_n hx hb dX10_serveMore_112 rfl (lv_at hl 2 rfl) ?_
                        refine g_get hC hP fg_X10_59 0 rfl rfl dX10_serveMore_113 ?_
                        refine lv_iload hx hb dX10_serveMore_116 (lv_at hl 0 rfl) ?_
                        obtain ⟨hin, h⟩ := rd_h h
                        refine g_iald hC hP 4 0 rfl rfl hin dX10_serveMore_118 (fun v27 ev => ?_)
                        have h := h v27 ev
                        refine lv_icmp_le (tgt := 133) hx hb dX10_serveMore_119 (by decide) (fun c28 => ?_) (fun c28 => ?_)
                        · have h := if_t c28 h
                          refine lv_aload_n hx hb dX10_serveMore_133 rfl (lv_at hl 2 rfl) ?_
                          refine g_get hC hP fg_X10_59 0 rfl rfl dX10_serveMore_134 ?_
                          refine lv_iload hx hb dX10_serveMore_137 (lv_at hl 0 rfl) ?_
                          obtain ⟨hin, h⟩ := rd_h h
                          refine g_iald hC hP 4 0 rfl rfl hin dX10_serveMore_139 (fun v29 ev => ?_)
                          have h := h v29 ev
                          obtain ⟨hin, h⟩ := wr_h h
                          refine g_iast hC hP 4 0 rfl rfl hin dX10_serveMore_140 (fun a30 ev H locs hP => ?_)
                          have hP : PD (dC, dI) A s.heap [(q0, .inr (10, [.int feetMany, .ref q1, .int log_, .int block, .ref q2, .int stocking, .ref q3, .int acts, .ref q4, .int keeps, .ref q5, .int hears, .ref q6, .ref q7, .int texted, .int at_, .ref q8, .ref q9, .int readFeetMany, .ref q10, .int readLog, .int readBlock, .ref q11, .int readStocking, .ref q12, .int lefts_, .int rights_, .ref q13, .ref q14, .ref q15, .ref q16, .ref q17])), (q1, .inl (cc 0, 10, .inl feet)), (q3, .inl (cc 0, 52, .inl st)), (q12, .inl (cc 0, 52, .inl now_)), (q17, .inl (cc 0, 1024, .inl a30))] H locs := hP
                          have h := h a30 ev
                          refine lv_iinc (v := (j5 + 1)) (lv' := [(4, .int (j5 + 1)), (6, .int v25), (5, .int 1), (0, .ref q0), (1, .int x1), (2, .int x2), (3, .int j1)]) hx hb dX10_serveMore_141 hl (k := 6) rfl rfl (by decide) rfl (fun ls hl => ?_)
                          refine lv_goto (tgt := 15) hx hb dX10_serveMore_144 (by decide) ?_
                          exact ih _ _ _ _ (lp_n h hz) H locs ls hP (lv_sub hl [3, 4, 5, 6, 0] rfl) KK
                        · have h := if_f c28 h
                          refine lv_aload_n hx hb dX10_serveMore_122 rfl (lv_at hl 2 rfl) ?_
                          refine g_get hC hP fg_X10_59 0 rfl rfl dX10_serveMore_123 ?_
                          refine lv_iload_n hx hb dX10_serveMore_126 rfl (lv_at hl 4 rfl) ?_
                          obtain ⟨hin, h⟩ := rd_h h
                          refine g_iald hC hP 4 0 rfl rfl hin dX10_serveMore_127 (fun v31 ev => ?_)
                          have h := h v31 ev
                          refine lv_iconst (v := 1) hx hb dX10_serveMore_128 (by decide) ?_
                          refine lv_iadd hx hb dX10_serveMore_129 ?_
                          refine lv_goto (tgt := 140) hx hb dX10_serveMore_130 (by decide) ?_
                          obtain ⟨hin, h⟩ := wr_h h
                          refine g_iast hC hP 4 0 rfl rfl hin dX10_serveMore_140 (fun a32 ev H locs hP => ?_)
                          have hP : PD (dC, dI) A s.heap [(q0, .inr (10, [.int feetMany, .ref q1, .int log_, .int block, .ref q2, .int stocking, .ref q3, .int acts, .ref q4, .int keeps, .ref q5, .int hears, .ref q6, .ref q7, .int texted, .int at_, .ref q8, .ref q9, .int readFeetMany, .ref q10, .int readLog, .int readBlock, .ref q11, .int readStocking, .ref q12, .int lefts_, .int rights_, .ref q13, .ref q14, .ref q15, .ref q16, .ref q17])), (q1, .inl (cc 0, 10, .inl feet)), (q3, .inl (cc 0, 52, .inl st)), (q12, .inl (cc 0, 52, .inl now_)), (q17, .inl (cc 0, 1024, .inl a32))] H locs := hP
                          have h := h a32 ev
                          refine lv_iinc (v := (j5 + 1)) (lv' := [(4, .int (j5 + 1)), (6, .int v25), (5, .int 1), (0, .ref q0), (1, .int x1), (2, .int x2), (3, .int j1)]) hx hb dX10_serveMore_141 hl (k := 6) rfl rfl (by decide) rfl (fun ls hl => ?_)
                          refine lv_goto (tgt := 15) hx hb dX10_serveMore_144 (by decide) ?_
                          exact ih _ _ _ _ (lp_n h hz) H locs ls hP (lv_sub hl [3, 4, 5, 6, 0] rfl) KK
        refine L2 FU _ _ j5x w6x hlp H locs ls hP (lv_sub hl [1, 2, 3, 4, 0] rfl) (fun H locs ls hP hl => ?_)
        refine lv_iinc (v := (j1 + 1)) (lv' := [(3, .int (j1 + 1)), (0, .ref q0), (1, .int x1), (2, .int x2), (4, .int j5x)]) hx hb dX10_serveMore_147 hl (k := 3) rfl rfl (by decide) rfl (fun ls hl => ?_)
        refine lv_goto (tgt := 2) hx hb dX10_serveMore_150 (by decide) ?_
        exact ih _ _ _ _ (lp_n h hz) H locs ls hP (lv_sub hl [1, 2, 3, 0] rfl) KK
  refine L1 FU _ _ j1x w2x hlp H locs ls hP (lv_sub hl [1, 2, 3, 0] rfl) (fun H locs ls hP hl => ?_)
  rw [eZ]
  exact ret_v hC hr hlk hP dX10_serveMore_153 w2x (Option.some.inj h) rfl
set_option maxHeartbeats 8000000 in
set_option maxRecDepth 100000 in
theorem c_X10_served (l : Launch) (dC : Nat → ClassId) (dI : Nat → Nat → Nat) (cc : Nat → ClassId) (q0 q1 q2 q3 q4 q5 q6 q7 q8 q9 q10 q11 q12 q13 q14 q15 q16 q17 : Nat) (feetMany : Int32) (log_ : Int32) (block : Int32) (stocking : Int32) (acts : Int32) (keeps : Int32) (hears : Int32) (texted : Int32) (at_ : Int32) (readFeetMany : Int32) (readLog : Int32) (readBlock : Int32) (readStocking : Int32) (lefts_ : Int32) (rights_ : Int32) (feet : (Nat → Int32)) (st : (Nat → Int32)) (now_ : (Nat → Int32)) (serves : (Nat → Int32)) (sz : Nat) (ret : Int32) (o_now_ : (Nat → Int32)) (o_serves : (Nat → Int32)) (hu : f_X10_served feetMany stocking feet st now_ serves = some (ret, o_now_, o_serves)) : Met l yX10_served (mw yX10_served cX10_served 4 (some .int)) ({ frames := 4, cells := 0, slots := 0, locals := 94 } : Room) (va_Pc [.ref q0] (mP (dC, dI) (ts cc) sz [(q0, .inr (10, [.int feetMany, .ref q1, .int log_, .int block, .ref q2, .int stocking, .ref q3, .int acts, .ref q4, .int keeps, .ref q5, .int hears, .ref q6, .ref q7, .int texted, .int at_, .ref q8, .ref q9, .int readFeetMany, .ref q10, .int readLog, .int readBlock, .ref q11, .int readStocking, .ref q12, .int lefts_, .int rights_, .ref q13, .ref q14, .ref q15, .ref q16, .ref q17])), (q1, .inl (cc 0, 10, .inl feet)), (q3, .inl (cc 0, 52, .inl st)), (q12, .inl (cc 0, 52, .inl now_)), (q17, .inl (cc 0, 1024, .inl serves))])) ((fun A => va_Qi (fun (r : Int32) (w : (Nat → Int32) × (Nat → Int32)) => r = ret ∧ w = (o_now_, o_serves)) (fun (w : (Nat → Int32) × (Nat → Int32)) t => va_P (dC, dI) classes [(q0, .inr (10, [.int feetMany, .ref q1, .int log_, .int block, .ref q2, .int stocking, .ref q3, .int acts, .ref q4, .int keeps, .ref q5, .int hears, .ref q6, .ref q7, .int texted, .int at_, .ref q8, .ref q9, .int readFeetMany, .ref q10, .int readLog, .int readBlock, .ref q11, .int readStocking, .ref q12, .int lefts_, .int rights_, .ref q13, .ref q14, .ref q15, .ref q16, .ref q17])), (q1, .inl (cc 0, 10, .inl feet)), (q3, .inl (cc 0, 52, .inl st)), (q12, .inl (cc 0, 52, .inl w.1)), (q17, .inl (cc 0, 1024, .inl w.2))] t.heap) A) (va_A [(q0, .inr (10, [.int feetMany, .ref q1, .int log_, .int block, .ref q2, .int stocking, .ref q3, .int acts, .ref q4, .int keeps, .ref q5, .int hears, .ref q6, .ref q7, .int texted, .int at_, .ref q8, .ref q9, .int readFeetMany, .ref q10, .int readLog, .int readBlock, .ref q11, .int readStocking, .ref q12, .int lefts_, .int rights_, .ref q13, .ref q14, .ref q15, .ref q16, .ref q17])), (q1, .inl (cc 0, 10, .inl feet)), (q3, .inl (cc 0, 52, .inl st)), (q12, .inl (cc 0, 52, .inl now_)), (q17, .inl (cc 0, 1024, .inl serves))] sz)) 0 0 (va_A [(q0, .inr (10, [.int feetMany, .ref q1, .int log_, .int block, .ref q2, .int stocking, .ref q3, .int acts, .ref q4, .int keeps, .ref q5, .int hears, .ref q6, .ref q7, .int texted, .int at_, .ref q8, .ref q9, .int readFeetMany, .ref q10, .int readLog, .int readBlock, .ref q11, .int readStocking, .ref q12, .int lefts_, .int rights_, .ref q13, .ref q14, .ref q15, .ref q16, .ref q17])), (q1, .inl (cc 0, 10, .inl feet)), (q3, .inl (cc 0, 52, .inl st)), (q12, .inl (cc 0, 52, .inl now_)), (q17, .inl (cc 0, 1024, .inl serves))] sz) := by
  refine met_go (Qc := fun A => va_Qi (fun (r : Int32) (w : (Nat → Int32) × (Nat → Int32)) => r = ret ∧ w = (o_now_, o_serves)) (fun (w : (Nat → Int32) × (Nat → Int32)) t => va_P (dC, dI) classes [(q0, .inr (10, [.int feetMany, .ref q1, .int log_, .int block, .ref q2, .int stocking, .ref q3, .int acts, .ref q4, .int keeps, .ref q5, .int hears, .ref q6, .ref q7, .int texted, .int at_, .ref q8, .ref q9, .int readFeetMany, .ref q10, .int readLog, .int readBlock, .ref q11, .int readStocking, .ref q12, .int lefts_, .int rights_, .ref q13, .ref q14, .ref q15, .ref q16, .ref q17])), (q1, .inl (cc 0, 10, .inl feet)), (q3, .inl (cc 0, 52, .inl st)), (q12, .inl (cc 0, 52, .inl w.1)), (q17, .inl (cc 0, 1024, .inl w.2))] t.heap) A) (by decide) (Nat.le_of_ble_eq_true rfl) ?_
  intro p e s m below meth c A ls H locs hC hr hlk hin hA hP hl _
  have hC : CX p m c cX10_served 4 s ([.ref q0] : List Value).toArray RX10 (dC, dI) (ts cc) := hC
  have hx := hC.1.1
  have hb := hC.1.2
  have h := hu
  have hu0 := hu
  unfold f_X10_served at h
  have hl : lv_has ls 4 [(0, .ref q0)] := hl
  refine W_abs (fun Z eZ => ?_)
  refine lv_aload_n hx hb dX10_served_0 rfl (lv_at hl 0 rfl) ?_
  obtain ⟨w1, hu, h⟩ := bnd_h h
  refine kc_v (kV hC (c_X10_asItIs l dC dI cc q0 q1 q2 q3 q4 q5 q6 q7 q8 q9 q10 q11 q12 q13 q14 q15 q16 q17 feetMany log_ block stocking acts keeps hears texted at_ readFeetMany readLog readBlock readStocking lefts_ rights_ st now_ H.size w1 hu) cv_X10_191 kw979 rfl rfl ⟨(Nat.le_of_ble_eq_true rfl), (Nat.le_of_ble_eq_true rfl)⟩ hP [0, 2, 3] rfl rfl rfl (q0 := 0) rfl (As := []) (rest := []) rfl rfl hl.1 (Nat.le_of_ble_eq_true rfl) dX10_served_1 ⟨Nat.zero_le _, Nat.zero_le _⟩) hP hA [0, 2, 3] rfl rfl (fun H locs hP => ?_)
  have hP : PD (dC, dI) A s.heap [(q0, .inr (10, [.int feetMany, .ref q1, .int log_, .int block, .ref q2, .int stocking, .ref q3, .int acts, .ref q4, .int keeps, .ref q5, .int hears, .ref q6, .ref q7, .int texted, .int at_, .ref q8, .ref q9, .int readFeetMany, .ref q10, .int readLog, .int readBlock, .ref q11, .int readStocking, .ref q12, .int lefts_, .int rights_, .ref q13, .ref q14, .ref q15, .ref q16, .ref q17])), (q1, .inl (cc 0, 10, .inl feet)), (q3, .inl (cc 0, 52, .inl st)), (q12, .inl (cc 0, 52, .inl w1)), (q17, .inl (cc 0, 1024, .inl serves))] H locs := hP
  refine lv_iconst (v := 1) hx hb dX10_served_4 (by decide) ?_
  refine lv_aload_n hx hb dX10_served_5 rfl (lv_at hl 0 rfl) ?_
  refine g_get hC hP fg_X10_17 0 rfl rfl dX10_served_6 ?_
  refine lv_iconst (v := 1) hx hb dX10_served_9 (by decide) ?_
  obtain ⟨hin, h⟩ := rd_h h
  refine g_iald hC hP 2 0 rfl rfl hin dX10_served_10 (fun v2 ev => ?_)
  have h := h v2 ev
  refine lv_ishl hx hb dX10_served_11 ?_
  refine lv_istore_n (lv' := [(1, .int (1 <<< (v2 &&& 31))), (0, .ref q0)]) hx hb dX10_served_12 rfl hl (by decide) rfl (fun ls hl => ?_)
  refine lv_iconst (v := 0) hx hb dX10_served_13 (by decide) ?_
  refine lv_istore_n (lv' := [(2, .int 0), (1, .int (1 <<< (v2 &&& 31))), (0, .ref q0)]) hx hb dX10_served_14 rfl hl (by decide) rfl (fun ls hl => ?_)
  obtain ⟨⟨j3x, w4x⟩, hlp, h⟩ := bnd_h h
  have L1 : ∀ (n : Nat) (j3 : Int32) (w4 : (Nat → Int32)) (j3x : Int32) (w4x : (Nat → Int32)), lp (u2 (b_X10_served_1 v2)) n (j3, w4) = some (j3x, w4x) → ∀ (H : Heap) (locs : List Loc) (ls : Array Slot), PD (dC, dI) A s.heap [(q0, .inr (10, [.int feetMany, .ref q1, .int log_, .int block, .ref q2, .int stocking, .ref q3, .int acts, .ref q4, .int keeps, .ref q5, .int hears, .ref q6, .ref q7, .int texted, .int at_, .ref q8, .ref q9, .int readFeetMany, .ref q10, .int readLog, .int readBlock, .ref q11, .int readStocking, .ref q12, .int lefts_, .int rights_, .ref q13, .ref q14, .ref q15, .ref q16, .ref q17])), (q1, .inl (cc 0, 10, .inl feet)), (q3, .inl (cc 0, 52, .inl st)), (q12, .inl (cc 0, 52, .inl w1)), (q17, .inl (cc 0, 1024, .inl w4))] H locs → lv_has ls 4 [(0, .ref q0), (1, .int (1 <<< (v2 &&& 31))), (2, .int j3)] → (∀ (H : Heap) (locs : List Loc) (ls : Array Slot), PD (dC, dI) A s.heap [(q0, .inr (10, [.int feetMany, .ref q1, .int log_, .int block, .ref q2, .int stocking, .ref q3, .int acts, .ref q4, .int keeps, .ref q5, .int hears, .ref q6, .ref q7, .int texted, .int at_, .ref q8, .ref q9, .int readFeetMany, .ref q10, .int readLog, .int readBlock, .ref q11, .int readStocking, .ref q12, .int lefts_, .int rights_, .ref q13, .ref q14, .ref q15, .ref q16, .ref q17])), (q1, .inl (cc 0, 10, .inl feet)), (q3, .inl (cc 0, 52, .inl st)), (q12, .inl (cc 0, 52, .inl w1)), (q17, .inl (cc 0, 1024, .inl w4x))] H locs → lv_has ls 4 [(0, .ref q0), (1, .int (1 <<< (v2 &&& 31))), (2, .int j3x)] → W p l e ({ frames := 4, cells := 0, slots := 0, locals := 94 } : Room) s m ([.ref q0] : List Value).toArray below meth c H locs 0 0 Z (F0 m 41 ls [])) → W p l e ({ frames := 4, cells := 0, slots := 0, locals := 94 } : Room) s m ([.ref q0] : List Value).toArray below meth c H locs 0 0 Z (F0 m 15 ls []) := by
    intro n
    induction n with
    | zero => intro j3 w4 j3x w4x h; exact (lp_0 h).elim
    | succ n ih =>
      intro j3 w4 j3x w4x h H locs ls hP hl KK
      obtain ⟨y, h, hz⟩ := lp_h h
      refine lv_iload_n hx hb dX10_served_15 rfl (lv_at hl 2 rfl) ?_
      refine lv_iload_n hx hb dX10_served_16 rfl (lv_at hl 1 rfl) ?_
      refine lv_icmp_ge (tgt := 41) hx hb dX10_served_17 (by decide) (fun c5 => ?_) (fun c5 => ?_)
      · have h := if_t c5 h
        cases lp_e h hz
        exact KK H locs ls hP (lv_sub hl [0, 1, 2] rfl)
      · have h := if_f c5 h
        refine lv_aload_n hx hb dX10_served_20 rfl (lv_at hl 0 rfl) ?_
        refine g_get hC hP fg_X10_59 0 rfl rfl dX10_served_21 ?_
        refine lv_iload_n hx hb dX10_served_24 rfl (lv_at hl 2 rfl) ?_
        refine lv_iload_n hx hb dX10_served_25 rfl (lv_at hl 2 rfl) ?_
        refine lv_if_ne (tgt := 33) hx hb dX10_served_26 (by decide) (fun c6 => ?_) (fun c6 => ?_)
        · have h := if_f c6 h
          refine lv_iconst (v := -1) hx hb dX10_served_33 (by decide) ?_
          obtain ⟨hin, h⟩ := wr_h h
          refine g_iast hC hP 4 0 rfl rfl hin dX10_served_34 (fun a7 ev H locs hP => ?_)
          have hP : PD (dC, dI) A s.heap [(q0, .inr (10, [.int feetMany, .ref q1, .int log_, .int block, .ref q2, .int stocking, .ref q3, .int acts, .ref q4, .int keeps, .ref q5, .int hears, .ref q6, .ref q7, .int texted, .int at_, .ref q8, .ref q9, .int readFeetMany, .ref q10, .int readLog, .int readBlock, .ref q11, .int readStocking, .ref q12, .int lefts_, .int rights_, .ref q13, .ref q14, .ref q15, .ref q16, .ref q17])), (q1, .inl (cc 0, 10, .inl feet)), (q3, .inl (cc 0, 52, .inl st)), (q12, .inl (cc 0, 52, .inl w1)), (q17, .inl (cc 0, 1024, .inl a7))] H locs := hP
          have h := h a7 ev
          refine lv_iinc (v := (j3 + 1)) (lv' := [(2, .int (j3 + 1)), (0, .ref q0), (1, .int (1 <<< (v2 &&& 31)))]) hx hb dX10_served_35 hl (k := 2) rfl rfl (by decide) rfl (fun ls hl => ?_)
          refine lv_goto (tgt := 15) hx hb dX10_served_38 (by decide) ?_
          exact ih _ _ _ _ (lp_n h hz) H locs ls hP (lv_sub hl [1, 2, 0] rfl) KK
        · have h := if_t c6 h
          refine lv_iconst (v := 0) hx hb dX10_served_29 (by decide) ?_
          refine lv_goto (tgt := 34) hx hb dX10_served_30 (by decide) ?_
          obtain ⟨hin, h⟩ := wr_h h
          refine g_iast hC hP 4 0 rfl rfl hin dX10_served_34 (fun a8 ev H locs hP => ?_)
          have hP : PD (dC, dI) A s.heap [(q0, .inr (10, [.int feetMany, .ref q1, .int log_, .int block, .ref q2, .int stocking, .ref q3, .int acts, .ref q4, .int keeps, .ref q5, .int hears, .ref q6, .ref q7, .int texted, .int at_, .ref q8, .ref q9, .int readFeetMany, .ref q10, .int readLog, .int readBlock, .ref q11, .int readStocking, .ref q12, .int lefts_, .int rights_, .ref q13, .ref q14, .ref q15, .ref q16, .ref q17])), (q1, .inl (cc 0, 10, .inl feet)), (q3, .inl (cc 0, 52, .inl st)), (q12, .inl (cc 0, 52, .inl w1)), (q17, .inl (cc 0, 1024, .inl a8))] H locs := hP
          have h := h a8 ev
          refine lv_iinc (v := (j3 + 1)) (lv' := [(2, .int (j3 + 1)), (0, .ref q0), (1, .int (1 <<< (v2 &&& 31)))]) hx hb dX10_served_35 hl (k := 2) rfl rfl (by decide) rfl (fun ls hl => ?_)
          refine lv_goto (tgt := 15) hx hb dX10_served_38 (by decide) ?_
          exact ih _ _ _ _ (lp_n h hz) H locs ls hP (lv_sub hl [1, 2, 0] rfl) KK
  refine L1 FU _ _ j3x w4x hlp H locs ls hP (lv_sub hl [2, 1, 0] rfl) (fun H locs ls hP hl => ?_)
  refine lv_iconst (v := 0) hx hb dX10_served_41 (by decide) ?_
  refine lv_istore_n (lv' := [(2, .int 0), (0, .ref q0), (1, .int (1 <<< (v2 &&& 31)))]) hx hb dX10_served_42 rfl hl (by decide) rfl (fun ls hl => ?_)
  obtain ⟨⟨j9x, w10x⟩, hlp, h⟩ := bnd_h h
  have L2 : ∀ (n : Nat) (j9 : Int32) (w10 : (Nat → Int32)) (j9x : Int32) (w10x : (Nat → Int32)), lp (u2 (b_X10_served_2 feet feetMany st stocking v2 w1)) n (j9, w10) = some (j9x, w10x) → ∀ (H : Heap) (locs : List Loc) (ls : Array Slot), PD (dC, dI) A s.heap [(q0, .inr (10, [.int feetMany, .ref q1, .int log_, .int block, .ref q2, .int stocking, .ref q3, .int acts, .ref q4, .int keeps, .ref q5, .int hears, .ref q6, .ref q7, .int texted, .int at_, .ref q8, .ref q9, .int readFeetMany, .ref q10, .int readLog, .int readBlock, .ref q11, .int readStocking, .ref q12, .int lefts_, .int rights_, .ref q13, .ref q14, .ref q15, .ref q16, .ref q17])), (q1, .inl (cc 0, 10, .inl feet)), (q3, .inl (cc 0, 52, .inl st)), (q12, .inl (cc 0, 52, .inl w1)), (q17, .inl (cc 0, 1024, .inl w10))] H locs → lv_has ls 4 [(0, .ref q0), (1, .int (1 <<< (v2 &&& 31))), (2, .int j9)] → (∀ (H : Heap) (locs : List Loc) (ls : Array Slot), PD (dC, dI) A s.heap [(q0, .inr (10, [.int feetMany, .ref q1, .int log_, .int block, .ref q2, .int stocking, .ref q3, .int acts, .ref q4, .int keeps, .ref q5, .int hears, .ref q6, .ref q7, .int texted, .int at_, .ref q8, .ref q9, .int readFeetMany, .ref q10, .int readLog, .int readBlock, .ref q11, .int readStocking, .ref q12, .int lefts_, .int rights_, .ref q13, .ref q14, .ref q15, .ref q16, .ref q17])), (q1, .inl (cc 0, 10, .inl feet)), (q3, .inl (cc 0, 52, .inl st)), (q12, .inl (cc 0, 52, .inl w1)), (q17, .inl (cc 0, 1024, .inl w10x))] H locs → lv_has ls 4 [(0, .ref q0), (1, .int (1 <<< (v2 &&& 31))), (2, .int j9x)] → W p l e ({ frames := 4, cells := 0, slots := 0, locals := 94 } : Room) s m ([.ref q0] : List Value).toArray below meth c H locs 0 0 Z (F0 m 86 ls [])) → W p l e ({ frames := 4, cells := 0, slots := 0, locals := 94 } : Room) s m ([.ref q0] : List Value).toArray below meth c H locs 0 0 Z (F0 m 43 ls []) := by
    intro n
    induction n with
    | zero => intro j9 w10 j9x w10x h; exact (lp_0 h).elim
    | succ n ih =>
      intro j9 w10 j9x w10x h H locs ls hP hl KK
      obtain ⟨y, h, hz⟩ := lp_h h
      refine lv_iload_n hx hb dX10_served_43 rfl (lv_at hl 2 rfl) ?_
      refine lv_aload_n hx hb dX10_served_44 rfl (lv_at hl 0 rfl) ?_
      refine g_get hC hP fg_X10_148 0 rfl rfl dX10_served_45 ?_
      refine lv_icmp_ge (tgt := 86) hx hb dX10_served_48 (by decide) (fun c11 => ?_) (fun c11 => ?_)
      · have h := if_t c11 h
        cases lp_e h hz
        exact KK H locs ls hP (lv_sub hl [0, 1, 2] rfl)
      · have h := if_f c11 h
        refine lv_iload_n hx hb dX10_served_51 rfl (lv_at hl 1 rfl) ?_
        refine lv_iconst (v := 1) hx hb dX10_served_52 (by decide) ?_
        refine lv_isub hx hb dX10_served_53 ?_
        refine lv_istore_n (lv' := [(3, .int ((1 <<< (v2 &&& 31)) - 1)), (0, .ref q0), (1, .int (1 <<< (v2 &&& 31))), (2, .int j9)]) hx hb dX10_served_54 rfl hl (by decide) rfl (fun ls hl => ?_)
        obtain ⟨⟨j12x, w13x⟩, hlp, h⟩ := bnd_h h
        have L3 : ∀ (n : Nat) (j12 : Int32) (w13 : (Nat → Int32)) (j12x : Int32) (w13x : (Nat → Int32)), lp (u2 (b_X10_served_3 feet j9 st stocking w1)) n (j12, w13) = some (j12x, w13x) → ∀ (H : Heap) (locs : List Loc) (ls : Array Slot), PD (dC, dI) A s.heap [(q0, .inr (10, [.int feetMany, .ref q1, .int log_, .int block, .ref q2, .int stocking, .ref q3, .int acts, .ref q4, .int keeps, .ref q5, .int hears, .ref q6, .ref q7, .int texted, .int at_, .ref q8, .ref q9, .int readFeetMany, .ref q10, .int readLog, .int readBlock, .ref q11, .int readStocking, .ref q12, .int lefts_, .int rights_, .ref q13, .ref q14, .ref q15, .ref q16, .ref q17])), (q1, .inl (cc 0, 10, .inl feet)), (q3, .inl (cc 0, 52, .inl st)), (q12, .inl (cc 0, 52, .inl w1)), (q17, .inl (cc 0, 1024, .inl w13))] H locs → lv_has ls 4 [(0, .ref q0), (1, .int (1 <<< (v2 &&& 31))), (2, .int j9), (3, .int j12)] → (∀ (H : Heap) (locs : List Loc) (ls : Array Slot), PD (dC, dI) A s.heap [(q0, .inr (10, [.int feetMany, .ref q1, .int log_, .int block, .ref q2, .int stocking, .ref q3, .int acts, .ref q4, .int keeps, .ref q5, .int hears, .ref q6, .ref q7, .int texted, .int at_, .ref q8, .ref q9, .int readFeetMany, .ref q10, .int readLog, .int readBlock, .ref q11, .int readStocking, .ref q12, .int lefts_, .int rights_, .ref q13, .ref q14, .ref q15, .ref q16, .ref q17])), (q1, .inl (cc 0, 10, .inl feet)), (q3, .inl (cc 0, 52, .inl st)), (q12, .inl (cc 0, 52, .inl w1)), (q17, .inl (cc 0, 1024, .inl w13x))] H locs → lv_has ls 4 [(0, .ref q0), (1, .int (1 <<< (v2 &&& 31))), (2, .int j9), (3, .int j12x)] → W p l e ({ frames := 4, cells := 0, slots := 0, locals := 94 } : Room) s m ([.ref q0] : List Value).toArray below meth c H locs 0 0 Z (F0 m 80 ls [])) → W p l e ({ frames := 4, cells := 0, slots := 0, locals := 94 } : Room) s m ([.ref q0] : List Value).toArray below meth c H locs 0 0 Z (F0 m 55 ls []) := by
          intro n
          induction n with
          | zero => intro j12 w13 j12x w13x h; exact (lp_0 h).elim
          | succ n ih =>
            intro j12 w13 j12x w13x h H locs ls hP hl KK
            obtain ⟨y, h, hz⟩ := lp_h h
            refine lv_iload_n hx hb dX10_served_55 rfl (lv_at hl 3 rfl) ?_
            refine lv_if_lt (tgt := 80) hx hb dX10_served_56 (by decide) (fun c14 => ?_) (fun c14 => ?_)
            · have h := if_t c14 h
              cases lp_e h hz
              exact KK H locs ls hP (lv_sub hl [0, 1, 2, 3] rfl)
            · have h := if_f c14 h
              refine lv_aload_n hx hb dX10_served_59 rfl (lv_at hl 0 rfl) ?_
              refine g_get hC hP fg_X10_59 0 rfl rfl dX10_served_60 ?_
              refine lv_iload_n hx hb dX10_served_63 rfl (lv_at hl 3 rfl) ?_
              obtain ⟨hin, h⟩ := rd_h h
              refine g_iald hC hP 4 0 rfl rfl hin dX10_served_64 (fun v15 ev => ?_)
              have h := h v15 ev
              refine lv_if_lt (tgt := 74) hx hb dX10_served_65 (by decide) (fun c16 => ?_) (fun c16 => ?_)
              · have h := if_t c16 h
                refine lv_iinc (v := (j12 + (-1))) (lv' := [(3, .int (j12 + (-1))), (0, .ref q0), (1, .int (1 <<< (v2 &&& 31))), (2, .int j9)]) hx hb dX10_served_74 hl (k := 3) rfl rfl (by decide) rfl (fun ls hl => ?_)
                refine lv_goto (tgt := 55) hx hb dX10_served_77 (by decide) ?_
                exact ih _ _ _ _ (lp_n h hz) H locs ls hP (lv_sub hl [1, 2, 3, 0] rfl) KK
              · have h := if_f c16 h
                refine lv_aload_n hx hb dX10_served_68 rfl (lv_at hl 0 rfl) ?_
                refine lv_iload_n hx hb dX10_served_69 rfl (lv_at hl 2 rfl) ?_
                refine lv_iload_n hx hb dX10_served_70 rfl (lv_at hl 3 rfl) ?_
                obtain ⟨w17, hu, h⟩ := bnd_h h
                refine kc_v (kV hC (c_X10_serveMore l dC dI cc q0 q1 q2 q3 q4 q5 q6 q7 q8 q9 q10 q11 q12 q13 q14 q15 q16 q17 feetMany log_ block stocking acts keeps hears texted at_ readFeetMany readLog readBlock readStocking lefts_ rights_ feet st w1 w13 j9 j12 H.size w17 hu) cv_X10_227 kw1076 rfl rfl ⟨(Nat.le_of_ble_eq_true rfl), (Nat.le_of_ble_eq_true rfl)⟩ hP [0, 1, 2, 3, 4] rfl rfl rfl (q0 := 0) rfl (As := [.int j9, .int j12]) (rest := []) rfl rfl hl.1 (Nat.le_of_ble_eq_true rfl) dX10_served_71 ⟨Nat.zero_le _, Nat.zero_le _⟩) hP hA [0, 1, 2, 3, 4] rfl rfl (fun H locs hP => ?_)
                have hP : PD (dC, dI) A s.heap [(q0, .inr (10, [.int feetMany, .ref q1, .int log_, .int block, .ref q2, .int stocking, .ref q3, .int acts, .ref q4, .int keeps, .ref q5, .int hears, .ref q6, .ref q7, .int texted, .int at_, .ref q8, .ref q9, .int readFeetMany, .ref q10, .int readLog, .int readBlock, .ref q11, .int readStocking, .ref q12, .int lefts_, .int rights_, .ref q13, .ref q14, .ref q15, .ref q16, .ref q17])), (q1, .inl (cc 0, 10, .inl feet)), (q3, .inl (cc 0, 52, .inl st)), (q12, .inl (cc 0, 52, .inl w1)), (q17, .inl (cc 0, 1024, .inl w17))] H locs := hP
                refine lv_iinc (v := (j12 + (-1))) (lv' := [(3, .int (j12 + (-1))), (0, .ref q0), (1, .int (1 <<< (v2 &&& 31))), (2, .int j9)]) hx hb dX10_served_74 hl (k := 3) rfl rfl (by decide) rfl (fun ls hl => ?_)
                refine lv_goto (tgt := 55) hx hb dX10_served_77 (by decide) ?_
                exact ih _ _ _ _ (lp_n h hz) H locs ls hP (lv_sub hl [1, 2, 3, 0] rfl) KK
        refine L3 FU _ _ j12x w13x hlp H locs ls hP (lv_sub hl [1, 2, 3, 0] rfl) (fun H locs ls hP hl => ?_)
        refine lv_iinc (v := (j9 + 1)) (lv' := [(2, .int (j9 + 1)), (0, .ref q0), (1, .int (1 <<< (v2 &&& 31))), (3, .int j12x)]) hx hb dX10_served_80 hl (k := 2) rfl rfl (by decide) rfl (fun ls hl => ?_)
        refine lv_goto (tgt := 43) hx hb dX10_served_83 (by decide) ?_
        exact ih _ _ _ _ (lp_n h hz) H locs ls hP (lv_sub hl [1, 2, 0] rfl) KK
  refine L2 FU _ _ j9x w10x hlp H locs ls hP (lv_sub hl [1, 2, 0] rfl) (fun H locs ls hP hl => ?_)
  refine lv_iconst (v := 0) hx hb dX10_served_86 (by decide) ?_
  refine lv_istore_n (lv' := [(2, .int 0), (0, .ref q0), (1, .int (1 <<< (v2 &&& 31)))]) hx hb dX10_served_87 rfl hl (by decide) rfl (fun ls hl => ?_)
  refine lv_iconst (v := 0) hx hb dX10_served_88 (by decide) ?_
  refine lv_istore_n (lv' := [(3, .int 0), (2, .int 0), (0, .ref q0), (1, .int (1 <<< (v2 &&& 31)))]) hx hb dX10_served_89 rfl hl (by decide) rfl (fun ls hl => ?_)
  obtain ⟨⟨j18x, j19x⟩, hlp, h⟩ := bnd_h h
  have L4 : ∀ (n : Nat) (j18 : Int32) (j19 : Int32) (j18x : Int32) (j19x : Int32), lp (u2 (b_X10_served_4 v2 w10x)) n (j18, j19) = some (j18x, j19x) → ∀ (H : Heap) (locs : List Loc) (ls : Array Slot), PD (dC, dI) A s.heap [(q0, .inr (10, [.int feetMany, .ref q1, .int log_, .int block, .ref q2, .int stocking, .ref q3, .int acts, .ref q4, .int keeps, .ref q5, .int hears, .ref q6, .ref q7, .int texted, .int at_, .ref q8, .ref q9, .int readFeetMany, .ref q10, .int readLog, .int readBlock, .ref q11, .int readStocking, .ref q12, .int lefts_, .int rights_, .ref q13, .ref q14, .ref q15, .ref q16, .ref q17])), (q1, .inl (cc 0, 10, .inl feet)), (q3, .inl (cc 0, 52, .inl st)), (q12, .inl (cc 0, 52, .inl w1)), (q17, .inl (cc 0, 1024, .inl w10x))] H locs → lv_has ls 4 [(0, .ref q0), (1, .int (1 <<< (v2 &&& 31))), (2, .int j18), (3, .int j19)] → (∀ (H : Heap) (locs : List Loc) (ls : Array Slot), PD (dC, dI) A s.heap [(q0, .inr (10, [.int feetMany, .ref q1, .int log_, .int block, .ref q2, .int stocking, .ref q3, .int acts, .ref q4, .int keeps, .ref q5, .int hears, .ref q6, .ref q7, .int texted, .int at_, .ref q8, .ref q9, .int readFeetMany, .ref q10, .int readLog, .int readBlock, .ref q11, .int readStocking, .ref q12, .int lefts_, .int rights_, .ref q13, .ref q14, .ref q15, .ref q16, .ref q17])), (q1, .inl (cc 0, 10, .inl feet)), (q3, .inl (cc 0, 52, .inl st)), (q12, .inl (cc 0, 52, .inl w1)), (q17, .inl (cc 0, 1024, .inl w10x))] H locs → lv_has ls 4 [(0, .ref q0), (1, .int (1 <<< (v2 &&& 31))), (2, .int j18x), (3, .int j19x)] → W p l e ({ frames := 4, cells := 0, slots := 0, locals := 94 } : Room) s m ([.ref q0] : List Value).toArray below meth c H locs 0 0 Z (F0 m 122 ls [])) → W p l e ({ frames := 4, cells := 0, slots := 0, locals := 94 } : Room) s m ([.ref q0] : List Value).toArray below meth c H locs 0 0 Z (F0 m 90 ls []) := by
    intro n
    induction n with
    | zero => intro j18 j19 j18x j19x h; exact (lp_0 h).elim
    | succ n ih =>
      intro j18 j19 j18x j19x h H locs ls hP hl KK
      obtain ⟨y, h, hz⟩ := lp_h h
      refine lv_iload_n hx hb dX10_served_90 rfl (lv_at hl 3 rfl) ?_
      refine lv_iload_n hx hb dX10_served_91 rfl (lv_at hl 1 rfl) ?_
      refine lv_icmp_ge (tgt := 122) hx hb dX10_served_92 (by decide) (fun c20 => ?_) (fun c20 => ?_)
      · have h := if_t c20 h
        cases lp_e h hz
        exact KK H locs ls hP (lv_sub hl [0, 1, 2, 3] rfl)
      · have h := if_f c20 h
        refine lv_aload_n hx hb dX10_served_95 rfl (lv_at hl 0 rfl) ?_
        refine g_get hC hP fg_X10_59 0 rfl rfl dX10_served_96 ?_
        refine lv_iload_n hx hb dX10_served_99 rfl (lv_at hl 3 rfl) ?_
        obtain ⟨hin, h⟩ := rd_h h
        refine g_iald hC hP 4 0 rfl rfl hin dX10_served_100 (fun v21 ev => ?_)
        have h := h v21 ev
        refine lv_iload_n hx hb dX10_served_101 rfl (lv_at hl 2 rfl) ?_
        refine lv_icmp_le (tgt := 114) hx hb dX10_served_102 (by decide) (fun c22 => ?_) (fun c22 => ?_)
        · have h := if_t c22 h
          refine lv_iload_n hx hb dX10_served_114 rfl (lv_at hl 2 rfl) ?_
          refine lv_istore_n (lv' := [(2, .int j18), (0, .ref q0), (1, .int (1 <<< (v2 &&& 31))), (3, .int j19)]) hx hb dX10_served_115 rfl hl (by decide) rfl (fun ls hl => ?_)
          refine lv_iinc (v := (j19 + 1)) (lv' := [(3, .int (j19 + 1)), (2, .int j18), (0, .ref q0), (1, .int (1 <<< (v2 &&& 31)))]) hx hb dX10_served_116 hl (k := 3) rfl rfl (by decide) rfl (fun ls hl => ?_)
          refine lv_goto (tgt := 90) hx hb dX10_served_119 (by decide) ?_
          exact ih _ _ _ _ (lp_n h hz) H locs ls hP (lv_sub hl [2, 3, 1, 0] rfl) KK
        · have h := if_f c22 h
          refine lv_aload_n hx hb dX10_served_105 rfl (lv_at hl 0 rfl) ?_
          refine g_get hC hP fg_X10_59 0 rfl rfl dX10_served_106 ?_
          refine lv_iload_n hx hb dX10_served_109 rfl (lv_at hl 3 rfl) ?_
          obtain ⟨hin, h⟩ := rd_h h
          refine g_iald hC hP 4 0 rfl rfl hin dX10_served_110 (fun v23 ev => ?_)
          have h := h v23 ev
          refine lv_goto (tgt := 115) hx hb dX10_served_111 (by decide) ?_
          refine lv_istore_n (lv' := [(2, .int v23), (0, .ref q0), (1, .int (1 <<< (v2 &&& 31))), (3, .int j19)]) hx hb dX10_served_115 rfl hl (by decide) rfl (fun ls hl => ?_)
          refine lv_iinc (v := (j19 + 1)) (lv' := [(3, .int (j19 + 1)), (2, .int v23), (0, .ref q0), (1, .int (1 <<< (v2 &&& 31)))]) hx hb dX10_served_116 hl (k := 3) rfl rfl (by decide) rfl (fun ls hl => ?_)
          refine lv_goto (tgt := 90) hx hb dX10_served_119 (by decide) ?_
          exact ih _ _ _ _ (lp_n h hz) H locs ls hP (lv_sub hl [2, 3, 1, 0] rfl) KK
  refine L4 FU _ _ j18x j19x hlp H locs ls hP (lv_sub hl [2, 3, 1, 0] rfl) (fun H locs ls hP hl => ?_)
  refine lv_iload_n hx hb dX10_served_122 rfl (lv_at hl 2 rfl) ?_
  rw [eZ]
  exact ret_i hC hr hlk hP dX10_served_123 (w1, w10x) (Prod.mk.inj (Option.some.inj h)) rfl
