set_option maxHeartbeats 8000000 in
set_option maxRecDepth 100000 in
theorem c_X10_whose (l : Launch) (dC : Nat → ClassId) (dI : Nat → Nat → Nat) (cc : Nat → ClassId) (q0 q1 q2 q3 q4 q5 q6 q7 q8 q9 q10 q11 q12 q13 q14 q15 q16 q17 : Nat) (feetMany : Int32) (log_ : Int32) (block : Int32) (stocking : Int32) (acts : Int32) (keeps : Int32) (hears : Int32) (texted : Int32) (at_ : Int32) (readFeetMany : Int32) (readLog : Int32) (readBlock : Int32) (readStocking : Int32) (lefts_ : Int32) (rights_ : Int32) (feet : (Nat → Int32)) (st : (Nat → Int32)) (now_ : (Nat → Int32)) (x1 : Int32) (sz : Nat) (ret : Int32) (o_now_ : (Nat → Int32)) (hu : f_X10_whose x1 feetMany stocking feet st now_ = some (ret, o_now_)) : Met l yX10_whose (mw yX10_whose cX10_whose 4 (some .int)) ({ frames := 3, cells := 0, slots := 0, locals := 68 } : Room) (va_Pc [.ref q0, .int x1] (mP (dC, dI) (ts cc) sz [(q0, .inr (10, [.int feetMany, .ref q1, .int log_, .int block, .ref q2, .int stocking, .ref q3, .int acts, .ref q4, .int keeps, .ref q5, .int hears, .ref q6, .ref q7, .int texted, .int at_, .ref q8, .ref q9, .int readFeetMany, .ref q10, .int readLog, .int readBlock, .ref q11, .int readStocking, .ref q12, .int lefts_, .int rights_, .ref q13, .ref q14, .ref q15, .ref q16, .ref q17])), (q1, .inl (cc 0, 10, .inl feet)), (q3, .inl (cc 0, 52, .inl st)), (q12, .inl (cc 0, 52, .inl now_))])) ((fun A => va_Qi (fun (r : Int32) (w : (Nat → Int32)) => r = ret ∧ w = o_now_) (fun (w : (Nat → Int32)) t => va_P (dC, dI) classes [(q0, .inr (10, [.int feetMany, .ref q1, .int log_, .int block, .ref q2, .int stocking, .ref q3, .int acts, .ref q4, .int keeps, .ref q5, .int hears, .ref q6, .ref q7, .int texted, .int at_, .ref q8, .ref q9, .int readFeetMany, .ref q10, .int readLog, .int readBlock, .ref q11, .int readStocking, .ref q12, .int lefts_, .int rights_, .ref q13, .ref q14, .ref q15, .ref q16, .ref q17])), (q1, .inl (cc 0, 10, .inl feet)), (q3, .inl (cc 0, 52, .inl st)), (q12, .inl (cc 0, 52, .inl w))] t.heap) A) (va_A [(q0, .inr (10, [.int feetMany, .ref q1, .int log_, .int block, .ref q2, .int stocking, .ref q3, .int acts, .ref q4, .int keeps, .ref q5, .int hears, .ref q6, .ref q7, .int texted, .int at_, .ref q8, .ref q9, .int readFeetMany, .ref q10, .int readLog, .int readBlock, .ref q11, .int readStocking, .ref q12, .int lefts_, .int rights_, .ref q13, .ref q14, .ref q15, .ref q16, .ref q17])), (q1, .inl (cc 0, 10, .inl feet)), (q3, .inl (cc 0, 52, .inl st)), (q12, .inl (cc 0, 52, .inl now_))] sz)) 0 0 (va_A [(q0, .inr (10, [.int feetMany, .ref q1, .int log_, .int block, .ref q2, .int stocking, .ref q3, .int acts, .ref q4, .int keeps, .ref q5, .int hears, .ref q6, .ref q7, .int texted, .int at_, .ref q8, .ref q9, .int readFeetMany, .ref q10, .int readLog, .int readBlock, .ref q11, .int readStocking, .ref q12, .int lefts_, .int rights_, .ref q13, .ref q14, .ref q15, .ref q16, .ref q17])), (q1, .inl (cc 0, 10, .inl feet)), (q3, .inl (cc 0, 52, .inl st)), (q12, .inl (cc 0, 52, .inl now_))] sz) := by
  refine met_go (Qc := fun A => va_Qi (fun (r : Int32) (w : (Nat → Int32)) => r = ret ∧ w = o_now_) (fun (w : (Nat → Int32)) t => va_P (dC, dI) classes [(q0, .inr (10, [.int feetMany, .ref q1, .int log_, .int block, .ref q2, .int stocking, .ref q3, .int acts, .ref q4, .int keeps, .ref q5, .int hears, .ref q6, .ref q7, .int texted, .int at_, .ref q8, .ref q9, .int readFeetMany, .ref q10, .int readLog, .int readBlock, .ref q11, .int readStocking, .ref q12, .int lefts_, .int rights_, .ref q13, .ref q14, .ref q15, .ref q16, .ref q17])), (q1, .inl (cc 0, 10, .inl feet)), (q3, .inl (cc 0, 52, .inl st)), (q12, .inl (cc 0, 52, .inl w))] t.heap) A) (by decide) (Nat.le_of_ble_eq_true rfl) ?_
  intro p e s m below meth c A ls H locs hC hr hlk hin hA hP hl _
  have hC : CX p m c cX10_whose 4 s ([.ref q0, .int x1] : List Value).toArray RX10 (dC, dI) (ts cc) := hC
  have hx := hC.1.1
  have hb := hC.1.2
  have h := hu
  have hu0 := hu
  unfold f_X10_whose at h
  have hl : lv_has ls 4 [(0, .ref q0), (1, .int x1)] := hl
  refine W_abs (fun Z eZ => ?_)
  refine lv_aload_n hx hb dX10_whose_0 rfl (lv_at hl 0 rfl) ?_
  refine lv_iload_n hx hb dX10_whose_1 rfl (lv_at hl 1 rfl) ?_
  obtain ⟨r1, hu, h⟩ := bnd_h h
  refine kc_z (kV hC (c_X10_isClog l dC dI cc q0 q1 q2 q3 q4 q5 q6 q7 q8 q9 q10 q11 q12 q13 q14 q15 q16 q17 feetMany log_ block stocking acts keeps hears texted at_ readFeetMany readLog readBlock readStocking lefts_ rights_ st x1 H.size r1 hu) cv_X10_188 kw975 rfl rfl ⟨(Nat.le_of_ble_eq_true rfl), (Nat.le_of_ble_eq_true rfl)⟩ hP [0, 2] rfl rfl rfl (q0 := 0) rfl (As := [.int x1]) (rest := []) rfl rfl hl.1 (Nat.le_of_ble_eq_true rfl) dX10_whose_2 ⟨Nat.zero_le _, Nat.zero_le _⟩) hP hA [0, 2] rfl rfl (fun hz_r1 H locs hP => ?_)
  have hP : PD (dC, dI) A s.heap [(q0, .inr (10, [.int feetMany, .ref q1, .int log_, .int block, .ref q2, .int stocking, .ref q3, .int acts, .ref q4, .int keeps, .ref q5, .int hears, .ref q6, .ref q7, .int texted, .int at_, .ref q8, .ref q9, .int readFeetMany, .ref q10, .int readLog, .int readBlock, .ref q11, .int readStocking, .ref q12, .int lefts_, .int rights_, .ref q13, .ref q14, .ref q15, .ref q16, .ref q17])), (q1, .inl (cc 0, 10, .inl feet)), (q3, .inl (cc 0, 52, .inl st)), (q12, .inl (cc 0, 52, .inl now_))] H locs := hP
  refine lv_if_ne (tgt := 10) hx hb dX10_whose_5 (by decide) (fun c2 => ?_) (fun c2 => ?_)
  · have h := if_f c2 h
    refine lv_aload_n hx hb dX10_whose_10 rfl (lv_at hl 0 rfl) ?_
    obtain ⟨w3, hu, h⟩ := bnd_h h
    refine kc_v (kV hC (c_X10_asItIs l dC dI cc q0 q1 q2 q3 q4 q5 q6 q7 q8 q9 q10 q11 q12 q13 q14 q15 q16 q17 feetMany log_ block stocking acts keeps hears texted at_ readFeetMany readLog readBlock readStocking lefts_ rights_ st now_ H.size w3 hu) cv_X10_191 kw979 rfl rfl ⟨(Nat.le_of_ble_eq_true rfl), (Nat.le_of_ble_eq_true rfl)⟩ hP [0, 2, 3] rfl rfl rfl (q0 := 0) rfl (As := []) (rest := []) rfl rfl hl.1 (Nat.le_of_ble_eq_true rfl) dX10_whose_11 ⟨Nat.zero_le _, Nat.zero_le _⟩) hP hA [0, 2, 3] rfl rfl (fun H locs hP => ?_)
    have hP : PD (dC, dI) A s.heap [(q0, .inr (10, [.int feetMany, .ref q1, .int log_, .int block, .ref q2, .int stocking, .ref q3, .int acts, .ref q4, .int keeps, .ref q5, .int hears, .ref q6, .ref q7, .int texted, .int at_, .ref q8, .ref q9, .int readFeetMany, .ref q10, .int readLog, .int readBlock, .ref q11, .int readStocking, .ref q12, .int lefts_, .int rights_, .ref q13, .ref q14, .ref q15, .ref q16, .ref q17])), (q1, .inl (cc 0, 10, .inl feet)), (q3, .inl (cc 0, 52, .inl st)), (q12, .inl (cc 0, 52, .inl w3))] H locs := hP
    refine lv_iconst (v := 0) hx hb dX10_whose_14 (by decide) ?_
    refine lv_istore_n (lv' := [(2, .int 0), (0, .ref q0), (1, .int x1)]) hx hb dX10_whose_15 rfl hl (by decide) rfl (fun ls hl => ?_)
    refine lv_iconst (v := 0) hx hb dX10_whose_16 (by decide) ?_
    refine lv_istore_n (lv' := [(3, .int 0), (2, .int 0), (0, .ref q0), (1, .int x1)]) hx hb dX10_whose_17 rfl hl (by decide) rfl (fun ls hl => ?_)
    obtain ⟨⟨j4x, j5x⟩, hlp, h⟩ := bnd_h h
    have L1 : ∀ (n : Nat) (j4 : Int32) (j5 : Int32) (j4x : Int32) (j5x : Int32), lp (u2 (b_X10_whose_1 feet feetMany stocking w3 x1)) n (j4, j5) = some (j4x, j5x) → ∀ (H : Heap) (locs : List Loc) (ls : Array Slot), PD (dC, dI) A s.heap [(q0, .inr (10, [.int feetMany, .ref q1, .int log_, .int block, .ref q2, .int stocking, .ref q3, .int acts, .ref q4, .int keeps, .ref q5, .int hears, .ref q6, .ref q7, .int texted, .int at_, .ref q8, .ref q9, .int readFeetMany, .ref q10, .int readLog, .int readBlock, .ref q11, .int readStocking, .ref q12, .int lefts_, .int rights_, .ref q13, .ref q14, .ref q15, .ref q16, .ref q17])), (q1, .inl (cc 0, 10, .inl feet)), (q3, .inl (cc 0, 52, .inl st)), (q12, .inl (cc 0, 52, .inl w3))] H locs → lv_has ls 4 [(0, .ref q0), (1, .int x1), (2, .int j4), (3, .int j5)] → (∀ (H : Heap) (locs : List Loc) (ls : Array Slot), PD (dC, dI) A s.heap [(q0, .inr (10, [.int feetMany, .ref q1, .int log_, .int block, .ref q2, .int stocking, .ref q3, .int acts, .ref q4, .int keeps, .ref q5, .int hears, .ref q6, .ref q7, .int texted, .int at_, .ref q8, .ref q9, .int readFeetMany, .ref q10, .int readLog, .int readBlock, .ref q11, .int readStocking, .ref q12, .int lefts_, .int rights_, .ref q13, .ref q14, .ref q15, .ref q16, .ref q17])), (q1, .inl (cc 0, 10, .inl feet)), (q3, .inl (cc 0, 52, .inl st)), (q12, .inl (cc 0, 52, .inl w3))] H locs → lv_has ls 4 [(0, .ref q0), (1, .int x1), (2, .int j4x), (3, .int j5x)] → W p l e ({ frames := 3, cells := 0, slots := 0, locals := 68 } : Room) s m ([.ref q0, .int x1] : List Value).toArray below meth c H locs 0 0 Z (F0 m 56 ls [])) → W p l e ({ frames := 3, cells := 0, slots := 0, locals := 68 } : Room) s m ([.ref q0, .int x1] : List Value).toArray below meth c H locs 0 0 Z (F0 m 18 ls []) := by
      intro n
      induction n with
      | zero => intro j4 j5 j4x j5x h; exact (lp_0 h).elim
      | succ n ih =>
        intro j4 j5 j4x j5x h H locs ls hP hl KK
        obtain ⟨y, h, hz⟩ := lp_h h
        refine lv_iload_n hx hb dX10_whose_18 rfl (lv_at hl 3 rfl) ?_
        refine lv_aload_n hx hb dX10_whose_19 rfl (lv_at hl 0 rfl) ?_
        refine g_get hC hP fg_X10_148 0 rfl rfl dX10_whose_20 ?_
        refine lv_icmp_ge (tgt := 56) hx hb dX10_whose_23 (by decide) (fun c6 => ?_) (fun c6 => ?_)
        · have h := if_t c6 h
          cases lp_e h hz
          exact KK H locs ls hP (lv_sub hl [0, 1, 2, 3] rfl)
        · have h := if_f c6 h
          refine lv_iload_n hx hb dX10_whose_26 rfl (lv_at hl 2 rfl) ?_
          refine lv_aload_n hx hb dX10_whose_27 rfl (lv_at hl 0 rfl) ?_
          refine lv_iload_n hx hb dX10_whose_28 rfl (lv_at hl 1 rfl) ?_
          refine lv_iload_n hx hb dX10_whose_29 rfl (lv_at hl 3 rfl) ?_
          refine lv_aload_n hx hb dX10_whose_30 rfl (lv_at hl 0 rfl) ?_
          refine lv_iload_n hx hb dX10_whose_31 rfl (lv_at hl 1 rfl) ?_
          obtain ⟨r7, hu, h⟩ := bnd_h h
          refine kc_i (kV hC (c_X10_sideOf l dC dI cc q0 q1 q2 q3 q4 q5 q6 q7 q8 q9 q10 q11 q12 q13 q14 q15 q16 q17 feetMany log_ block stocking acts keeps hears texted at_ readFeetMany readLog readBlock readStocking lefts_ rights_ w3 x1 H.size r7 hu) cv_X10_175 kw987 rfl rfl ⟨(Nat.le_of_ble_eq_true rfl), (Nat.le_of_ble_eq_true rfl)⟩ hP [0, 3] rfl rfl rfl (q0 := 0) rfl (As := [.int x1]) (rest := [.int j5, .int x1, .ref q0, .int j4]) rfl rfl hl.1 (Nat.le_of_ble_eq_true rfl) dX10_whose_32 ⟨Nat.zero_le _, Nat.zero_le _⟩) hP hA [0, 3] rfl rfl (fun H locs hP => ?_)
          have hP : PD (dC, dI) A s.heap [(q0, .inr (10, [.int feetMany, .ref q1, .int log_, .int block, .ref q2, .int stocking, .ref q3, .int acts, .ref q4, .int keeps, .ref q5, .int hears, .ref q6, .ref q7, .int texted, .int at_, .ref q8, .ref q9, .int readFeetMany, .ref q10, .int readLog, .int readBlock, .ref q11, .int readStocking, .ref q12, .int lefts_, .int rights_, .ref q13, .ref q14, .ref q15, .ref q16, .ref q17])), (q1, .inl (cc 0, 10, .inl feet)), (q3, .inl (cc 0, 52, .inl st)), (q12, .inl (cc 0, 52, .inl w3))] H locs := hP
          obtain ⟨r8, hu, h⟩ := bnd_h h
          refine kc_z (kV hC (c_X10_fits l dC dI cc q0 q1 q2 q3 q4 q5 q6 q7 q8 q9 q10 q11 q12 q13 q14 q15 q16 q17 feetMany log_ block stocking acts keeps hears texted at_ readFeetMany readLog readBlock readStocking lefts_ rights_ feet w3 x1 j5 r7 H.size r8 hu) cv_X10_230 kw1080 rfl rfl ⟨(Nat.le_of_ble_eq_true rfl), (Nat.le_of_ble_eq_true rfl)⟩ hP [0, 1, 3] rfl rfl rfl (q0 := 0) rfl (As := [.int x1, .int j5, .int r7]) (rest := [.int j4]) rfl rfl hl.1 (Nat.le_of_ble_eq_true rfl) dX10_whose_35 ⟨Nat.zero_le _, Nat.zero_le _⟩) hP hA [0, 1, 3] rfl rfl (fun hz_r8 H locs hP => ?_)
          have hP : PD (dC, dI) A s.heap [(q0, .inr (10, [.int feetMany, .ref q1, .int log_, .int block, .ref q2, .int stocking, .ref q3, .int acts, .ref q4, .int keeps, .ref q5, .int hears, .ref q6, .ref q7, .int texted, .int at_, .ref q8, .ref q9, .int readFeetMany, .ref q10, .int readLog, .int readBlock, .ref q11, .int readStocking, .ref q12, .int lefts_, .int rights_, .ref q13, .ref q14, .ref q15, .ref q16, .ref q17])), (q1, .inl (cc 0, 10, .inl feet)), (q3, .inl (cc 0, 52, .inl st)), (q12, .inl (cc 0, 52, .inl w3))] H locs := hP
          refine lv_if_eq (tgt := 47) hx hb dX10_whose_38 (by decide) (fun c9 => ?_) (fun c9 => ?_)
          · have h := if_t c9 h
            refine lv_iconst (v := 0) hx hb dX10_whose_47 (by decide) ?_
            refine lv_ior hx hb dX10_whose_48 ?_
            refine lv_istore_n (lv' := [(2, .int (j4 ||| 0)), (0, .ref q0), (1, .int x1), (3, .int j5)]) hx hb dX10_whose_49 rfl hl (by decide) rfl (fun ls hl => ?_)
            refine lv_iinc (v := (j5 + 1)) (lv' := [(3, .int (j5 + 1)), (2, .int (j4 ||| 0)), (0, .ref q0), (1, .int x1)]) hx hb dX10_whose_50 hl (k := 3) rfl rfl (by decide) rfl (fun ls hl => ?_)
            refine lv_goto (tgt := 18) hx hb dX10_whose_53 (by decide) ?_
            exact ih _ _ _ _ (lp_n h hz) H locs ls hP (lv_sub hl [2, 3, 1, 0] rfl) KK
          · have h := if_f c9 h
            refine lv_iconst (v := 1) hx hb dX10_whose_41 (by decide) ?_
            refine lv_iload_n hx hb dX10_whose_42 rfl (lv_at hl 3 rfl) ?_
            refine lv_ishl hx hb dX10_whose_43 ?_
            refine lv_goto (tgt := 48) hx hb dX10_whose_44 (by decide) ?_
            refine lv_ior hx hb dX10_whose_48 ?_
            refine lv_istore_n (lv' := [(2, .int (j4 ||| (1 <<< (j5 &&& 31)))), (0, .ref q0), (1, .int x1), (3, .int j5)]) hx hb dX10_whose_49 rfl hl (by decide) rfl (fun ls hl => ?_)
            refine lv_iinc (v := (j5 + 1)) (lv' := [(3, .int (j5 + 1)), (2, .int (j4 ||| (1 <<< (j5 &&& 31)))), (0, .ref q0), (1, .int x1)]) hx hb dX10_whose_50 hl (k := 3) rfl rfl (by decide) rfl (fun ls hl => ?_)
            refine lv_goto (tgt := 18) hx hb dX10_whose_53 (by decide) ?_
            exact ih _ _ _ _ (lp_n h hz) H locs ls hP (lv_sub hl [2, 3, 1, 0] rfl) KK
    refine L1 FU _ _ j4x j5x hlp H locs ls hP (lv_sub hl [2, 3, 1, 0] rfl) (fun H locs ls hP hl => ?_)
    refine lv_iload_n hx hb dX10_whose_56 rfl (lv_at hl 2 rfl) ?_
    rw [eZ]
    exact ret_i hC hr hlk hP dX10_whose_57 w3 (Prod.mk.inj (Option.some.inj h)) rfl
  · have h := if_t c2 h
    refine lv_iconst (v := -1) hx hb dX10_whose_8 (by decide) ?_
    rw [eZ]
    exact ret_i hC hr hlk hP dX10_whose_9 now_ (Prod.mk.inj (Option.some.inj h)) rfl
set_option maxHeartbeats 8000000 in
set_option maxRecDepth 100000 in
theorem c_X10_alikeBy (l : Launch) (dC : Nat → ClassId) (dI : Nat → Nat → Nat) (cc : Nat → ClassId) (q0 q1 q2 q3 q4 q5 q6 q7 q8 q9 q10 q11 q12 q13 q14 q15 q16 q17 : Nat) (feetMany : Int32) (log_ : Int32) (block : Int32) (stocking : Int32) (acts : Int32) (keeps : Int32) (hears : Int32) (texted : Int32) (at_ : Int32) (readFeetMany : Int32) (readLog : Int32) (readBlock : Int32) (readStocking : Int32) (lefts_ : Int32) (rights_ : Int32) (st : (Nat → Int32)) (now_ : (Nat → Int32)) (x1 : Int32) (x2 : Int32) (sz : Nat) (ret : Int32) (o_now_ : (Nat → Int32)) (hu : f_X10_alikeBy x1 x2 st now_ = some (ret, o_now_)) : Met l yX10_alikeBy (mw yX10_alikeBy cX10_alikeBy 4 (some .int)) ({ frames := 3, cells := 0, slots := 0, locals := 66 } : Room) (va_Pc [.ref q0, .int x1, .int x2] (mP (dC, dI) (ts cc) sz [(q0, .inr (10, [.int feetMany, .ref q1, .int log_, .int block, .ref q2, .int stocking, .ref q3, .int acts, .ref q4, .int keeps, .ref q5, .int hears, .ref q6, .ref q7, .int texted, .int at_, .ref q8, .ref q9, .int readFeetMany, .ref q10, .int readLog, .int readBlock, .ref q11, .int readStocking, .ref q12, .int lefts_, .int rights_, .ref q13, .ref q14, .ref q15, .ref q16, .ref q17])), (q3, .inl (cc 0, 52, .inl st)), (q12, .inl (cc 0, 52, .inl now_))])) ((fun A => va_Qi (fun (r : Int32) (w : (Nat → Int32)) => r = ret ∧ w = o_now_) (fun (w : (Nat → Int32)) t => va_P (dC, dI) classes [(q0, .inr (10, [.int feetMany, .ref q1, .int log_, .int block, .ref q2, .int stocking, .ref q3, .int acts, .ref q4, .int keeps, .ref q5, .int hears, .ref q6, .ref q7, .int texted, .int at_, .ref q8, .ref q9, .int readFeetMany, .ref q10, .int readLog, .int readBlock, .ref q11, .int readStocking, .ref q12, .int lefts_, .int rights_, .ref q13, .ref q14, .ref q15, .ref q16, .ref q17])), (q3, .inl (cc 0, 52, .inl st)), (q12, .inl (cc 0, 52, .inl w))] t.heap) A) (va_A [(q0, .inr (10, [.int feetMany, .ref q1, .int log_, .int block, .ref q2, .int stocking, .ref q3, .int acts, .ref q4, .int keeps, .ref q5, .int hears, .ref q6, .ref q7, .int texted, .int at_, .ref q8, .ref q9, .int readFeetMany, .ref q10, .int readLog, .int readBlock, .ref q11, .int readStocking, .ref q12, .int lefts_, .int rights_, .ref q13, .ref q14, .ref q15, .ref q16, .ref q17])), (q3, .inl (cc 0, 52, .inl st)), (q12, .inl (cc 0, 52, .inl now_))] sz)) 0 0 (va_A [(q0, .inr (10, [.int feetMany, .ref q1, .int log_, .int block, .ref q2, .int stocking, .ref q3, .int acts, .ref q4, .int keeps, .ref q5, .int hears, .ref q6, .ref q7, .int texted, .int at_, .ref q8, .ref q9, .int readFeetMany, .ref q10, .int readLog, .int readBlock, .ref q11, .int readStocking, .ref q12, .int lefts_, .int rights_, .ref q13, .ref q14, .ref q15, .ref q16, .ref q17])), (q3, .inl (cc 0, 52, .inl st)), (q12, .inl (cc 0, 52, .inl now_))] sz) := by
  refine met_go (Qc := fun A => va_Qi (fun (r : Int32) (w : (Nat → Int32)) => r = ret ∧ w = o_now_) (fun (w : (Nat → Int32)) t => va_P (dC, dI) classes [(q0, .inr (10, [.int feetMany, .ref q1, .int log_, .int block, .ref q2, .int stocking, .ref q3, .int acts, .ref q4, .int keeps, .ref q5, .int hears, .ref q6, .ref q7, .int texted, .int at_, .ref q8, .ref q9, .int readFeetMany, .ref q10, .int readLog, .int readBlock, .ref q11, .int readStocking, .ref q12, .int lefts_, .int rights_, .ref q13, .ref q14, .ref q15, .ref q16, .ref q17])), (q3, .inl (cc 0, 52, .inl st)), (q12, .inl (cc 0, 52, .inl w))] t.heap) A) (by decide) (Nat.le_of_ble_eq_true rfl) ?_
  intro p e s m below meth c A ls H locs hC hr hlk hin hA hP hl _
  have hC : CX p m c cX10_alikeBy 4 s ([.ref q0, .int x1, .int x2] : List Value).toArray RX10 (dC, dI) (ts cc) := hC
  have hx := hC.1.1
  have hb := hC.1.2
  have h := hu
  have hu0 := hu
  unfold f_X10_alikeBy at h
  have hl : lv_has ls 4 [(0, .ref q0), (1, .int x1), (2, .int x2)] := hl
  refine W_abs (fun Z eZ => ?_)
  refine lv_aload_n hx hb dX10_alikeBy_0 rfl (lv_at hl 0 rfl) ?_
  refine lv_iload_n hx hb dX10_alikeBy_1 rfl (lv_at hl 1 rfl) ?_
  obtain ⟨r1, hu, h⟩ := bnd_h h
  refine kc_z (kV hC (c_X10_isClog l dC dI cc q0 q1 q2 q3 q4 q5 q6 q7 q8 q9 q10 q11 q12 q13 q14 q15 q16 q17 feetMany log_ block stocking acts keeps hears texted at_ readFeetMany readLog readBlock readStocking lefts_ rights_ st x1 H.size r1 hu) cv_X10_188 kw975 rfl rfl ⟨(Nat.le_of_ble_eq_true rfl), (Nat.le_of_ble_eq_true rfl)⟩ hP [0, 1] rfl rfl rfl (q0 := 0) rfl (As := [.int x1]) (rest := []) rfl rfl hl.1 (Nat.le_of_ble_eq_true rfl) dX10_alikeBy_2 ⟨Nat.zero_le _, Nat.zero_le _⟩) hP hA [0, 1] rfl rfl (fun hz_r1 H locs hP => ?_)
  have hP : PD (dC, dI) A s.heap [(q0, .inr (10, [.int feetMany, .ref q1, .int log_, .int block, .ref q2, .int stocking, .ref q3, .int acts, .ref q4, .int keeps, .ref q5, .int hears, .ref q6, .ref q7, .int texted, .int at_, .ref q8, .ref q9, .int readFeetMany, .ref q10, .int readLog, .int readBlock, .ref q11, .int readStocking, .ref q12, .int lefts_, .int rights_, .ref q13, .ref q14, .ref q15, .ref q16, .ref q17])), (q3, .inl (cc 0, 52, .inl st)), (q12, .inl (cc 0, 52, .inl now_))] H locs := hP
  refine lv_if_eq (tgt := 16) hx hb dX10_alikeBy_5 (by decide) (fun c2 => ?_) (fun c2 => ?_)
  · have h := if_t c2 h
    refine lv_iconst (v := -1) hx hb dX10_alikeBy_16 (by decide) ?_
    rw [eZ]
    exact ret_i hC hr hlk hP dX10_alikeBy_17 now_ (Prod.mk.inj (Option.some.inj h)) rfl
  · have h := if_f c2 h
    refine lv_aload_n hx hb dX10_alikeBy_8 rfl (lv_at hl 0 rfl) ?_
    refine lv_iload_n hx hb dX10_alikeBy_9 rfl (lv_at hl 2 rfl) ?_
    obtain ⟨r3, hu, h⟩ := bnd_h h
    refine kc_z (kV hC (c_X10_isClog l dC dI cc q0 q1 q2 q3 q4 q5 q6 q7 q8 q9 q10 q11 q12 q13 q14 q15 q16 q17 feetMany log_ block stocking acts keeps hears texted at_ readFeetMany readLog readBlock readStocking lefts_ rights_ st x2 H.size r3 hu) cv_X10_188 kw975 rfl rfl ⟨(Nat.le_of_ble_eq_true rfl), (Nat.le_of_ble_eq_true rfl)⟩ hP [0, 1] rfl rfl rfl (q0 := 0) rfl (As := [.int x2]) (rest := []) rfl rfl hl.1 (Nat.le_of_ble_eq_true rfl) dX10_alikeBy_10 ⟨Nat.zero_le _, Nat.zero_le _⟩) hP hA [0, 1] rfl rfl (fun hz_r3 H locs hP => ?_)
    have hP : PD (dC, dI) A s.heap [(q0, .inr (10, [.int feetMany, .ref q1, .int log_, .int block, .ref q2, .int stocking, .ref q3, .int acts, .ref q4, .int keeps, .ref q5, .int hears, .ref q6, .ref q7, .int texted, .int at_, .ref q8, .ref q9, .int readFeetMany, .ref q10, .int readLog, .int readBlock, .ref q11, .int readStocking, .ref q12, .int lefts_, .int rights_, .ref q13, .ref q14, .ref q15, .ref q16, .ref q17])), (q3, .inl (cc 0, 52, .inl st)), (q12, .inl (cc 0, 52, .inl now_))] H locs := hP
    refine lv_if_ne (tgt := 18) hx hb dX10_alikeBy_13 (by decide) (fun c4 => ?_) (fun c4 => ?_)
    · have h := if_f c4 h
      refine lv_aload_n hx hb dX10_alikeBy_18 rfl (lv_at hl 0 rfl) ?_
      obtain ⟨w5, hu, h⟩ := bnd_h h
      refine kc_v (kV hC (c_X10_asItIs l dC dI cc q0 q1 q2 q3 q4 q5 q6 q7 q8 q9 q10 q11 q12 q13 q14 q15 q16 q17 feetMany log_ block stocking acts keeps hears texted at_ readFeetMany readLog readBlock readStocking lefts_ rights_ st now_ H.size w5 hu) cv_X10_191 kw979 rfl rfl ⟨(Nat.le_of_ble_eq_true rfl), (Nat.le_of_ble_eq_true rfl)⟩ hP [0, 1, 2] rfl rfl rfl (q0 := 0) rfl (As := []) (rest := []) rfl rfl hl.1 (Nat.le_of_ble_eq_true rfl) dX10_alikeBy_19 ⟨Nat.zero_le _, Nat.zero_le _⟩) hP hA [0, 1, 2] rfl rfl (fun H locs hP => ?_)
      have hP : PD (dC, dI) A s.heap [(q0, .inr (10, [.int feetMany, .ref q1, .int log_, .int block, .ref q2, .int stocking, .ref q3, .int acts, .ref q4, .int keeps, .ref q5, .int hears, .ref q6, .ref q7, .int texted, .int at_, .ref q8, .ref q9, .int readFeetMany, .ref q10, .int readLog, .int readBlock, .ref q11, .int readStocking, .ref q12, .int lefts_, .int rights_, .ref q13, .ref q14, .ref q15, .ref q16, .ref q17])), (q3, .inl (cc 0, 52, .inl st)), (q12, .inl (cc 0, 52, .inl w5))] H locs := hP
      refine lv_aload_n hx hb dX10_alikeBy_22 rfl (lv_at hl 0 rfl) ?_
      refine lv_iload_n hx hb dX10_alikeBy_23 rfl (lv_at hl 1 rfl) ?_
      obtain ⟨r6, hu, h⟩ := bnd_h h
      refine kc_i (kV hC (c_X10_sideOf l dC dI cc q0 q1 q2 q3 q4 q5 q6 q7 q8 q9 q10 q11 q12 q13 q14 q15 q16 q17 feetMany log_ block stocking acts keeps hears texted at_ readFeetMany readLog readBlock readStocking lefts_ rights_ w5 x1 H.size r6 hu) cv_X10_175 kw987 rfl rfl ⟨(Nat.le_of_ble_eq_true rfl), (Nat.le_of_ble_eq_true rfl)⟩ hP [0, 2] rfl rfl rfl (q0 := 0) rfl (As := [.int x1]) (rest := []) rfl rfl hl.1 (Nat.le_of_ble_eq_true rfl) dX10_alikeBy_24 ⟨Nat.zero_le _, Nat.zero_le _⟩) hP hA [0, 2] rfl rfl (fun H locs hP => ?_)
      have hP : PD (dC, dI) A s.heap [(q0, .inr (10, [.int feetMany, .ref q1, .int log_, .int block, .ref q2, .int stocking, .ref q3, .int acts, .ref q4, .int keeps, .ref q5, .int hears, .ref q6, .ref q7, .int texted, .int at_, .ref q8, .ref q9, .int readFeetMany, .ref q10, .int readLog, .int readBlock, .ref q11, .int readStocking, .ref q12, .int lefts_, .int rights_, .ref q13, .ref q14, .ref q15, .ref q16, .ref q17])), (q3, .inl (cc 0, 52, .inl st)), (q12, .inl (cc 0, 52, .inl w5))] H locs := hP
      refine lv_if_ne (tgt := 39) hx hb dX10_alikeBy_27 (by decide) (fun c7 => ?_) (fun c7 => ?_)
      · have h := if_f c7 h
        refine lv_iconst (v := -1) hx hb dX10_alikeBy_39 (by decide) ?_
        rw [eZ]
        exact ret_i hC hr hlk hP dX10_alikeBy_40 w5 (Prod.mk.inj (Option.some.inj h)) rfl
      · have h := if_t c7 h
        refine lv_aload_n hx hb dX10_alikeBy_30 rfl (lv_at hl 0 rfl) ?_
        refine lv_iload_n hx hb dX10_alikeBy_31 rfl (lv_at hl 2 rfl) ?_
        obtain ⟨r8, hu, h⟩ := bnd_h h
        refine kc_i (kV hC (c_X10_sideOf l dC dI cc q0 q1 q2 q3 q4 q5 q6 q7 q8 q9 q10 q11 q12 q13 q14 q15 q16 q17 feetMany log_ block stocking acts keeps hears texted at_ readFeetMany readLog readBlock readStocking lefts_ rights_ w5 x2 H.size r8 hu) cv_X10_175 kw987 rfl rfl ⟨(Nat.le_of_ble_eq_true rfl), (Nat.le_of_ble_eq_true rfl)⟩ hP [0, 2] rfl rfl rfl (q0 := 0) rfl (As := [.int x2]) (rest := []) rfl rfl hl.1 (Nat.le_of_ble_eq_true rfl) dX10_alikeBy_32 ⟨Nat.zero_le _, Nat.zero_le _⟩) hP hA [0, 2] rfl rfl (fun H locs hP => ?_)
        have hP : PD (dC, dI) A s.heap [(q0, .inr (10, [.int feetMany, .ref q1, .int log_, .int block, .ref q2, .int stocking, .ref q3, .int acts, .ref q4, .int keeps, .ref q5, .int hears, .ref q6, .ref q7, .int texted, .int at_, .ref q8, .ref q9, .int readFeetMany, .ref q10, .int readLog, .int readBlock, .ref q11, .int readStocking, .ref q12, .int lefts_, .int rights_, .ref q13, .ref q14, .ref q15, .ref q16, .ref q17])), (q3, .inl (cc 0, 52, .inl st)), (q12, .inl (cc 0, 52, .inl w5))] H locs := hP
        refine lv_iconst (v := 1) hx hb dX10_alikeBy_35 (by decide) ?_
        refine lv_icmp_eq (tgt := 41) hx hb dX10_alikeBy_36 (by decide) (fun c9 => ?_) (fun c9 => ?_)
        · have h := if_t c9 h
          refine lv_iconst (v := 0) hx hb dX10_alikeBy_41 (by decide) ?_
          refine lv_istore_n (lv' := [(3, .int 0), (0, .ref q0), (1, .int x1), (2, .int x2)]) hx hb dX10_alikeBy_42 rfl hl (by decide) rfl (fun ls hl => ?_)
          obtain ⟨z, hlp, hk, hj⟩ := bndE_h h
          have L1 : ∀ (n : Nat) (j10 : Int32) (w11 : (Nat → Int32)) (z : ((Int32 × (Nat → Int32)) ⊕ (Int32 × (Nat → Int32)))), lp (u2 (b_X10_alikeBy_1 x1 x2)) n (j10, w11) = some z → ∀ (H : Heap) (locs : List Loc) (ls : Array Slot), PD (dC, dI) A s.heap [(q0, .inr (10, [.int feetMany, .ref q1, .int log_, .int block, .ref q2, .int stocking, .ref q3, .int acts, .ref q4, .int keeps, .ref q5, .int hears, .ref q6, .ref q7, .int texted, .int at_, .ref q8, .ref q9, .int readFeetMany, .ref q10, .int readLog, .int readBlock, .ref q11, .int readStocking, .ref q12, .int lefts_, .int rights_, .ref q13, .ref q14, .ref q15, .ref q16, .ref q17])), (q3, .inl (cc 0, 52, .inl st)), (q12, .inl (cc 0, 52, .inl w11))] H locs → lv_has ls 4 [(0, .ref q0), (1, .int x1), (2, .int x2), (3, .int j10)] → (∀ (j10x : Int32) (w11x : (Nat → Int32)), z = .inl (j10x, w11x) → ∀ (H : Heap) (locs : List Loc) (ls : Array Slot), PD (dC, dI) A s.heap [(q0, .inr (10, [.int feetMany, .ref q1, .int log_, .int block, .ref q2, .int stocking, .ref q3, .int acts, .ref q4, .int keeps, .ref q5, .int hears, .ref q6, .ref q7, .int texted, .int at_, .ref q8, .ref q9, .int readFeetMany, .ref q10, .int readLog, .int readBlock, .ref q11, .int readStocking, .ref q12, .int lefts_, .int rights_, .ref q13, .ref q14, .ref q15, .ref q16, .ref q17])), (q3, .inl (cc 0, 52, .inl st)), (q12, .inl (cc 0, 52, .inl w11x))] H locs → lv_has ls 4 [(0, .ref q0), (1, .int x1), (2, .int x2), (3, .int j10x)] → W p l e ({ frames := 3, cells := 0, slots := 0, locals := 66 } : Room) s m ([.ref q0, .int x1, .int x2] : List Value).toArray below meth c H locs 0 0 Z (F0 m 76 ls [])) → (∀ q, z = .inr q → q = (ret, o_now_)) → W p l e ({ frames := 3, cells := 0, slots := 0, locals := 66 } : Room) s m ([.ref q0, .int x1, .int x2] : List Value).toArray below meth c H locs 0 0 Z (F0 m 43 ls []) := by
            intro n
            induction n with
            | zero => intro j10 w11 z h; exact (lp_0 h).elim
            | succ n ih =>
              intro j10 w11 z h H locs ls hP hl KK KR
              obtain ⟨y, h, hz⟩ := lp_h h
              refine lv_iload_n hx hb dX10_alikeBy_43 rfl (lv_at hl 3 rfl) ?_
              refine lv_bipush (v := 60) hx hb dX10_alikeBy_44 (by decide) ?_
              refine lv_icmp_gt (tgt := 76) hx hb dX10_alikeBy_46 (by decide) (fun c12 => ?_) (fun c12 => ?_)
              · have h := if_t c12 h
                exact KK j10 w11 (lp_e h hz).symm H locs ls hP (lv_sub hl [0, 1, 2, 3] rfl)
              · have h := if_f c12 h
                refine lv_aload_n hx hb dX10_alikeBy_49 rfl (lv_at hl 0 rfl) ?_
                refine lv_iload_n hx hb dX10_alikeBy_50 rfl (lv_at hl 1 rfl) ?_
                refine lv_iload_n hx hb dX10_alikeBy_51 rfl (lv_at hl 2 rfl) ?_
                obtain ⟨r13, hu, h⟩ := bnd_h h
                refine kc_z (kV hC (c_X10_areAlike l dC dI cc q0 q1 q2 q3 q4 q5 q6 q7 q8 q9 q10 q11 q12 q13 q14 q15 q16 q17 feetMany log_ block stocking acts keeps hears texted at_ readFeetMany readLog readBlock readStocking lefts_ rights_ w11 x1 x2 H.size r13 hu) cv_X10_197 kw1023 rfl rfl ⟨(Nat.le_of_ble_eq_true rfl), (Nat.le_of_ble_eq_true rfl)⟩ hP [0, 2] rfl rfl rfl (q0 := 0) rfl (As := [.int x1, .int x2]) (rest := []) rfl rfl hl.1 (Nat.le_of_ble_eq_true rfl) dX10_alikeBy_52 ⟨Nat.zero_le _, Nat.zero_le _⟩) hP hA [0, 2] rfl rfl (fun hz_r13 H locs hP => ?_)
                have hP : PD (dC, dI) A s.heap [(q0, .inr (10, [.int feetMany, .ref q1, .int log_, .int block, .ref q2, .int stocking, .ref q3, .int acts, .ref q4, .int keeps, .ref q5, .int hears, .ref q6, .ref q7, .int texted, .int at_, .ref q8, .ref q9, .int readFeetMany, .ref q10, .int readLog, .int readBlock, .ref q11, .int readStocking, .ref q12, .int lefts_, .int rights_, .ref q13, .ref q14, .ref q15, .ref q16, .ref q17])), (q3, .inl (cc 0, 52, .inl st)), (q12, .inl (cc 0, 52, .inl w11))] H locs := hP
                refine lv_if_eq (tgt := 60) hx hb dX10_alikeBy_55 (by decide) (fun c14 => ?_) (fun c14 => ?_)
                · have h := if_t c14 h
                  refine lv_aload_n hx hb dX10_alikeBy_60 rfl (lv_at hl 0 rfl) ?_
                  refine g_get hC hP fg_X10_44 0 rfl rfl dX10_alikeBy_61 ?_
                  refine lv_iconst (v := 0) hx hb dX10_alikeBy_64 (by decide) ?_
                  refine lv_dup2_11 hx hb dX10_alikeBy_65 rfl rfl ?_
                  obtain ⟨hin, h⟩ := rd_h h
                  refine g_iald hC hP 2 0 rfl rfl hin dX10_alikeBy_66 (fun v15 ev => ?_)
                  have h := h v15 ev
                  refine lv_iconst (v := 1) hx hb dX10_alikeBy_67 (by decide) ?_
                  refine lv_iadd hx hb dX10_alikeBy_68 ?_
                  obtain ⟨hin, h⟩ := wr_h h
                  refine g_iast hC hP 2 0 rfl rfl hin dX10_alikeBy_69 (fun a16 ev H locs hP => ?_)
                  have hP : PD (dC, dI) A s.heap [(q0, .inr (10, [.int feetMany, .ref q1, .int log_, .int block, .ref q2, .int stocking, .ref q3, .int acts, .ref q4, .int keeps, .ref q5, .int hears, .ref q6, .ref q7, .int texted, .int at_, .ref q8, .ref q9, .int readFeetMany, .ref q10, .int readLog, .int readBlock, .ref q11, .int readStocking, .ref q12, .int lefts_, .int rights_, .ref q13, .ref q14, .ref q15, .ref q16, .ref q17])), (q3, .inl (cc 0, 52, .inl st)), (q12, .inl (cc 0, 52, .inl a16))] H locs := hP
                  have h := h a16 ev
                  refine lv_iinc (v := (j10 + 1)) (lv' := [(3, .int (j10 + 1)), (0, .ref q0), (1, .int x1), (2, .int x2)]) hx hb dX10_alikeBy_70 hl (k := 3) rfl rfl (by decide) rfl (fun ls hl => ?_)
                  refine lv_goto (tgt := 43) hx hb dX10_alikeBy_73 (by decide) ?_
                  exact ih _ _ _ (lp_n h hz) H locs ls hP (lv_sub hl [1, 2, 3, 0] rfl) KK KR
                · have h := if_f c14 h
                  refine lv_iload_n hx hb dX10_alikeBy_58 rfl (lv_at hl 3 rfl) ?_
                  rw [eZ]
                  exact ret_i hC hr hlk hP dX10_alikeBy_59 w11 (Prod.mk.inj (KR _ (lp_e h hz).symm)) rfl
          refine L1 FU _ _ z hlp H locs ls hP (lv_sub hl [1, 2, 3, 0] rfl) (fun j10x w11x e H locs ls hP hl => ?_) (fun q e => Option.some.inj (hj q e))
          have h := hk _ e
          refine lv_bipush (v := -4) hx hb dX10_alikeBy_76 (by decide) ?_
          rw [eZ]
          exact ret_i hC hr hlk hP dX10_alikeBy_78 w11x (Prod.mk.inj (Option.some.inj h)) rfl
        · have h := if_f c9 h
          refine lv_iconst (v := -1) hx hb dX10_alikeBy_39 (by decide) ?_
          rw [eZ]
          exact ret_i hC hr hlk hP dX10_alikeBy_40 w5 (Prod.mk.inj (Option.some.inj h)) rfl
    · have h := if_t c4 h
      refine lv_iconst (v := -1) hx hb dX10_alikeBy_16 (by decide) ?_
      rw [eZ]
      exact ret_i hC hr hlk hP dX10_alikeBy_17 now_ (Prod.mk.inj (Option.some.inj h)) rfl
set_option maxHeartbeats 8000000 in
set_option maxRecDepth 100000 in
theorem c_X10_dry (l : Launch) (dC : Nat → ClassId) (dI : Nat → Nat → Nat) (cc : Nat → ClassId) (q0 q1 q2 q3 q4 q5 q6 q7 q8 q9 q10 q11 q12 q13 q14 q15 q16 q17 : Nat) (feetMany : Int32) (log_ : Int32) (block : Int32) (stocking : Int32) (acts : Int32) (keeps : Int32) (hears : Int32) (texted : Int32) (at_ : Int32) (readFeetMany : Int32) (readLog : Int32) (readBlock : Int32) (readStocking : Int32) (lefts_ : Int32) (rights_ : Int32) (st : (Nat → Int32)) (now_ : (Nat → Int32)) (x1 : Int32) (x2 : Int32) (sz : Nat) (ret : Int32) (o_now_ : (Nat → Int32)) (hu : f_X10_dry x1 x2 st now_ = some (ret, o_now_)) : Met l yX10_dry (mw yX10_dry cX10_dry 5 (some .int)) ({ frames := 2, cells := 0, slots := 0, locals := 45 } : Room) (va_Pc [.ref q0, .int x1, .int x2] (mP (dC, dI) (ts cc) sz [(q0, .inr (10, [.int feetMany, .ref q1, .int log_, .int block, .ref q2, .int stocking, .ref q3, .int acts, .ref q4, .int keeps, .ref q5, .int hears, .ref q6, .ref q7, .int texted, .int at_, .ref q8, .ref q9, .int readFeetMany, .ref q10, .int readLog, .int readBlock, .ref q11, .int readStocking, .ref q12, .int lefts_, .int rights_, .ref q13, .ref q14, .ref q15, .ref q16, .ref q17])), (q3, .inl (cc 0, 52, .inl st)), (q12, .inl (cc 0, 52, .inl now_))])) ((fun A => va_Qi (fun (r : Int32) (w : (Nat → Int32)) => r = ret ∧ w = o_now_) (fun (w : (Nat → Int32)) t => va_P (dC, dI) classes [(q0, .inr (10, [.int feetMany, .ref q1, .int log_, .int block, .ref q2, .int stocking, .ref q3, .int acts, .ref q4, .int keeps, .ref q5, .int hears, .ref q6, .ref q7, .int texted, .int at_, .ref q8, .ref q9, .int readFeetMany, .ref q10, .int readLog, .int readBlock, .ref q11, .int readStocking, .ref q12, .int lefts_, .int rights_, .ref q13, .ref q14, .ref q15, .ref q16, .ref q17])), (q3, .inl (cc 0, 52, .inl st)), (q12, .inl (cc 0, 52, .inl w))] t.heap) A) (va_A [(q0, .inr (10, [.int feetMany, .ref q1, .int log_, .int block, .ref q2, .int stocking, .ref q3, .int acts, .ref q4, .int keeps, .ref q5, .int hears, .ref q6, .ref q7, .int texted, .int at_, .ref q8, .ref q9, .int readFeetMany, .ref q10, .int readLog, .int readBlock, .ref q11, .int readStocking, .ref q12, .int lefts_, .int rights_, .ref q13, .ref q14, .ref q15, .ref q16, .ref q17])), (q3, .inl (cc 0, 52, .inl st)), (q12, .inl (cc 0, 52, .inl now_))] sz)) 0 0 (va_A [(q0, .inr (10, [.int feetMany, .ref q1, .int log_, .int block, .ref q2, .int stocking, .ref q3, .int acts, .ref q4, .int keeps, .ref q5, .int hears, .ref q6, .ref q7, .int texted, .int at_, .ref q8, .ref q9, .int readFeetMany, .ref q10, .int readLog, .int readBlock, .ref q11, .int readStocking, .ref q12, .int lefts_, .int rights_, .ref q13, .ref q14, .ref q15, .ref q16, .ref q17])), (q3, .inl (cc 0, 52, .inl st)), (q12, .inl (cc 0, 52, .inl now_))] sz) := by
  refine met_go (Qc := fun A => va_Qi (fun (r : Int32) (w : (Nat → Int32)) => r = ret ∧ w = o_now_) (fun (w : (Nat → Int32)) t => va_P (dC, dI) classes [(q0, .inr (10, [.int feetMany, .ref q1, .int log_, .int block, .ref q2, .int stocking, .ref q3, .int acts, .ref q4, .int keeps, .ref q5, .int hears, .ref q6, .ref q7, .int texted, .int at_, .ref q8, .ref q9, .int readFeetMany, .ref q10, .int readLog, .int readBlock, .ref q11, .int readStocking, .ref q12, .int lefts_, .int rights_, .ref q13, .ref q14, .ref q15, .ref q16, .ref q17])), (q3, .inl (cc 0, 52, .inl st)), (q12, .inl (cc 0, 52, .inl w))] t.heap) A) (by decide) (Nat.le_of_ble_eq_true rfl) ?_
  intro p e s m below meth c A ls H locs hC hr hlk hin hA hP hl _
  have hC : CX p m c cX10_dry 5 s ([.ref q0, .int x1, .int x2] : List Value).toArray RX10 (dC, dI) (ts cc) := hC
  have hx := hC.1.1
  have hb := hC.1.2
  have h := hu
  have hu0 := hu
  unfold f_X10_dry at h
  have hl : lv_has ls 5 [(0, .ref q0), (1, .int x1), (2, .int x2)] := hl
  refine W_abs (fun Z eZ => ?_)
  refine lv_aload_n hx hb dX10_dry_0 rfl (lv_at hl 0 rfl) ?_
  refine lv_iload_n hx hb dX10_dry_1 rfl (lv_at hl 1 rfl) ?_
  obtain ⟨r1, hu, h⟩ := bnd_h h
  refine kc_z (kV hC (c_X10_isClog l dC dI cc q0 q1 q2 q3 q4 q5 q6 q7 q8 q9 q10 q11 q12 q13 q14 q15 q16 q17 feetMany log_ block stocking acts keeps hears texted at_ readFeetMany readLog readBlock readStocking lefts_ rights_ st x1 H.size r1 hu) cv_X10_188 kw975 rfl rfl ⟨(Nat.le_of_ble_eq_true rfl), (Nat.le_of_ble_eq_true rfl)⟩ hP [0, 1] rfl rfl rfl (q0 := 0) rfl (As := [.int x1]) (rest := []) rfl rfl hl.1 (Nat.le_of_ble_eq_true rfl) dX10_dry_2 ⟨Nat.zero_le _, Nat.zero_le _⟩) hP hA [0, 1] rfl rfl (fun hz_r1 H locs hP => ?_)
  have hP : PD (dC, dI) A s.heap [(q0, .inr (10, [.int feetMany, .ref q1, .int log_, .int block, .ref q2, .int stocking, .ref q3, .int acts, .ref q4, .int keeps, .ref q5, .int hears, .ref q6, .ref q7, .int texted, .int at_, .ref q8, .ref q9, .int readFeetMany, .ref q10, .int readLog, .int readBlock, .ref q11, .int readStocking, .ref q12, .int lefts_, .int rights_, .ref q13, .ref q14, .ref q15, .ref q16, .ref q17])), (q3, .inl (cc 0, 52, .inl st)), (q12, .inl (cc 0, 52, .inl now_))] H locs := hP
  refine lv_if_eq (tgt := 17) hx hb dX10_dry_5 (by decide) (fun c2 => ?_) (fun c2 => ?_)
  · have h := if_t c2 h
    refine lv_iconst (v := -1) hx hb dX10_dry_17 (by decide) ?_
    rw [eZ]
    exact ret_i hC hr hlk hP dX10_dry_18 now_ (Prod.mk.inj (Option.some.inj h)) rfl
  · have h := if_f c2 h
    refine lv_iload_n hx hb dX10_dry_8 rfl (lv_at hl 2 rfl) ?_
    refine lv_iconst (v := 0) hx hb dX10_dry_9 (by decide) ?_
    refine lv_iconst (v := 1) hx hb dX10_dry_10 (by decide) ?_
    obtain ⟨r3, hu, h⟩ := bnd_h h
    refine kc_z (kS hC (c_X10_in l dC dI cc x2 0 1 H.size r3 hu) cs_X10_90 kw912 rfl rfl ⟨(Nat.le_of_ble_eq_true rfl), (Nat.le_of_ble_eq_true rfl)⟩ hP [] rfl rfl (As := [.int x2, .int 0, .int 1]) (rest := []) rfl rfl hl.1 (Nat.le_of_ble_eq_true rfl) dX10_dry_11 ⟨Nat.zero_le _, Nat.zero_le _⟩) hP hA [] rfl rfl (fun hz_r3 H locs hP => ?_)
    have hP : PD (dC, dI) A s.heap [(q0, .inr (10, [.int feetMany, .ref q1, .int log_, .int block, .ref q2, .int stocking, .ref q3, .int acts, .ref q4, .int keeps, .ref q5, .int hears, .ref q6, .ref q7, .int texted, .int at_, .ref q8, .ref q9, .int readFeetMany, .ref q10, .int readLog, .int readBlock, .ref q11, .int readStocking, .ref q12, .int lefts_, .int rights_, .ref q13, .ref q14, .ref q15, .ref q16, .ref q17])), (q3, .inl (cc 0, 52, .inl st)), (q12, .inl (cc 0, 52, .inl now_))] H locs := hP
    refine lv_if_ne (tgt := 19) hx hb dX10_dry_14 (by decide) (fun c4 => ?_) (fun c4 => ?_)
    · have h := if_f c4 h
      refine lv_aload_n hx hb dX10_dry_19 rfl (lv_at hl 0 rfl) ?_
      obtain ⟨w5, hu, h⟩ := bnd_h h
      refine kc_v (kV hC (c_X10_asItIs l dC dI cc q0 q1 q2 q3 q4 q5 q6 q7 q8 q9 q10 q11 q12 q13 q14 q15 q16 q17 feetMany log_ block stocking acts keeps hears texted at_ readFeetMany readLog readBlock readStocking lefts_ rights_ st now_ H.size w5 hu) cv_X10_191 kw979 rfl rfl ⟨(Nat.le_of_ble_eq_true rfl), (Nat.le_of_ble_eq_true rfl)⟩ hP [0, 1, 2] rfl rfl rfl (q0 := 0) rfl (As := []) (rest := []) rfl rfl hl.1 (Nat.le_of_ble_eq_true rfl) dX10_dry_20 ⟨Nat.zero_le _, Nat.zero_le _⟩) hP hA [0, 1, 2] rfl rfl (fun H locs hP => ?_)
      have hP : PD (dC, dI) A s.heap [(q0, .inr (10, [.int feetMany, .ref q1, .int log_, .int block, .ref q2, .int stocking, .ref q3, .int acts, .ref q4, .int keeps, .ref q5, .int hears, .ref q6, .ref q7, .int texted, .int at_, .ref q8, .ref q9, .int readFeetMany, .ref q10, .int readLog, .int readBlock, .ref q11, .int readStocking, .ref q12, .int lefts_, .int rights_, .ref q13, .ref q14, .ref q15, .ref q16, .ref q17])), (q3, .inl (cc 0, 52, .inl st)), (q12, .inl (cc 0, 52, .inl w5))] H locs := hP
      refine lv_aload_n hx hb dX10_dry_23 rfl (lv_at hl 0 rfl) ?_
      refine g_get hC hP fg_X10_44 0 rfl rfl dX10_dry_24 ?_
      refine lv_iconst (v := 0) hx hb dX10_dry_27 (by decide) ?_
      refine lv_dup2_11 hx hb dX10_dry_28 rfl rfl ?_
      obtain ⟨hin, h⟩ := rd_h h
      refine g_iald hC hP 2 0 rfl rfl hin dX10_dry_29 (fun v6 ev => ?_)
      have h := h v6 ev
      refine lv_bipush (v := 30) hx hb dX10_dry_30 (by decide) ?_
      refine lv_iadd hx hb dX10_dry_32 ?_
      obtain ⟨hin, h⟩ := wr_h h
      refine g_iast hC hP 2 0 rfl rfl hin dX10_dry_33 (fun a7 ev H locs hP => ?_)
      have hP : PD (dC, dI) A s.heap [(q0, .inr (10, [.int feetMany, .ref q1, .int log_, .int block, .ref q2, .int stocking, .ref q3, .int acts, .ref q4, .int keeps, .ref q5, .int hears, .ref q6, .ref q7, .int texted, .int at_, .ref q8, .ref q9, .int readFeetMany, .ref q10, .int readLog, .int readBlock, .ref q11, .int readStocking, .ref q12, .int lefts_, .int rights_, .ref q13, .ref q14, .ref q15, .ref q16, .ref q17])), (q3, .inl (cc 0, 52, .inl st)), (q12, .inl (cc 0, 52, .inl a7))] H locs := hP
      have h := h a7 ev
      refine lv_aload_n hx hb dX10_dry_34 rfl (lv_at hl 0 rfl) ?_
      refine lv_iload_n hx hb dX10_dry_35 rfl (lv_at hl 1 rfl) ?_
      obtain ⟨r8, hu, h⟩ := bnd_h h
      refine kc_i (kV hC (c_X10_sizeOf l dC dI cc q0 q1 q2 q3 q4 q5 q6 q7 q8 q9 q10 q11 q12 q13 q14 q15 q16 q17 feetMany log_ block stocking acts keeps hears texted at_ readFeetMany readLog readBlock readStocking lefts_ rights_ a7 x1 H.size r8 hu) cv_X10_178 kw991 rfl rfl ⟨(Nat.le_of_ble_eq_true rfl), (Nat.le_of_ble_eq_true rfl)⟩ hP [0, 2] rfl rfl rfl (q0 := 0) rfl (As := [.int x1]) (rest := []) rfl rfl hl.1 (Nat.le_of_ble_eq_true rfl) dX10_dry_36 ⟨Nat.zero_le _, Nat.zero_le _⟩) hP hA [0, 2] rfl rfl (fun H locs hP => ?_)
      have hP : PD (dC, dI) A s.heap [(q0, .inr (10, [.int feetMany, .ref q1, .int log_, .int block, .ref q2, .int stocking, .ref q3, .int acts, .ref q4, .int keeps, .ref q5, .int hears, .ref q6, .ref q7, .int texted, .int at_, .ref q8, .ref q9, .int readFeetMany, .ref q10, .int readLog, .int readBlock, .ref q11, .int readStocking, .ref q12, .int lefts_, .int rights_, .ref q13, .ref q14, .ref q15, .ref q16, .ref q17])), (q3, .inl (cc 0, 52, .inl st)), (q12, .inl (cc 0, 52, .inl a7))] H locs := hP
      refine lv_istore_n (lv' := [(3, .int r8), (0, .ref q0), (1, .int x1), (2, .int x2)]) hx hb dX10_dry_39 rfl hl (by decide) rfl (fun ls hl => ?_)
      refine lv_iconst (v := 0) hx hb dX10_dry_40 (by decide) ?_
      refine lv_istore (lv' := [(4, .int 0), (3, .int r8), (0, .ref q0), (1, .int x1), (2, .int x2)]) hx hb dX10_dry_41 hl (by decide) rfl (fun ls hl => ?_)
      refine lv_aload_n hx hb dX10_dry_43 rfl (lv_at hl 2 rfl) ?_
      refine g_get hC hP fg_X10_44 0 rfl rfl dX10_dry_44 ?_
      refine lv_iconst (v := 0) hx hb dX10_dry_47 (by decide) ?_
      refine lv_aload_n hx hb dX10_dry_48 rfl (lv_at hl 2 rfl) ?_
      refine g_get hC hP fg_X10_17 0 rfl rfl dX10_dry_49 ?_
      refine lv_iconst (v := 0) hx hb dX10_dry_52 (by decide) ?_
      obtain ⟨hin, h⟩ := rd_h h
      refine g_iald hC hP 1 0 rfl rfl hin dX10_dry_53 (fun v9 ev => ?_)
      have h := h v9 ev
      obtain ⟨hin, h⟩ := wr_h h
      refine g_iast hC hP 2 0 rfl rfl hin dX10_dry_54 (fun a10 ev H locs hP => ?_)
      have hP : PD (dC, dI) A s.heap [(q0, .inr (10, [.int feetMany, .ref q1, .int log_, .int block, .ref q2, .int stocking, .ref q3, .int acts, .ref q4, .int keeps, .ref q5, .int hears, .ref q6, .ref q7, .int texted, .int at_, .ref q8, .ref q9, .int readFeetMany, .ref q10, .int readLog, .int readBlock, .ref q11, .int readStocking, .ref q12, .int lefts_, .int rights_, .ref q13, .ref q14, .ref q15, .ref q16, .ref q17])), (q3, .inl (cc 0, 52, .inl st)), (q12, .inl (cc 0, 52, .inl a10))] H locs := hP
      have h := h a10 ev
      obtain ⟨⟨j11x, w12x⟩, hlp, h⟩ := bnd_h h
      have L1 : ∀ (n : Nat) (j11 : Int32) (w12 : (Nat → Int32)) (j11x : Int32) (w12x : (Nat → Int32)), lp (u2 (b_X10_dry_1 r8 x1)) n (j11, w12) = some (j11x, w12x) → ∀ (H : Heap) (locs : List Loc) (ls : Array Slot), PD (dC, dI) A s.heap [(q0, .inr (10, [.int feetMany, .ref q1, .int log_, .int block, .ref q2, .int stocking, .ref q3, .int acts, .ref q4, .int keeps, .ref q5, .int hears, .ref q6, .ref q7, .int texted, .int at_, .ref q8, .ref q9, .int readFeetMany, .ref q10, .int readLog, .int readBlock, .ref q11, .int readStocking, .ref q12, .int lefts_, .int rights_, .ref q13, .ref q14, .ref q15, .ref q16, .ref q17])), (q3, .inl (cc 0, 52, .inl st)), (q12, .inl (cc 0, 52, .inl w12))] H locs → lv_has ls 5 [(0, .ref q0), (1, .int x1), (2, .int x2), (3, .int r8), (4, .int j11)] → (∀ (H : Heap) (locs : List Loc) (ls : Array Slot), PD (dC, dI) A s.heap [(q0, .inr (10, [.int feetMany, .ref q1, .int log_, .int block, .ref q2, .int stocking, .ref q3, .int acts, .ref q4, .int keeps, .ref q5, .int hears, .ref q6, .ref q7, .int texted, .int at_, .ref q8, .ref q9, .int readFeetMany, .ref q10, .int readLog, .int readBlock, .ref q11, .int readStocking, .ref q12, .int lefts_, .int rights_, .ref q13, .ref q14, .ref q15, .ref q16, .ref q17])), (q3, .inl (cc 0, 52, .inl st)), (q12, .inl (cc 0, 52, .inl w12x))] H locs → lv_has ls 5 [(0, .ref q0), (1, .int x1), (2, .int x2), (3, .int r8), (4, .int j11x)] → W p l e ({ frames := 2, cells := 0, slots := 0, locals := 45 } : Room) s m ([.ref q0, .int x1, .int x2] : List Value).toArray below meth c H locs 0 0 Z (F0 m 80 ls [])) → W p l e ({ frames := 2, cells := 0, slots := 0, locals := 45 } : Room) s m ([.ref q0, .int x1, .int x2] : List Value).toArray below meth c H locs 0 0 Z (F0 m 55 ls []) := by
        intro n
        induction n with
        | zero => intro j11 w12 j11x w12x h; exact (lp_0 h).elim
        | succ n ih =>
          intro j11 w12 j11x w12x h H locs ls hP hl KK
          obtain ⟨y, h, hz⟩ := lp_h h
          refine lv_aload_n hx hb dX10_dry_55 rfl (lv_at hl 0 rfl) ?_
          refine lv_iload_n hx hb dX10_dry_56 rfl (lv_at hl 1 rfl) ?_
          obtain ⟨r13, hu, h⟩ := bnd_h h
          refine kc_i (kV hC (c_X10_sizeOf l dC dI cc q0 q1 q2 q3 q4 q5 q6 q7 q8 q9 q10 q11 q12 q13 q14 q15 q16 q17 feetMany log_ block stocking acts keeps hears texted at_ readFeetMany readLog readBlock readStocking lefts_ rights_ w12 x1 H.size r13 hu) cv_X10_178 kw991 rfl rfl ⟨(Nat.le_of_ble_eq_true rfl), (Nat.le_of_ble_eq_true rfl)⟩ hP [0, 2] rfl rfl rfl (q0 := 0) rfl (As := [.int x1]) (rest := []) rfl rfl hl.1 (Nat.le_of_ble_eq_true rfl) dX10_dry_57 ⟨Nat.zero_le _, Nat.zero_le _⟩) hP hA [0, 2] rfl rfl (fun H locs hP => ?_)
          have hP : PD (dC, dI) A s.heap [(q0, .inr (10, [.int feetMany, .ref q1, .int log_, .int block, .ref q2, .int stocking, .ref q3, .int acts, .ref q4, .int keeps, .ref q5, .int hears, .ref q6, .ref q7, .int texted, .int at_, .ref q8, .ref q9, .int readFeetMany, .ref q10, .int readLog, .int readBlock, .ref q11, .int readStocking, .ref q12, .int lefts_, .int rights_, .ref q13, .ref q14, .ref q15, .ref q16, .ref q17])), (q3, .inl (cc 0, 52, .inl st)), (q12, .inl (cc 0, 52, .inl w12))] H locs := hP
          refine lv_iload_n hx hb dX10_dry_60 rfl (lv_at hl 3 rfl) ?_
          refine lv_icmp_le (tgt := 80) hx hb dX10_dry_61 (by decide) (fun c14 => ?_) (fun c14 => ?_)
          · have h := if_t c14 h
            cases lp_e h hz
            exact KK H locs ls hP (lv_sub hl [0, 1, 2, 3, 4] rfl)
          · have h := if_f c14 h
            refine lv_aload_n hx hb dX10_dry_64 rfl (lv_at hl 0 rfl) ?_
            refine g_get hC hP fg_X10_44 0 rfl rfl dX10_dry_65 ?_
            refine lv_iconst (v := 0) hx hb dX10_dry_68 (by decide) ?_
            refine lv_dup2_11 hx hb dX10_dry_69 rfl rfl ?_
            obtain ⟨hin, h⟩ := rd_h h
            refine g_iald hC hP 2 0 rfl rfl hin dX10_dry_70 (fun v15 ev => ?_)
            have h := h v15 ev
            refine lv_iconst (v := 1) hx hb dX10_dry_71 (by decide) ?_
            refine lv_iadd hx hb dX10_dry_72 ?_
            obtain ⟨hin, h⟩ := wr_h h
            refine g_iast hC hP 2 0 rfl rfl hin dX10_dry_73 (fun a16 ev H locs hP => ?_)
            have hP : PD (dC, dI) A s.heap [(q0, .inr (10, [.int feetMany, .ref q1, .int log_, .int block, .ref q2, .int stocking, .ref q3, .int acts, .ref q4, .int keeps, .ref q5, .int hears, .ref q6, .ref q7, .int texted, .int at_, .ref q8, .ref q9, .int readFeetMany, .ref q10, .int readLog, .int readBlock, .ref q11, .int readStocking, .ref q12, .int lefts_, .int rights_, .ref q13, .ref q14, .ref q15, .ref q16, .ref q17])), (q3, .inl (cc 0, 52, .inl st)), (q12, .inl (cc 0, 52, .inl a16))] H locs := hP
            have h := h a16 ev
            refine lv_iinc (v := (j11 + 1)) (lv' := [(4, .int (j11 + 1)), (0, .ref q0), (1, .int x1), (2, .int x2), (3, .int r8)]) hx hb dX10_dry_74 hl (k := 4) rfl rfl (by decide) rfl (fun ls hl => ?_)
            refine lv_goto (tgt := 55) hx hb dX10_dry_77 (by decide) ?_
            exact ih _ _ _ _ (lp_n h hz) H locs ls hP (lv_sub hl [1, 2, 3, 4, 0] rfl) KK
      refine L1 FU _ _ j11x w12x hlp H locs ls hP (lv_sub hl [2, 3, 4, 1, 0] rfl) (fun H locs ls hP hl => ?_)
      refine lv_iload_n hx hb dX10_dry_80 rfl (lv_at hl 2 rfl) ?_
      refine lv_if_ne (tgt := 89) hx hb dX10_dry_81 (by decide) (fun c17 => ?_) (fun c17 => ?_)
      · have h := if_f c17 h
        refine lv_iload_n hx hb dX10_dry_89 rfl (lv_at hl 3 rfl) ?_
        rw [eZ]
        exact ret_i hC hr hlk hP dX10_dry_90 w12x (Prod.mk.inj (Option.some.inj h)) rfl
      · have h := if_t c17 h
        refine lv_iload hx hb dX10_dry_84 (lv_at hl 4 rfl) ?_
        refine lv_goto (tgt := 90) hx hb dX10_dry_86 (by decide) ?_
        rw [eZ]
        exact ret_i hC hr hlk hP dX10_dry_90 w12x (Prod.mk.inj (Option.some.inj h)) rfl
    · have h := if_t c4 h
      refine lv_iconst (v := -1) hx hb dX10_dry_17 (by decide) ?_
      rw [eZ]
      exact ret_i hC hr hlk hP dX10_dry_18 now_ (Prod.mk.inj (Option.some.inj h)) rfl
set_option maxHeartbeats 8000000 in
set_option maxRecDepth 100000 in
theorem c_X10_isClear (l : Launch) (dC : Nat → ClassId) (dI : Nat → Nat → Nat) (cc : Nat → ClassId) (q0 q1 q2 q3 q4 q5 q6 q7 q8 q9 q10 q11 q12 q13 q14 q15 q16 q17 : Nat) (feetMany : Int32) (log_ : Int32) (block : Int32) (stocking : Int32) (acts : Int32) (keeps : Int32) (hears : Int32) (texted : Int32) (at_ : Int32) (readFeetMany : Int32) (readLog : Int32) (readBlock : Int32) (readStocking : Int32) (lefts_ : Int32) (rights_ : Int32) (knot : (Nat → Int32)) (x1 : Int32) (sz : Nat) (ret : Int32) (hu : f_X10_isClear x1 log_ block knot = some ret) : Met l yX10_isClear (mw yX10_isClear cX10_isClear 4 (some .boolean)) ({ frames := 0, cells := 0, slots := 0, locals := 0 } : Room) (va_Pc [.ref q0, .int x1] (mP (dC, dI) (ts cc) sz [(q0, .inr (10, [.int feetMany, .ref q1, .int log_, .int block, .ref q2, .int stocking, .ref q3, .int acts, .ref q4, .int keeps, .ref q5, .int hears, .ref q6, .ref q7, .int texted, .int at_, .ref q8, .ref q9, .int readFeetMany, .ref q10, .int readLog, .int readBlock, .ref q11, .int readStocking, .ref q12, .int lefts_, .int rights_, .ref q13, .ref q14, .ref q15, .ref q16, .ref q17])), (q2, .inl (cc 2, 40, .inl knot))])) ((fun A => va_Qi (fun (r : Int32) (w : Unit) => narrow .boolean (.int r) = .int r ∧ (r = ret ∧ w = ())) (fun (w : Unit) t => va_P (dC, dI) classes [(q0, .inr (10, [.int feetMany, .ref q1, .int log_, .int block, .ref q2, .int stocking, .ref q3, .int acts, .ref q4, .int keeps, .ref q5, .int hears, .ref q6, .ref q7, .int texted, .int at_, .ref q8, .ref q9, .int readFeetMany, .ref q10, .int readLog, .int readBlock, .ref q11, .int readStocking, .ref q12, .int lefts_, .int rights_, .ref q13, .ref q14, .ref q15, .ref q16, .ref q17])), (q2, .inl (cc 2, 40, .inl knot))] t.heap) A) (va_A [(q0, .inr (10, [.int feetMany, .ref q1, .int log_, .int block, .ref q2, .int stocking, .ref q3, .int acts, .ref q4, .int keeps, .ref q5, .int hears, .ref q6, .ref q7, .int texted, .int at_, .ref q8, .ref q9, .int readFeetMany, .ref q10, .int readLog, .int readBlock, .ref q11, .int readStocking, .ref q12, .int lefts_, .int rights_, .ref q13, .ref q14, .ref q15, .ref q16, .ref q17])), (q2, .inl (cc 2, 40, .inl knot))] sz)) 0 0 (va_A [(q0, .inr (10, [.int feetMany, .ref q1, .int log_, .int block, .ref q2, .int stocking, .ref q3, .int acts, .ref q4, .int keeps, .ref q5, .int hears, .ref q6, .ref q7, .int texted, .int at_, .ref q8, .ref q9, .int readFeetMany, .ref q10, .int readLog, .int readBlock, .ref q11, .int readStocking, .ref q12, .int lefts_, .int rights_, .ref q13, .ref q14, .ref q15, .ref q16, .ref q17])), (q2, .inl (cc 2, 40, .inl knot))] sz) := by
  refine met_go (Qc := fun A => va_Qi (fun (r : Int32) (w : Unit) => narrow .boolean (.int r) = .int r ∧ (r = ret ∧ w = ())) (fun (w : Unit) t => va_P (dC, dI) classes [(q0, .inr (10, [.int feetMany, .ref q1, .int log_, .int block, .ref q2, .int stocking, .ref q3, .int acts, .ref q4, .int keeps, .ref q5, .int hears, .ref q6, .ref q7, .int texted, .int at_, .ref q8, .ref q9, .int readFeetMany, .ref q10, .int readLog, .int readBlock, .ref q11, .int readStocking, .ref q12, .int lefts_, .int rights_, .ref q13, .ref q14, .ref q15, .ref q16, .ref q17])), (q2, .inl (cc 2, 40, .inl knot))] t.heap) A) (by decide) (Nat.le_of_ble_eq_true rfl) ?_
  intro p e s m below meth c A ls H locs hC hr hlk hin hA hP hl _
  have hC : CX p m c cX10_isClear 4 s ([.ref q0, .int x1] : List Value).toArray RX10 (dC, dI) (ts cc) := hC
  have hx := hC.1.1
  have hb := hC.1.2
  have h := hu
  have hu0 := hu
  unfold f_X10_isClear at h
  have hl : lv_has ls 4 [(0, .ref q0), (1, .int x1)] := hl
  refine W_abs (fun Z eZ => ?_)
  refine lv_iload_n hx hb dX10_isClear_0 rfl (lv_at hl 1 rfl) ?_
  refine lv_aload_n hx hb dX10_isClear_1 rfl (lv_at hl 0 rfl) ?_
  refine g_get hC hP fg_X10_154 0 rfl rfl dX10_isClear_2 ?_
  refine lv_iadd hx hb dX10_isClear_5 ?_
  refine lv_aload_n hx hb dX10_isClear_6 rfl (lv_at hl 0 rfl) ?_
  refine g_get hC hP fg_X10_151 0 rfl rfl dX10_isClear_7 ?_
  refine lv_icmp_gt (tgt := 17) hx hb dX10_isClear_10 (by decide) (fun c1 => ?_) (fun c1 => ?_)
  · have h := if_t c1 h
    refine lv_iconst (v := 0) hx hb dX10_isClear_17 (by decide) ?_
    refine lv_istore_n (lv' := [(2, .int 0), (0, .ref q0), (1, .int x1)]) hx hb dX10_isClear_18 rfl hl (by decide) rfl (fun ls hl => ?_)
    refine lv_iconst (v := 0) hx hb dX10_isClear_19 (by decide) ?_
    refine lv_istore_n (lv' := [(3, .int 0), (2, .int 0), (0, .ref q0), (1, .int x1)]) hx hb dX10_isClear_20 rfl hl (by decide) rfl (fun ls hl => ?_)
    obtain ⟨⟨j2x, j3x⟩, hlp, h⟩ := bnd_h h
    have L1 : ∀ (n : Nat) (j2 : Int32) (j3 : Int32) (j2x : Int32) (j3x : Int32), lp (u2 (b_X10_isClear_1 block knot x1)) n (j2, j3) = some (j2x, j3x) → ∀ (H : Heap) (locs : List Loc) (ls : Array Slot), PD (dC, dI) A s.heap [(q0, .inr (10, [.int feetMany, .ref q1, .int log_, .int block, .ref q2, .int stocking, .ref q3, .int acts, .ref q4, .int keeps, .ref q5, .int hears, .ref q6, .ref q7, .int texted, .int at_, .ref q8, .ref q9, .int readFeetMany, .ref q10, .int readLog, .int readBlock, .ref q11, .int readStocking, .ref q12, .int lefts_, .int rights_, .ref q13, .ref q14, .ref q15, .ref q16, .ref q17])), (q2, .inl (cc 2, 40, .inl knot))] H locs → lv_has ls 4 [(0, .ref q0), (1, .int x1), (2, .int j2), (3, .int j3)] → (∀ (H : Heap) (locs : List Loc) (ls : Array Slot), PD (dC, dI) A s.heap [(q0, .inr (10, [.int feetMany, .ref q1, .int log_, .int block, .ref q2, .int stocking, .ref q3, .int acts, .ref q4, .int keeps, .ref q5, .int hears, .ref q6, .ref q7, .int texted, .int at_, .ref q8, .ref q9, .int readFeetMany, .ref q10, .int readLog, .int readBlock, .ref q11, .int readStocking, .ref q12, .int lefts_, .int rights_, .ref q13, .ref q14, .ref q15, .ref q16, .ref q17])), (q2, .inl (cc 2, 40, .inl knot))] H locs → lv_has ls 4 [(0, .ref q0), (1, .int x1), (2, .int j2x), (3, .int j3x)] → W p l e ({ frames := 0, cells := 0, slots := 0, locals := 0 } : Room) s m ([.ref q0, .int x1] : List Value).toArray below meth c H locs 0 0 Z (F0 m 68 ls [])) → W p l e ({ frames := 0, cells := 0, slots := 0, locals := 0 } : Room) s m ([.ref q0, .int x1] : List Value).toArray below meth c H locs 0 0 Z (F0 m 21 ls []) := by
      intro n
      induction n with
      | zero => intro j2 j3 j2x j3x h; exact (lp_0 h).elim
      | succ n ih =>
        intro j2 j3 j2x j3x h H locs ls hP hl KK
        obtain ⟨y, h, hz⟩ := lp_h h
        refine lv_iload_n hx hb dX10_isClear_21 rfl (lv_at hl 3 rfl) ?_
        refine lv_aload_n hx hb dX10_isClear_22 rfl (lv_at hl 0 rfl) ?_
        refine g_get hC hP fg_X10_154 0 rfl rfl dX10_isClear_23 ?_
        refine lv_icmp_ge (tgt := 68) hx hb dX10_isClear_26 (by decide) (fun c4 => ?_) (fun c4 => ?_)
        · have h := if_t c4 h
          cases lp_e h hz
          exact KK H locs ls hP (lv_sub hl [0, 1, 2, 3] rfl)
        · have h := if_f c4 h
          refine lv_iload_n hx hb dX10_isClear_29 rfl (lv_at hl 2 rfl) ?_
          refine lv_if_eq (tgt := 60) hx hb dX10_isClear_30 (by decide) (fun c5 => ?_) (fun c5 => ?_)
          · have h := if_t c5 h
            refine lv_iconst (v := 0) hx hb dX10_isClear_60 (by decide) ?_
            refine lv_istore_n (lv' := [(2, .int 0), (0, .ref q0), (1, .int x1), (3, .int j3)]) hx hb dX10_isClear_61 rfl hl (by decide) rfl (fun ls hl => ?_)
            refine lv_iinc (v := (j3 + 1)) (lv' := [(3, .int (j3 + 1)), (2, .int 0), (0, .ref q0), (1, .int x1)]) hx hb dX10_isClear_62 hl (k := 3) rfl rfl (by decide) rfl (fun ls hl => ?_)
            refine lv_goto (tgt := 21) hx hb dX10_isClear_65 (by decide) ?_
            exact ih _ _ _ _ (lp_n h hz) H locs ls hP (lv_sub hl [2, 3, 1, 0] rfl) KK
          · have h := if_f c5 h
            refine lv_aload_n hx hb dX10_isClear_33 rfl (lv_at hl 0 rfl) ?_
            refine g_get hC hP fg_X10_13 0 rfl rfl dX10_isClear_34 ?_
            refine lv_iload_n hx hb dX10_isClear_37 rfl (lv_at hl 1 rfl) ?_
            refine lv_iload_n hx hb dX10_isClear_38 rfl (lv_at hl 3 rfl) ?_
            refine lv_iadd hx hb dX10_isClear_39 ?_
            refine lv_bipush (v := 40) hx hb dX10_isClear_40 (by decide) ?_
            refine lv_icmp_ge (tgt := 51) hx hb dX10_isClear_42 (by decide) (fun c6 => ?_) (fun c6 => ?_)
            · have h := if_t c6 h
              refine lv_iconst (v := 0) hx hb dX10_isClear_51 (by decide) ?_
              obtain ⟨hin, h⟩ := rd_h h
              refine g_zald hC hP 1 2 rfl rfl hin dX10_isClear_52 (fun v7 ev => ?_)
              have h := h v7 ev
              refine lv_if_ne (tgt := 60) hx hb dX10_isClear_53 (by decide) (fun c8 => ?_) (fun c8 => ?_)
              · have h := if_f c8 h
                refine lv_iconst (v := 0) hx hb dX10_isClear_60 (by decide) ?_
                refine lv_istore_n (lv' := [(2, .int 0), (0, .ref q0), (1, .int x1), (3, .int j3)]) hx hb dX10_isClear_61 rfl hl (by decide) rfl (fun ls hl => ?_)
                refine lv_iinc (v := (j3 + 1)) (lv' := [(3, .int (j3 + 1)), (2, .int 0), (0, .ref q0), (1, .int x1)]) hx hb dX10_isClear_62 hl (k := 3) rfl rfl (by decide) rfl (fun ls hl => ?_)
                refine lv_goto (tgt := 21) hx hb dX10_isClear_65 (by decide) ?_
                exact ih _ _ _ _ (lp_n h hz) H locs ls hP (lv_sub hl [2, 3, 1, 0] rfl) KK
              · have h := if_t c8 h
                refine lv_iconst (v := 1) hx hb dX10_isClear_56 (by decide) ?_
                refine lv_goto (tgt := 61) hx hb dX10_isClear_57 (by decide) ?_
                refine lv_istore_n (lv' := [(2, .int 1), (0, .ref q0), (1, .int x1), (3, .int j3)]) hx hb dX10_isClear_61 rfl hl (by decide) rfl (fun ls hl => ?_)
                refine lv_iinc (v := (j3 + 1)) (lv' := [(3, .int (j3 + 1)), (2, .int 1), (0, .ref q0), (1, .int x1)]) hx hb dX10_isClear_62 hl (k := 3) rfl rfl (by decide) rfl (fun ls hl => ?_)
                refine lv_goto (tgt := 21) hx hb dX10_isClear_65 (by decide) ?_
                exact ih _ _ _ _ (lp_n h hz) H locs ls hP (lv_sub hl [2, 3, 1, 0] rfl) KK
            · have h := if_f c6 h
              refine lv_iload_n hx hb dX10_isClear_45 rfl (lv_at hl 1 rfl) ?_
              refine lv_iload_n hx hb dX10_isClear_46 rfl (lv_at hl 3 rfl) ?_
              refine lv_iadd hx hb dX10_isClear_47 ?_
              refine lv_goto (tgt := 52) hx hb dX10_isClear_48 (by decide) ?_
              obtain ⟨hin, h⟩ := rd_h h
              refine g_zald hC hP 1 2 rfl rfl hin dX10_isClear_52 (fun v9 ev => ?_)
              have h := h v9 ev
              refine lv_if_ne (tgt := 60) hx hb dX10_isClear_53 (by decide) (fun c10 => ?_) (fun c10 => ?_)
              · have h := if_f c10 h
                refine lv_iconst (v := 0) hx hb dX10_isClear_60 (by decide) ?_
                refine lv_istore_n (lv' := [(2, .int 0), (0, .ref q0), (1, .int x1), (3, .int j3)]) hx hb dX10_isClear_61 rfl hl (by decide) rfl (fun ls hl => ?_)
                refine lv_iinc (v := (j3 + 1)) (lv' := [(3, .int (j3 + 1)), (2, .int 0), (0, .ref q0), (1, .int x1)]) hx hb dX10_isClear_62 hl (k := 3) rfl rfl (by decide) rfl (fun ls hl => ?_)
                refine lv_goto (tgt := 21) hx hb dX10_isClear_65 (by decide) ?_
                exact ih _ _ _ _ (lp_n h hz) H locs ls hP (lv_sub hl [2, 3, 1, 0] rfl) KK
              · have h := if_t c10 h
                refine lv_iconst (v := 1) hx hb dX10_isClear_56 (by decide) ?_
                refine lv_goto (tgt := 61) hx hb dX10_isClear_57 (by decide) ?_
                refine lv_istore_n (lv' := [(2, .int 1), (0, .ref q0), (1, .int x1), (3, .int j3)]) hx hb dX10_isClear_61 rfl hl (by decide) rfl (fun ls hl => ?_)
                refine lv_iinc (v := (j3 + 1)) (lv' := [(3, .int (j3 + 1)), (2, .int 1), (0, .ref q0), (1, .int x1)]) hx hb dX10_isClear_62 hl (k := 3) rfl rfl (by decide) rfl (fun ls hl => ?_)
                refine lv_goto (tgt := 21) hx hb dX10_isClear_65 (by decide) ?_
                exact ih _ _ _ _ (lp_n h hz) H locs ls hP (lv_sub hl [2, 3, 1, 0] rfl) KK
    refine L1 FU _ _ j2x j3x hlp H locs ls hP (lv_sub hl [2, 3, 1, 0] rfl) (fun H locs ls hP hl => ?_)
    refine lv_iload_n hx hb dX10_isClear_68 rfl (lv_at hl 2 rfl) ?_
    rw [eZ]
    exact ret_z hC hr (by have e : j2x = ret := Option.some.inj h; rw [e]; exact bz_X10_isClear hu0) hlk hP dX10_isClear_69 () (⟨Option.some.inj h, rfl⟩) rfl
  · have h := if_f c1 h
    refine lv_iconst (v := 1) hx hb dX10_isClear_13 (by decide) ?_
    refine lv_goto (tgt := 18) hx hb dX10_isClear_14 (by decide) ?_
    refine lv_istore_n (lv' := [(2, .int 1), (0, .ref q0), (1, .int x1)]) hx hb dX10_isClear_18 rfl hl (by decide) rfl (fun ls hl => ?_)
    refine lv_iconst (v := 0) hx hb dX10_isClear_19 (by decide) ?_
    refine lv_istore_n (lv' := [(3, .int 0), (2, .int 1), (0, .ref q0), (1, .int x1)]) hx hb dX10_isClear_20 rfl hl (by decide) rfl (fun ls hl => ?_)
    obtain ⟨⟨j11x, j12x⟩, hlp, h⟩ := bnd_h h
    have L2 : ∀ (n : Nat) (j11 : Int32) (j12 : Int32) (j11x : Int32) (j12x : Int32), lp (u2 (b_X10_isClear_2 block knot x1)) n (j11, j12) = some (j11x, j12x) → ∀ (H : Heap) (locs : List Loc) (ls : Array Slot), PD (dC, dI) A s.heap [(q0, .inr (10, [.int feetMany, .ref q1, .int log_, .int block, .ref q2, .int stocking, .ref q3, .int acts, .ref q4, .int keeps, .ref q5, .int hears, .ref q6, .ref q7, .int texted, .int at_, .ref q8, .ref q9, .int readFeetMany, .ref q10, .int readLog, .int readBlock, .ref q11, .int readStocking, .ref q12, .int lefts_, .int rights_, .ref q13, .ref q14, .ref q15, .ref q16, .ref q17])), (q2, .inl (cc 2, 40, .inl knot))] H locs → lv_has ls 4 [(0, .ref q0), (1, .int x1), (2, .int j11), (3, .int j12)] → (∀ (H : Heap) (locs : List Loc) (ls : Array Slot), PD (dC, dI) A s.heap [(q0, .inr (10, [.int feetMany, .ref q1, .int log_, .int block, .ref q2, .int stocking, .ref q3, .int acts, .ref q4, .int keeps, .ref q5, .int hears, .ref q6, .ref q7, .int texted, .int at_, .ref q8, .ref q9, .int readFeetMany, .ref q10, .int readLog, .int readBlock, .ref q11, .int readStocking, .ref q12, .int lefts_, .int rights_, .ref q13, .ref q14, .ref q15, .ref q16, .ref q17])), (q2, .inl (cc 2, 40, .inl knot))] H locs → lv_has ls 4 [(0, .ref q0), (1, .int x1), (2, .int j11x), (3, .int j12x)] → W p l e ({ frames := 0, cells := 0, slots := 0, locals := 0 } : Room) s m ([.ref q0, .int x1] : List Value).toArray below meth c H locs 0 0 Z (F0 m 68 ls [])) → W p l e ({ frames := 0, cells := 0, slots := 0, locals := 0 } : Room) s m ([.ref q0, .int x1] : List Value).toArray below meth c H locs 0 0 Z (F0 m 21 ls []) := by
      intro n
      induction n with
      | zero => intro j11 j12 j11x j12x h; exact (lp_0 h).elim
      | succ n ih =>
        intro j11 j12 j11x j12x h H locs ls hP hl KK
        obtain ⟨y, h, hz⟩ := lp_h h
        refine lv_iload_n hx hb dX10_isClear_21 rfl (lv_at hl 3 rfl) ?_
        refine lv_aload_n hx hb dX10_isClear_22 rfl (lv_at hl 0 rfl) ?_
        refine g_get hC hP fg_X10_154 0 rfl rfl dX10_isClear_23 ?_
        refine lv_icmp_ge (tgt := 68) hx hb dX10_isClear_26 (by decide) (fun c13 => ?_) (fun c13 => ?_)
        · have h := if_t c13 h
          cases lp_e h hz
          exact KK H locs ls hP (lv_sub hl [0, 1, 2, 3] rfl)
        · have h := if_f c13 h
          refine lv_iload_n hx hb dX10_isClear_29 rfl (lv_at hl 2 rfl) ?_
          refine lv_if_eq (tgt := 60) hx hb dX10_isClear_30 (by decide) (fun c14 => ?_) (fun c14 => ?_)
          · have h := if_t c14 h
            refine lv_iconst (v := 0) hx hb dX10_isClear_60 (by decide) ?_
            refine lv_istore_n (lv' := [(2, .int 0), (0, .ref q0), (1, .int x1), (3, .int j12)]) hx hb dX10_isClear_61 rfl hl (by decide) rfl (fun ls hl => ?_)
            refine lv_iinc (v := (j12 + 1)) (lv' := [(3, .int (j12 + 1)), (2, .int 0), (0, .ref q0), (1, .int x1)]) hx hb dX10_isClear_62 hl (k := 3) rfl rfl (by decide) rfl (fun ls hl => ?_)
            refine lv_goto (tgt := 21) hx hb dX10_isClear_65 (by decide) ?_
            exact ih _ _ _ _ (lp_n h hz) H locs ls hP (lv_sub hl [2, 3, 1, 0] rfl) KK
          · have h := if_f c14 h
            refine lv_aload_n hx hb dX10_isClear_33 rfl (lv_at hl 0 rfl) ?_
            refine g_get hC hP fg_X10_13 0 rfl rfl dX10_isClear_34 ?_
            refine lv_iload_n hx hb dX10_isClear_37 rfl (lv_at hl 1 rfl) ?_
            refine lv_iload_n hx hb dX10_isClear_38 rfl (lv_at hl 3 rfl) ?_
            refine lv_iadd hx hb dX10_isClear_39 ?_
            refine lv_bipush (v := 40) hx hb dX10_isClear_40 (by decide) ?_
            refine lv_icmp_ge (tgt := 51) hx hb dX10_isClear_42 (by decide) (fun c15 => ?_) (fun c15 => ?_)
            · have h := if_t c15 h
              refine lv_iconst (v := 0) hx hb dX10_isClear_51 (by decide) ?_
              obtain ⟨hin, h⟩ := rd_h h
              refine g_zald hC hP 1 2 rfl rfl hin dX10_isClear_52 (fun v16 ev => ?_)
              have h := h v16 ev
              refine lv_if_ne (tgt := 60) hx hb dX10_isClear_53 (by decide) (fun c17 => ?_) (fun c17 => ?_)
              · have h := if_f c17 h
                refine lv_iconst (v := 0) hx hb dX10_isClear_60 (by decide) ?_
                refine lv_istore_n (lv' := [(2, .int 0), (0, .ref q0), (1, .int x1), (3, .int j12)]) hx hb dX10_isClear_61 rfl hl (by decide) rfl (fun ls hl => ?_)
                refine lv_iinc (v := (j12 + 1)) (lv' := [(3, .int (j12 + 1)), (2, .int 0), (0, .ref q0), (1, .int x1)]) hx hb dX10_isClear_62 hl (k := 3) rfl rfl (by decide) rfl (fun ls hl => ?_)
                refine lv_goto (tgt := 21) hx hb dX10_isClear_65 (by decide) ?_
                exact ih _ _ _ _ (lp_n h hz) H locs ls hP (lv_sub hl [2, 3, 1, 0] rfl) KK
              · have h := if_t c17 h
                refine lv_iconst (v := 1) hx hb dX10_isClear_56 (by decide) ?_
                refine lv_goto (tgt := 61) hx hb dX10_isClear_57 (by decide) ?_
                refine lv_istore_n (lv' := [(2, .int 1), (0, .ref q0), (1, .int x1), (3, .int j12)]) hx hb dX10_isClear_61 rfl hl (by decide) rfl (fun ls hl => ?_)
                refine lv_iinc (v := (j12 + 1)) (lv' := [(3, .int (j12 + 1)), (2, .int 1), (0, .ref q0), (1, .int x1)]) hx hb dX10_isClear_62 hl (k := 3) rfl rfl (by decide) rfl (fun ls hl => ?_)
                refine lv_goto (tgt := 21) hx hb dX10_isClear_65 (by decide) ?_
                exact ih _ _ _ _ (lp_n h hz) H locs ls hP (lv_sub hl [2, 3, 1, 0] rfl) KK
            · have h := if_f c15 h
              refine lv_iload_n hx hb dX10_isClear_45 rfl (lv_at hl 1 rfl) ?_
              refine lv_iload_n hx hb dX10_isClear_46 rfl (lv_at hl 3 rfl) ?_
              refine lv_iadd hx hb dX10_isClear_47 ?_
              refine lv_goto (tgt := 52) hx hb dX10_isClear_48 (by decide) ?_
              obtain ⟨hin, h⟩ := rd_h h
              refine g_zald hC hP 1 2 rfl rfl hin dX10_isClear_52 (fun v18 ev => ?_)
              have h := h v18 ev
              refine lv_if_ne (tgt := 60) hx hb dX10_isClear_53 (by decide) (fun c19 => ?_) (fun c19 => ?_)
              · have h := if_f c19 h
                refine lv_iconst (v := 0) hx hb dX10_isClear_60 (by decide) ?_
                refine lv_istore_n (lv' := [(2, .int 0), (0, .ref q0), (1, .int x1), (3, .int j12)]) hx hb dX10_isClear_61 rfl hl (by decide) rfl (fun ls hl => ?_)
                refine lv_iinc (v := (j12 + 1)) (lv' := [(3, .int (j12 + 1)), (2, .int 0), (0, .ref q0), (1, .int x1)]) hx hb dX10_isClear_62 hl (k := 3) rfl rfl (by decide) rfl (fun ls hl => ?_)
                refine lv_goto (tgt := 21) hx hb dX10_isClear_65 (by decide) ?_
                exact ih _ _ _ _ (lp_n h hz) H locs ls hP (lv_sub hl [2, 3, 1, 0] rfl) KK
              · have h := if_t c19 h
                refine lv_iconst (v := 1) hx hb dX10_isClear_56 (by decide) ?_
                refine lv_goto (tgt := 61) hx hb dX10_isClear_57 (by decide) ?_
                refine lv_istore_n (lv' := [(2, .int 1), (0, .ref q0), (1, .int x1), (3, .int j12)]) hx hb dX10_isClear_61 rfl hl (by decide) rfl (fun ls hl => ?_)
                refine lv_iinc (v := (j12 + 1)) (lv' := [(3, .int (j12 + 1)), (2, .int 1), (0, .ref q0), (1, .int x1)]) hx hb dX10_isClear_62 hl (k := 3) rfl rfl (by decide) rfl (fun ls hl => ?_)
                refine lv_goto (tgt := 21) hx hb dX10_isClear_65 (by decide) ?_
                exact ih _ _ _ _ (lp_n h hz) H locs ls hP (lv_sub hl [2, 3, 1, 0] rfl) KK
    refine L2 FU _ _ j11x j12x hlp H locs ls hP (lv_sub hl [2, 3, 1, 0] rfl) (fun H locs ls hP hl => ?_)
    refine lv_iload_n hx hb dX10_isClear_68 rfl (lv_at hl 2 rfl) ?_
    rw [eZ]
    exact ret_z hC hr (by have e : j11x = ret := Option.some.inj h; rw [e]; exact bz_X10_isClear hu0) hlk hP dX10_isClear_69 () (⟨Option.some.inj h, rfl⟩) rfl
set_option maxHeartbeats 8000000 in
set_option maxRecDepth 100000 in
theorem c_X10_sawn (l : Launch) (dC : Nat → ClassId) (dI : Nat → Nat → Nat) (cc : Nat → ClassId) (q0 q1 q2 q3 q4 q5 q6 q7 q8 q9 q10 q11 q12 q13 q14 q15 q16 q17 : Nat) (feetMany : Int32) (log_ : Int32) (block : Int32) (stocking : Int32) (acts : Int32) (keeps : Int32) (hears : Int32) (texted : Int32) (at_ : Int32) (readFeetMany : Int32) (readLog : Int32) (readBlock : Int32) (readStocking : Int32) (lefts_ : Int32) (rights_ : Int32) (knot : (Nat → Int32)) (x1 : Int32) (sz : Nat) (ret : Int32) (hu : f_X10_sawn x1 log_ block knot = some ret) : Met l yX10_sawn (mw yX10_sawn cX10_sawn 6 (some .int)) ({ frames := 1, cells := 0, slots := 0, locals := 23 } : Room) (va_Pc [.ref q0, .int x1] (mP (dC, dI) (ts cc) sz [(q0, .inr (10, [.int feetMany, .ref q1, .int log_, .int block, .ref q2, .int stocking, .ref q3, .int acts, .ref q4, .int keeps, .ref q5, .int hears, .ref q6, .ref q7, .int texted, .int at_, .ref q8, .ref q9, .int readFeetMany, .ref q10, .int readLog, .int readBlock, .ref q11, .int readStocking, .ref q12, .int lefts_, .int rights_, .ref q13, .ref q14, .ref q15, .ref q16, .ref q17])), (q2, .inl (cc 2, 40, .inl knot))])) ((fun A => va_Qi (fun (r : Int32) (w : Unit) => r = ret ∧ w = ()) (fun (w : Unit) t => va_P (dC, dI) classes [(q0, .inr (10, [.int feetMany, .ref q1, .int log_, .int block, .ref q2, .int stocking, .ref q3, .int acts, .ref q4, .int keeps, .ref q5, .int hears, .ref q6, .ref q7, .int texted, .int at_, .ref q8, .ref q9, .int readFeetMany, .ref q10, .int readLog, .int readBlock, .ref q11, .int readStocking, .ref q12, .int lefts_, .int rights_, .ref q13, .ref q14, .ref q15, .ref q16, .ref q17])), (q2, .inl (cc 2, 40, .inl knot))] t.heap) A) (va_A [(q0, .inr (10, [.int feetMany, .ref q1, .int log_, .int block, .ref q2, .int stocking, .ref q3, .int acts, .ref q4, .int keeps, .ref q5, .int hears, .ref q6, .ref q7, .int texted, .int at_, .ref q8, .ref q9, .int readFeetMany, .ref q10, .int readLog, .int readBlock, .ref q11, .int readStocking, .ref q12, .int lefts_, .int rights_, .ref q13, .ref q14, .ref q15, .ref q16, .ref q17])), (q2, .inl (cc 2, 40, .inl knot))] sz)) 0 0 (va_A [(q0, .inr (10, [.int feetMany, .ref q1, .int log_, .int block, .ref q2, .int stocking, .ref q3, .int acts, .ref q4, .int keeps, .ref q5, .int hears, .ref q6, .ref q7, .int texted, .int at_, .ref q8, .ref q9, .int readFeetMany, .ref q10, .int readLog, .int readBlock, .ref q11, .int readStocking, .ref q12, .int lefts_, .int rights_, .ref q13, .ref q14, .ref q15, .ref q16, .ref q17])), (q2, .inl (cc 2, 40, .inl knot))] sz) := by
  refine met_go (Qc := fun A => va_Qi (fun (r : Int32) (w : Unit) => r = ret ∧ w = ()) (fun (w : Unit) t => va_P (dC, dI) classes [(q0, .inr (10, [.int feetMany, .ref q1, .int log_, .int block, .ref q2, .int stocking, .ref q3, .int acts, .ref q4, .int keeps, .ref q5, .int hears, .ref q6, .ref q7, .int texted, .int at_, .ref q8, .ref q9, .int readFeetMany, .ref q10, .int readLog, .int readBlock, .ref q11, .int readStocking, .ref q12, .int lefts_, .int rights_, .ref q13, .ref q14, .ref q15, .ref q16, .ref q17])), (q2, .inl (cc 2, 40, .inl knot))] t.heap) A) (by decide) (Nat.le_of_ble_eq_true rfl) ?_
  intro p e s m below meth c A ls H locs hC hr hlk hin hA hP hl _
  have hC : CX p m c cX10_sawn 6 s ([.ref q0, .int x1] : List Value).toArray RX10 (dC, dI) (ts cc) := hC
  have hx := hC.1.1
  have hb := hC.1.2
  have h := hu
  have hu0 := hu
  unfold f_X10_sawn at h
  have hl : lv_has ls 6 [(0, .ref q0), (1, .int x1)] := hl
  refine W_abs (fun Z eZ => ?_)
  refine lv_iload_n hx hb dX10_sawn_0 rfl (lv_at hl 1 rfl) ?_
  refine lv_iconst (v := -1) hx hb dX10_sawn_1 (by decide) ?_
  refine lv_icmp_ge (tgt := 7) hx hb dX10_sawn_2 (by decide) (fun c1 => ?_) (fun c1 => ?_)
  · have h := if_t c1 h
    refine lv_iconst (v := 0) hx hb dX10_sawn_7 (by decide) ?_
    refine lv_istore_n (lv' := [(2, .int 0), (0, .ref q0), (1, .int x1)]) hx hb dX10_sawn_8 rfl hl (by decide) rfl (fun ls hl => ?_)
    refine lv_iconst (v := 0) hx hb dX10_sawn_9 (by decide) ?_
    refine lv_istore_n (lv' := [(3, .int 0), (2, .int 0), (0, .ref q0), (1, .int x1)]) hx hb dX10_sawn_10 rfl hl (by decide) rfl (fun ls hl => ?_)
    refine lv_bipush (v := -4) hx hb dX10_sawn_11 (by decide) ?_
    refine lv_istore (lv' := [(4, .int (-4)), (3, .int 0), (2, .int 0), (0, .ref q0), (1, .int x1)]) hx hb dX10_sawn_13 hl (by decide) rfl (fun ls hl => ?_)
    obtain ⟨⟨j2x, j3x, j4x⟩, hlp, h⟩ := bnd_h h
    have L1 : ∀ (n : Nat) (j2 : Int32) (j3 : Int32) (j4 : Int32) (j2x : Int32) (j3x : Int32) (j4x : Int32), lp (u3 (b_X10_sawn_1 block knot log_ x1)) n (j2, j3, j4) = some (j2x, j3x, j4x) → ∀ (H : Heap) (locs : List Loc) (ls : Array Slot), PD (dC, dI) A s.heap [(q0, .inr (10, [.int feetMany, .ref q1, .int log_, .int block, .ref q2, .int stocking, .ref q3, .int acts, .ref q4, .int keeps, .ref q5, .int hears, .ref q6, .ref q7, .int texted, .int at_, .ref q8, .ref q9, .int readFeetMany, .ref q10, .int readLog, .int readBlock, .ref q11, .int readStocking, .ref q12, .int lefts_, .int rights_, .ref q13, .ref q14, .ref q15, .ref q16, .ref q17])), (q2, .inl (cc 2, 40, .inl knot))] H locs → lv_has ls 6 [(0, .ref q0), (1, .int x1), (2, .int j2), (3, .int j3), (4, .int j4)] → (∀ (H : Heap) (locs : List Loc) (ls : Array Slot), PD (dC, dI) A s.heap [(q0, .inr (10, [.int feetMany, .ref q1, .int log_, .int block, .ref q2, .int stocking, .ref q3, .int acts, .ref q4, .int keeps, .ref q5, .int hears, .ref q6, .ref q7, .int texted, .int at_, .ref q8, .ref q9, .int readFeetMany, .ref q10, .int readLog, .int readBlock, .ref q11, .int readStocking, .ref q12, .int lefts_, .int rights_, .ref q13, .ref q14, .ref q15, .ref q16, .ref q17])), (q2, .inl (cc 2, 40, .inl knot))] H locs → lv_has ls 6 [(0, .ref q0), (1, .int x1), (2, .int j2x), (3, .int j3x), (4, .int j4x)] → W p l e ({ frames := 1, cells := 0, slots := 0, locals := 23 } : Room) s m ([.ref q0, .int x1] : List Value).toArray below meth c H locs 0 0 Z (F0 m 80 ls [])) → W p l e ({ frames := 1, cells := 0, slots := 0, locals := 23 } : Room) s m ([.ref q0, .int x1] : List Value).toArray below meth c H locs 0 0 Z (F0 m 15 ls []) := by
      intro n
      induction n with
      | zero => intro j2 j3 j4 j2x j3x j4x h; exact (lp_0 h).elim
      | succ n ih =>
        intro j2 j3 j4 j2x j3x j4x h H locs ls hP hl KK
        obtain ⟨y, h, hz⟩ := lp_h h
        refine lv_iload_n hx hb dX10_sawn_15 rfl (lv_at hl 3 rfl) ?_
        refine lv_aload_n hx hb dX10_sawn_16 rfl (lv_at hl 0 rfl) ?_
        refine g_get hC hP fg_X10_151 0 rfl rfl dX10_sawn_17 ?_
        refine lv_icmp_ge (tgt := 80) hx hb dX10_sawn_20 (by decide) (fun c5 => ?_) (fun c5 => ?_)
        · have h := if_t c5 h
          cases lp_e h hz
          exact KK H locs ls hP (lv_sub hl [0, 1, 2, 3, 4] rfl)
        · have h := if_f c5 h
          refine lv_aload_n hx hb dX10_sawn_23 rfl (lv_at hl 0 rfl) ?_
          refine lv_iload_n hx hb dX10_sawn_24 rfl (lv_at hl 3 rfl) ?_
          obtain ⟨r6, hu, h⟩ := bnd_h h
          refine kc_z (kV hC (c_X10_isClear l dC dI cc q0 q1 q2 q3 q4 q5 q6 q7 q8 q9 q10 q11 q12 q13 q14 q15 q16 q17 feetMany log_ block stocking acts keeps hears texted at_ readFeetMany readLog readBlock readStocking lefts_ rights_ knot j3 H.size r6 hu) cv_X10_233 kw1100 rfl rfl ⟨(Nat.le_of_ble_eq_true rfl), (Nat.le_of_ble_eq_true rfl)⟩ hP [0, 1] rfl rfl rfl (q0 := 0) rfl (As := [.int j3]) (rest := []) rfl rfl hl.1 (Nat.le_of_ble_eq_true rfl) dX10_sawn_25 ⟨Nat.zero_le _, Nat.zero_le _⟩) hP hA [0, 1] rfl rfl (fun hz_r6 H locs hP => ?_)
          have hP : PD (dC, dI) A s.heap [(q0, .inr (10, [.int feetMany, .ref q1, .int log_, .int block, .ref q2, .int stocking, .ref q3, .int acts, .ref q4, .int keeps, .ref q5, .int hears, .ref q6, .ref q7, .int texted, .int at_, .ref q8, .ref q9, .int readFeetMany, .ref q10, .int readLog, .int readBlock, .ref q11, .int readStocking, .ref q12, .int lefts_, .int rights_, .ref q13, .ref q14, .ref q15, .ref q16, .ref q17])), (q2, .inl (cc 2, 40, .inl knot))] H locs := hP
          refine lv_istore (lv' := [(5, .int r6), (0, .ref q0), (1, .int x1), (2, .int j2), (3, .int j3), (4, .int j4)]) hx hb dX10_sawn_28 hl (by decide) rfl (fun ls hl => ?_)
          refine lv_iload hx hb dX10_sawn_30 (lv_at hl 0 rfl) ?_
          refine lv_if_eq (tgt := 44) hx hb dX10_sawn_32 (by decide) (fun c7 => ?_) (fun c7 => ?_)
          · have h := if_t c7 h
            refine lv_iload hx hb dX10_sawn_44 (lv_at hl 5 rfl) ?_
            refine lv_istore (lv' := [(4, .int j4), (5, .int r6), (0, .ref q0), (1, .int x1), (2, .int j2), (3, .int j3)]) hx hb dX10_sawn_46 hl (by decide) rfl (fun ls hl => ?_)
            refine lv_iload_n hx hb dX10_sawn_48 rfl (lv_at hl 4 rfl) ?_
            refine lv_iload hx hb dX10_sawn_49 (lv_at hl 1 rfl) ?_
            refine lv_if_eq (tgt := 58) hx hb dX10_sawn_51 (by decide) (fun c8 => ?_) (fun c8 => ?_)
            · have h := if_t c8 h
              refine lv_iconst (v := 0) hx hb dX10_sawn_58 (by decide) ?_
              refine lv_iadd hx hb dX10_sawn_59 ?_
              refine lv_istore_n (lv' := [(2, .int (j2 + 0)), (4, .int j4), (5, .int r6), (0, .ref q0), (1, .int x1), (3, .int j3)]) hx hb dX10_sawn_60 rfl hl (by decide) rfl (fun ls hl => ?_)
              refine lv_iload_n hx hb dX10_sawn_61 rfl (lv_at hl 5 rfl) ?_
              refine lv_iload hx hb dX10_sawn_62 (lv_at hl 2 rfl) ?_
              refine lv_if_eq (tgt := 74) hx hb dX10_sawn_64 (by decide) (fun c9 => ?_) (fun c9 => ?_)
              · have h := if_t c9 h
                refine lv_iconst (v := 1) hx hb dX10_sawn_74 (by decide) ?_
                refine lv_iadd hx hb dX10_sawn_75 ?_
                refine lv_istore_n (lv' := [(3, .int (j3 + 1)), (2, .int (j2 + 0)), (4, .int j4), (5, .int r6), (0, .ref q0), (1, .int x1)]) hx hb dX10_sawn_76 rfl hl (by decide) rfl (fun ls hl => ?_)
                refine lv_goto (tgt := 15) hx hb dX10_sawn_77 (by decide) ?_
                exact ih _ _ _ _ _ _ (lp_n h hz) H locs ls hP (lv_sub hl [4, 5, 1, 0, 2] rfl) KK
              · have h := if_f c9 h
                refine lv_aload_n hx hb dX10_sawn_67 rfl (lv_at hl 3 rfl) ?_
                refine g_get hC hP fg_X10_154 0 rfl rfl dX10_sawn_68 ?_
                refine lv_goto (tgt := 75) hx hb dX10_sawn_71 (by decide) ?_
                refine lv_iadd hx hb dX10_sawn_75 ?_
                refine lv_istore_n (lv' := [(3, .int (j3 + block)), (2, .int (j2 + 0)), (4, .int j4), (5, .int r6), (0, .ref q0), (1, .int x1)]) hx hb dX10_sawn_76 rfl hl (by decide) rfl (fun ls hl => ?_)
                refine lv_goto (tgt := 15) hx hb dX10_sawn_77 (by decide) ?_
                exact ih _ _ _ _ _ _ (lp_n h hz) H locs ls hP (lv_sub hl [4, 5, 1, 0, 2] rfl) KK
            · have h := if_f c8 h
              refine lv_iconst (v := 1) hx hb dX10_sawn_54 (by decide) ?_
              refine lv_goto (tgt := 59) hx hb dX10_sawn_55 (by decide) ?_
              refine lv_iadd hx hb dX10_sawn_59 ?_
              refine lv_istore_n (lv' := [(2, .int (j2 + 1)), (4, .int j4), (5, .int r6), (0, .ref q0), (1, .int x1), (3, .int j3)]) hx hb dX10_sawn_60 rfl hl (by decide) rfl (fun ls hl => ?_)
              refine lv_iload_n hx hb dX10_sawn_61 rfl (lv_at hl 5 rfl) ?_
              refine lv_iload hx hb dX10_sawn_62 (lv_at hl 2 rfl) ?_
              refine lv_if_eq (tgt := 74) hx hb dX10_sawn_64 (by decide) (fun c10 => ?_) (fun c10 => ?_)
              · have h := if_t c10 h
                refine lv_iconst (v := 1) hx hb dX10_sawn_74 (by decide) ?_
                refine lv_iadd hx hb dX10_sawn_75 ?_
                refine lv_istore_n (lv' := [(3, .int (j3 + 1)), (2, .int (j2 + 1)), (4, .int j4), (5, .int r6), (0, .ref q0), (1, .int x1)]) hx hb dX10_sawn_76 rfl hl (by decide) rfl (fun ls hl => ?_)
                refine lv_goto (tgt := 15) hx hb dX10_sawn_77 (by decide) ?_
                exact ih _ _ _ _ _ _ (lp_n h hz) H locs ls hP (lv_sub hl [4, 5, 1, 0, 2] rfl) KK
              · have h := if_f c10 h
                refine lv_aload_n hx hb dX10_sawn_67 rfl (lv_at hl 3 rfl) ?_
                refine g_get hC hP fg_X10_154 0 rfl rfl dX10_sawn_68 ?_
                refine lv_goto (tgt := 75) hx hb dX10_sawn_71 (by decide) ?_
                refine lv_iadd hx hb dX10_sawn_75 ?_
                refine lv_istore_n (lv' := [(3, .int (j3 + block)), (2, .int (j2 + 1)), (4, .int j4), (5, .int r6), (0, .ref q0), (1, .int x1)]) hx hb dX10_sawn_76 rfl hl (by decide) rfl (fun ls hl => ?_)
                refine lv_goto (tgt := 15) hx hb dX10_sawn_77 (by decide) ?_
                exact ih _ _ _ _ _ _ (lp_n h hz) H locs ls hP (lv_sub hl [4, 5, 1, 0, 2] rfl) KK
          · have h := if_f c7 h
            refine lv_iload_n hx hb dX10_sawn_35 rfl (lv_at hl 3 rfl) ?_
            refine lv_iload_n hx hb dX10_sawn_36 rfl (lv_at hl 2 rfl) ?_
            refine lv_icmp_ne (tgt := 44) hx hb dX10_sawn_37 (by decide) (fun c11 => ?_) (fun c11 => ?_)
            · have h := if_f c11 h
              refine lv_iload hx hb dX10_sawn_44 (lv_at hl 5 rfl) ?_
              refine lv_istore (lv' := [(4, .int j4), (5, .int r6), (0, .ref q0), (1, .int x1), (2, .int j2), (3, .int j3)]) hx hb dX10_sawn_46 hl (by decide) rfl (fun ls hl => ?_)
              refine lv_iload_n hx hb dX10_sawn_48 rfl (lv_at hl 4 rfl) ?_
              refine lv_iload hx hb dX10_sawn_49 (lv_at hl 1 rfl) ?_
              refine lv_if_eq (tgt := 58) hx hb dX10_sawn_51 (by decide) (fun c12 => ?_) (fun c12 => ?_)
              · have h := if_t c12 h
                refine lv_iconst (v := 0) hx hb dX10_sawn_58 (by decide) ?_
                refine lv_iadd hx hb dX10_sawn_59 ?_
                refine lv_istore_n (lv' := [(2, .int (j2 + 0)), (4, .int j4), (5, .int r6), (0, .ref q0), (1, .int x1), (3, .int j3)]) hx hb dX10_sawn_60 rfl hl (by decide) rfl (fun ls hl => ?_)
                refine lv_iload_n hx hb dX10_sawn_61 rfl (lv_at hl 5 rfl) ?_
                refine lv_iload hx hb dX10_sawn_62 (lv_at hl 2 rfl) ?_
                refine lv_if_eq (tgt := 74) hx hb dX10_sawn_64 (by decide) (fun c13 => ?_) (fun c13 => ?_)
                · have h := if_t c13 h
                  refine lv_iconst (v := 1) hx hb dX10_sawn_74 (by decide) ?_
                  refine lv_iadd hx hb dX10_sawn_75 ?_
                  refine lv_istore_n (lv' := [(3, .int (j3 + 1)), (2, .int (j2 + 0)), (4, .int j4), (5, .int r6), (0, .ref q0), (1, .int x1)]) hx hb dX10_sawn_76 rfl hl (by decide) rfl (fun ls hl => ?_)
                  refine lv_goto (tgt := 15) hx hb dX10_sawn_77 (by decide) ?_
                  exact ih _ _ _ _ _ _ (lp_n h hz) H locs ls hP (lv_sub hl [4, 5, 1, 0, 2] rfl) KK
                · have h := if_f c13 h
                  refine lv_aload_n hx hb dX10_sawn_67 rfl (lv_at hl 3 rfl) ?_
                  refine g_get hC hP fg_X10_154 0 rfl rfl dX10_sawn_68 ?_
                  refine lv_goto (tgt := 75) hx hb dX10_sawn_71 (by decide) ?_
                  refine lv_iadd hx hb dX10_sawn_75 ?_
                  refine lv_istore_n (lv' := [(3, .int (j3 + block)), (2, .int (j2 + 0)), (4, .int j4), (5, .int r6), (0, .ref q0), (1, .int x1)]) hx hb dX10_sawn_76 rfl hl (by decide) rfl (fun ls hl => ?_)
                  refine lv_goto (tgt := 15) hx hb dX10_sawn_77 (by decide) ?_
                  exact ih _ _ _ _ _ _ (lp_n h hz) H locs ls hP (lv_sub hl [4, 5, 1, 0, 2] rfl) KK
              · have h := if_f c12 h
                refine lv_iconst (v := 1) hx hb dX10_sawn_54 (by decide) ?_
                refine lv_goto (tgt := 59) hx hb dX10_sawn_55 (by decide) ?_
                refine lv_iadd hx hb dX10_sawn_59 ?_
                refine lv_istore_n (lv' := [(2, .int (j2 + 1)), (4, .int j4), (5, .int r6), (0, .ref q0), (1, .int x1), (3, .int j3)]) hx hb dX10_sawn_60 rfl hl (by decide) rfl (fun ls hl => ?_)
                refine lv_iload_n hx hb dX10_sawn_61 rfl (lv_at hl 5 rfl) ?_
                refine lv_iload hx hb dX10_sawn_62 (lv_at hl 2 rfl) ?_
                refine lv_if_eq (tgt := 74) hx hb dX10_sawn_64 (by decide) (fun c14 => ?_) (fun c14 => ?_)
                · have h := if_t c14 h
                  refine lv_iconst (v := 1) hx hb dX10_sawn_74 (by decide) ?_
                  refine lv_iadd hx hb dX10_sawn_75 ?_
                  refine lv_istore_n (lv' := [(3, .int (j3 + 1)), (2, .int (j2 + 1)), (4, .int j4), (5, .int r6), (0, .ref q0), (1, .int x1)]) hx hb dX10_sawn_76 rfl hl (by decide) rfl (fun ls hl => ?_)
                  refine lv_goto (tgt := 15) hx hb dX10_sawn_77 (by decide) ?_
                  exact ih _ _ _ _ _ _ (lp_n h hz) H locs ls hP (lv_sub hl [4, 5, 1, 0, 2] rfl) KK
                · have h := if_f c14 h
                  refine lv_aload_n hx hb dX10_sawn_67 rfl (lv_at hl 3 rfl) ?_
                  refine g_get hC hP fg_X10_154 0 rfl rfl dX10_sawn_68 ?_
                  refine lv_goto (tgt := 75) hx hb dX10_sawn_71 (by decide) ?_
                  refine lv_iadd hx hb dX10_sawn_75 ?_
                  refine lv_istore_n (lv' := [(3, .int (j3 + block)), (2, .int (j2 + 1)), (4, .int j4), (5, .int r6), (0, .ref q0), (1, .int x1)]) hx hb dX10_sawn_76 rfl hl (by decide) rfl (fun ls hl => ?_)
                  refine lv_goto (tgt := 15) hx hb dX10_sawn_77 (by decide) ?_
                  exact ih _ _ _ _ _ _ (lp_n h hz) H locs ls hP (lv_sub hl [4, 5, 1, 0, 2] rfl) KK
            · have h := if_t c11 h
              refine lv_iload_n hx hb dX10_sawn_40 rfl (lv_at hl 4 rfl) ?_
              refine lv_goto (tgt := 46) hx hb dX10_sawn_41 (by decide) ?_
              refine lv_istore (lv' := [(4, .int j3), (5, .int r6), (0, .ref q0), (1, .int x1), (2, .int j2), (3, .int j3)]) hx hb dX10_sawn_46 hl (by decide) rfl (fun ls hl => ?_)
              refine lv_iload_n hx hb dX10_sawn_48 rfl (lv_at hl 4 rfl) ?_
              refine lv_iload hx hb dX10_sawn_49 (lv_at hl 1 rfl) ?_
              refine lv_if_eq (tgt := 58) hx hb dX10_sawn_51 (by decide) (fun c15 => ?_) (fun c15 => ?_)
              · have h := if_t c15 h
                refine lv_iconst (v := 0) hx hb dX10_sawn_58 (by decide) ?_
                refine lv_iadd hx hb dX10_sawn_59 ?_
                refine lv_istore_n (lv' := [(2, .int (j2 + 0)), (4, .int j3), (5, .int r6), (0, .ref q0), (1, .int x1), (3, .int j3)]) hx hb dX10_sawn_60 rfl hl (by decide) rfl (fun ls hl => ?_)
                refine lv_iload_n hx hb dX10_sawn_61 rfl (lv_at hl 5 rfl) ?_
                refine lv_iload hx hb dX10_sawn_62 (lv_at hl 2 rfl) ?_
                refine lv_if_eq (tgt := 74) hx hb dX10_sawn_64 (by decide) (fun c16 => ?_) (fun c16 => ?_)
                · have h := if_t c16 h
                  refine lv_iconst (v := 1) hx hb dX10_sawn_74 (by decide) ?_
                  refine lv_iadd hx hb dX10_sawn_75 ?_
                  refine lv_istore_n (lv' := [(3, .int (j3 + 1)), (2, .int (j2 + 0)), (4, .int j3), (5, .int r6), (0, .ref q0), (1, .int x1)]) hx hb dX10_sawn_76 rfl hl (by decide) rfl (fun ls hl => ?_)
                  refine lv_goto (tgt := 15) hx hb dX10_sawn_77 (by decide) ?_
                  exact ih _ _ _ _ _ _ (lp_n h hz) H locs ls hP (lv_sub hl [4, 5, 1, 0, 2] rfl) KK
                · have h := if_f c16 h
                  refine lv_aload_n hx hb dX10_sawn_67 rfl (lv_at hl 3 rfl) ?_
                  refine g_get hC hP fg_X10_154 0 rfl rfl dX10_sawn_68 ?_
                  refine lv_goto (tgt := 75) hx hb dX10_sawn_71 (by decide) ?_
                  refine lv_iadd hx hb dX10_sawn_75 ?_
                  refine lv_istore_n (lv' := [(3, .int (j3 + block)), (2, .int (j2 + 0)), (4, .int j3), (5, .int r6), (0, .ref q0), (1, .int x1)]) hx hb dX10_sawn_76 rfl hl (by decide) rfl (fun ls hl => ?_)
                  refine lv_goto (tgt := 15) hx hb dX10_sawn_77 (by decide) ?_
                  exact ih _ _ _ _ _ _ (lp_n h hz) H locs ls hP (lv_sub hl [4, 5, 1, 0, 2] rfl) KK
              · have h := if_f c15 h
                refine lv_iconst (v := 1) hx hb dX10_sawn_54 (by decide) ?_
                refine lv_goto (tgt := 59) hx hb dX10_sawn_55 (by decide) ?_
                refine lv_iadd hx hb dX10_sawn_59 ?_
                refine lv_istore_n (lv' := [(2, .int (j2 + 1)), (4, .int j3), (5, .int r6), (0, .ref q0), (1, .int x1), (3, .int j3)]) hx hb dX10_sawn_60 rfl hl (by decide) rfl (fun ls hl => ?_)
                refine lv_iload_n hx hb dX10_sawn_61 rfl (lv_at hl 5 rfl) ?_
                refine lv_iload hx hb dX10_sawn_62 (lv_at hl 2 rfl) ?_
                refine lv_if_eq (tgt := 74) hx hb dX10_sawn_64 (by decide) (fun c17 => ?_) (fun c17 => ?_)
                · have h := if_t c17 h
                  refine lv_iconst (v := 1) hx hb dX10_sawn_74 (by decide) ?_
                  refine lv_iadd hx hb dX10_sawn_75 ?_
                  refine lv_istore_n (lv' := [(3, .int (j3 + 1)), (2, .int (j2 + 1)), (4, .int j3), (5, .int r6), (0, .ref q0), (1, .int x1)]) hx hb dX10_sawn_76 rfl hl (by decide) rfl (fun ls hl => ?_)
                  refine lv_goto (tgt := 15) hx hb dX10_sawn_77 (by decide) ?_
                  exact ih _ _ _ _ _ _ (lp_n h hz) H locs ls hP (lv_sub hl [4, 5, 1, 0, 2] rfl) KK
                · have h := if_f c17 h
                  refine lv_aload_n hx hb dX10_sawn_67 rfl (lv_at hl 3 rfl) ?_
                  refine g_get hC hP fg_X10_154 0 rfl rfl dX10_sawn_68 ?_
                  refine lv_goto (tgt := 75) hx hb dX10_sawn_71 (by decide) ?_
                  refine lv_iadd hx hb dX10_sawn_75 ?_
                  refine lv_istore_n (lv' := [(3, .int (j3 + block)), (2, .int (j2 + 1)), (4, .int j3), (5, .int r6), (0, .ref q0), (1, .int x1)]) hx hb dX10_sawn_76 rfl hl (by decide) rfl (fun ls hl => ?_)
                  refine lv_goto (tgt := 15) hx hb dX10_sawn_77 (by decide) ?_
                  exact ih _ _ _ _ _ _ (lp_n h hz) H locs ls hP (lv_sub hl [4, 5, 1, 0, 2] rfl) KK
    refine L1 FU _ _ _ j2x j3x j4x hlp H locs ls hP (lv_sub hl [3, 4, 2, 1, 0] rfl) (fun H locs ls hP hl => ?_)
    refine lv_iload_n hx hb dX10_sawn_80 rfl (lv_at hl 1 rfl) ?_
    refine lv_if_ge (tgt := 88) hx hb dX10_sawn_81 (by decide) (fun c18 => ?_) (fun c18 => ?_)
    · have h := if_t c18 h
      refine lv_iload hx hb dX10_sawn_88 (lv_at hl 4 rfl) ?_
      rw [eZ]
      exact ret_i hC hr hlk hP dX10_sawn_90 () (⟨Option.some.inj h, rfl⟩) rfl
    · have h := if_f c18 h
      refine lv_iload_n hx hb dX10_sawn_84 rfl (lv_at hl 2 rfl) ?_
      refine lv_goto (tgt := 90) hx hb dX10_sawn_85 (by decide) ?_
      rw [eZ]
      exact ret_i hC hr hlk hP dX10_sawn_90 () (⟨Option.some.inj h, rfl⟩) rfl
  · have h := if_f c1 h
    refine lv_iconst (v := -1) hx hb dX10_sawn_5 (by decide) ?_
    rw [eZ]
    exact ret_i hC hr hlk hP dX10_sawn_6 () (⟨Option.some.inj h, rfl⟩) rfl
set_option maxHeartbeats 8000000 in
set_option maxRecDepth 100000 in
theorem c_X10_sizes (l : Launch) (dC : Nat → ClassId) (dI : Nat → Nat → Nat) (cc : Nat → ClassId) (q0 q1 q2 q3 q4 q5 q6 q7 q8 q9 q10 q11 q12 q13 q14 q15 q16 q17 : Nat) (feetMany : Int32) (log_ : Int32) (block : Int32) (stocking : Int32) (acts : Int32) (keeps : Int32) (hears : Int32) (texted : Int32) (at_ : Int32) (readFeetMany : Int32) (readLog : Int32) (readBlock : Int32) (readStocking : Int32) (lefts_ : Int32) (rights_ : Int32) (st : (Nat → Int32)) (now_ : (Nat → Int32)) (x1 : Int32) (x2 : Int32) (sz : Nat) (ret : Int32) (o_now_ : (Nat → Int32)) (hu : f_X10_sizes x1 x2 st now_ = some (ret, o_now_)) : Met l yX10_sizes (mw yX10_sizes cX10_sizes 8 (some .int)) ({ frames := 2, cells := 0, slots := 0, locals := 45 } : Room) (va_Pc [.ref q0, .int x1, .int x2] (mP (dC, dI) (ts cc) sz [(q0, .inr (10, [.int feetMany, .ref q1, .int log_, .int block, .ref q2, .int stocking, .ref q3, .int acts, .ref q4, .int keeps, .ref q5, .int hears, .ref q6, .ref q7, .int texted, .int at_, .ref q8, .ref q9, .int readFeetMany, .ref q10, .int readLog, .int readBlock, .ref q11, .int readStocking, .ref q12, .int lefts_, .int rights_, .ref q13, .ref q14, .ref q15, .ref q16, .ref q17])), (q3, .inl (cc 0, 52, .inl st)), (q12, .inl (cc 0, 52, .inl now_))])) ((fun A => va_Qi (fun (r : Int32) (w : (Nat → Int32)) => r = ret ∧ w = o_now_) (fun (w : (Nat → Int32)) t => va_P (dC, dI) classes [(q0, .inr (10, [.int feetMany, .ref q1, .int log_, .int block, .ref q2, .int stocking, .ref q3, .int acts, .ref q4, .int keeps, .ref q5, .int hears, .ref q6, .ref q7, .int texted, .int at_, .ref q8, .ref q9, .int readFeetMany, .ref q10, .int readLog, .int readBlock, .ref q11, .int readStocking, .ref q12, .int lefts_, .int rights_, .ref q13, .ref q14, .ref q15, .ref q16, .ref q17])), (q3, .inl (cc 0, 52, .inl st)), (q12, .inl (cc 0, 52, .inl w))] t.heap) A) (va_A [(q0, .inr (10, [.int feetMany, .ref q1, .int log_, .int block, .ref q2, .int stocking, .ref q3, .int acts, .ref q4, .int keeps, .ref q5, .int hears, .ref q6, .ref q7, .int texted, .int at_, .ref q8, .ref q9, .int readFeetMany, .ref q10, .int readLog, .int readBlock, .ref q11, .int readStocking, .ref q12, .int lefts_, .int rights_, .ref q13, .ref q14, .ref q15, .ref q16, .ref q17])), (q3, .inl (cc 0, 52, .inl st)), (q12, .inl (cc 0, 52, .inl now_))] sz)) 0 0 (va_A [(q0, .inr (10, [.int feetMany, .ref q1, .int log_, .int block, .ref q2, .int stocking, .ref q3, .int acts, .ref q4, .int keeps, .ref q5, .int hears, .ref q6, .ref q7, .int texted, .int at_, .ref q8, .ref q9, .int readFeetMany, .ref q10, .int readLog, .int readBlock, .ref q11, .int readStocking, .ref q12, .int lefts_, .int rights_, .ref q13, .ref q14, .ref q15, .ref q16, .ref q17])), (q3, .inl (cc 0, 52, .inl st)), (q12, .inl (cc 0, 52, .inl now_))] sz) := by
  refine met_go (Qc := fun A => va_Qi (fun (r : Int32) (w : (Nat → Int32)) => r = ret ∧ w = o_now_) (fun (w : (Nat → Int32)) t => va_P (dC, dI) classes [(q0, .inr (10, [.int feetMany, .ref q1, .int log_, .int block, .ref q2, .int stocking, .ref q3, .int acts, .ref q4, .int keeps, .ref q5, .int hears, .ref q6, .ref q7, .int texted, .int at_, .ref q8, .ref q9, .int readFeetMany, .ref q10, .int readLog, .int readBlock, .ref q11, .int readStocking, .ref q12, .int lefts_, .int rights_, .ref q13, .ref q14, .ref q15, .ref q16, .ref q17])), (q3, .inl (cc 0, 52, .inl st)), (q12, .inl (cc 0, 52, .inl w))] t.heap) A) (by decide) (Nat.le_of_ble_eq_true rfl) ?_
  intro p e s m below meth c A ls H locs hC hr hlk hin hA hP hl _
  have hC : CX p m c cX10_sizes 8 s ([.ref q0, .int x1, .int x2] : List Value).toArray RX10 (dC, dI) (ts cc) := hC
  have hx := hC.1.1
  have hb := hC.1.2
  have h := hu
  have hu0 := hu
  unfold f_X10_sizes at h
  have hl : lv_has ls 8 [(0, .ref q0), (1, .int x1), (2, .int x2)] := hl
  refine W_abs (fun Z eZ => ?_)
  refine lv_iload_n hx hb dX10_sizes_0 rfl (lv_at hl 1 rfl) ?_
  refine lv_iconst (v := 1) hx hb dX10_sizes_1 (by decide) ?_
  refine lv_iconst (v := 5) hx hb dX10_sizes_2 (by decide) ?_
  obtain ⟨r1, hu, h⟩ := bnd_h h
  refine kc_z (kS hC (c_X10_in l dC dI cc x1 1 5 H.size r1 hu) cs_X10_90 kw912 rfl rfl ⟨(Nat.le_of_ble_eq_true rfl), (Nat.le_of_ble_eq_true rfl)⟩ hP [] rfl rfl (As := [.int x1, .int 1, .int 5]) (rest := []) rfl rfl hl.1 (Nat.le_of_ble_eq_true rfl) dX10_sizes_3 ⟨Nat.zero_le _, Nat.zero_le _⟩) hP hA [] rfl rfl (fun hz_r1 H locs hP => ?_)
  have hP : PD (dC, dI) A s.heap [(q0, .inr (10, [.int feetMany, .ref q1, .int log_, .int block, .ref q2, .int stocking, .ref q3, .int acts, .ref q4, .int keeps, .ref q5, .int hears, .ref q6, .ref q7, .int texted, .int at_, .ref q8, .ref q9, .int readFeetMany, .ref q10, .int readLog, .int readBlock, .ref q11, .int readStocking, .ref q12, .int lefts_, .int rights_, .ref q13, .ref q14, .ref q15, .ref q16, .ref q17])), (q3, .inl (cc 0, 52, .inl st)), (q12, .inl (cc 0, 52, .inl now_))] H locs := hP
  refine lv_if_eq (tgt := 18) hx hb dX10_sizes_6 (by decide) (fun c2 => ?_) (fun c2 => ?_)
  · have h := if_t c2 h
    refine lv_iconst (v := -1) hx hb dX10_sizes_18 (by decide) ?_
    rw [eZ]
    exact ret_i hC hr hlk hP dX10_sizes_19 now_ (Prod.mk.inj (Option.some.inj h)) rfl
  · have h := if_f c2 h
    refine lv_iload_n hx hb dX10_sizes_9 rfl (lv_at hl 2 rfl) ?_
    refine lv_iconst (v := 0) hx hb dX10_sizes_10 (by decide) ?_
    refine lv_iconst (v := 1) hx hb dX10_sizes_11 (by decide) ?_
    obtain ⟨r3, hu, h⟩ := bnd_h h
    refine kc_z (kS hC (c_X10_in l dC dI cc x2 0 1 H.size r3 hu) cs_X10_90 kw912 rfl rfl ⟨(Nat.le_of_ble_eq_true rfl), (Nat.le_of_ble_eq_true rfl)⟩ hP [] rfl rfl (As := [.int x2, .int 0, .int 1]) (rest := []) rfl rfl hl.1 (Nat.le_of_ble_eq_true rfl) dX10_sizes_12 ⟨Nat.zero_le _, Nat.zero_le _⟩) hP hA [] rfl rfl (fun hz_r3 H locs hP => ?_)
    have hP : PD (dC, dI) A s.heap [(q0, .inr (10, [.int feetMany, .ref q1, .int log_, .int block, .ref q2, .int stocking, .ref q3, .int acts, .ref q4, .int keeps, .ref q5, .int hears, .ref q6, .ref q7, .int texted, .int at_, .ref q8, .ref q9, .int readFeetMany, .ref q10, .int readLog, .int readBlock, .ref q11, .int readStocking, .ref q12, .int lefts_, .int rights_, .ref q13, .ref q14, .ref q15, .ref q16, .ref q17])), (q3, .inl (cc 0, 52, .inl st)), (q12, .inl (cc 0, 52, .inl now_))] H locs := hP
    refine lv_if_ne (tgt := 20) hx hb dX10_sizes_15 (by decide) (fun c4 => ?_) (fun c4 => ?_)
    · have h := if_f c4 h
      refine lv_aload_n hx hb dX10_sizes_20 rfl (lv_at hl 0 rfl) ?_
      obtain ⟨w5, hu, h⟩ := bnd_h h
      refine kc_v (kV hC (c_X10_asItIs l dC dI cc q0 q1 q2 q3 q4 q5 q6 q7 q8 q9 q10 q11 q12 q13 q14 q15 q16 q17 feetMany log_ block stocking acts keeps hears texted at_ readFeetMany readLog readBlock readStocking lefts_ rights_ st now_ H.size w5 hu) cv_X10_191 kw979 rfl rfl ⟨(Nat.le_of_ble_eq_true rfl), (Nat.le_of_ble_eq_true rfl)⟩ hP [0, 1, 2] rfl rfl rfl (q0 := 0) rfl (As := []) (rest := []) rfl rfl hl.1 (Nat.le_of_ble_eq_true rfl) dX10_sizes_21 ⟨Nat.zero_le _, Nat.zero_le _⟩) hP hA [0, 1, 2] rfl rfl (fun H locs hP => ?_)
      have hP : PD (dC, dI) A s.heap [(q0, .inr (10, [.int feetMany, .ref q1, .int log_, .int block, .ref q2, .int stocking, .ref q3, .int acts, .ref q4, .int keeps, .ref q5, .int hears, .ref q6, .ref q7, .int texted, .int at_, .ref q8, .ref q9, .int readFeetMany, .ref q10, .int readLog, .int readBlock, .ref q11, .int readStocking, .ref q12, .int lefts_, .int rights_, .ref q13, .ref q14, .ref q15, .ref q16, .ref q17])), (q3, .inl (cc 0, 52, .inl st)), (q12, .inl (cc 0, 52, .inl w5))] H locs := hP
      refine lv_iconst (v := 0) hx hb dX10_sizes_24 (by decide) ?_
      refine lv_istore_n (lv' := [(3, .int 0), (0, .ref q0), (1, .int x1), (2, .int x2)]) hx hb dX10_sizes_25 rfl hl (by decide) rfl (fun ls hl => ?_)
      refine lv_iconst (v := -1) hx hb dX10_sizes_26 (by decide) ?_
      refine lv_istore (lv' := [(4, .int (-1)), (3, .int 0), (0, .ref q0), (1, .int x1), (2, .int x2)]) hx hb dX10_sizes_27 hl (by decide) rfl (fun ls hl => ?_)
      refine lv_iconst (v := 1) hx hb dX10_sizes_29 (by decide) ?_
      refine lv_istore (lv' := [(5, .int 1), (4, .int (-1)), (3, .int 0), (0, .ref q0), (1, .int x1), (2, .int x2)]) hx hb dX10_sizes_30 hl (by decide) rfl (fun ls hl => ?_)
      obtain ⟨⟨j6x, j7x, j8x⟩, hlp, h⟩ := bnd_h h
      have L1 : ∀ (n : Nat) (j6 : Int32) (j7 : Int32) (j8 : Int32) (j6x : Int32) (j7x : Int32) (j8x : Int32), lp (u3 (b_X10_sizes_1 st w5 x1)) n (j6, j7, j8) = some (j6x, j7x, j8x) → ∀ (H : Heap) (locs : List Loc) (ls : Array Slot), PD (dC, dI) A s.heap [(q0, .inr (10, [.int feetMany, .ref q1, .int log_, .int block, .ref q2, .int stocking, .ref q3, .int acts, .ref q4, .int keeps, .ref q5, .int hears, .ref q6, .ref q7, .int texted, .int at_, .ref q8, .ref q9, .int readFeetMany, .ref q10, .int readLog, .int readBlock, .ref q11, .int readStocking, .ref q12, .int lefts_, .int rights_, .ref q13, .ref q14, .ref q15, .ref q16, .ref q17])), (q3, .inl (cc 0, 52, .inl st)), (q12, .inl (cc 0, 52, .inl w5))] H locs → lv_has ls 8 [(0, .ref q0), (1, .int x1), (2, .int x2), (3, .int j6), (4, .int j7), (5, .int j8)] → (∀ (H : Heap) (locs : List Loc) (ls : Array Slot), PD (dC, dI) A s.heap [(q0, .inr (10, [.int feetMany, .ref q1, .int log_, .int block, .ref q2, .int stocking, .ref q3, .int acts, .ref q4, .int keeps, .ref q5, .int hears, .ref q6, .ref q7, .int texted, .int at_, .ref q8, .ref q9, .int readFeetMany, .ref q10, .int readLog, .int readBlock, .ref q11, .int readStocking, .ref q12, .int lefts_, .int rights_, .ref q13, .ref q14, .ref q15, .ref q16, .ref q17])), (q3, .inl (cc 0, 52, .inl st)), (q12, .inl (cc 0, 52, .inl w5))] H locs → lv_has ls 8 [(0, .ref q0), (1, .int x1), (2, .int x2), (3, .int j6x), (4, .int j7x), (5, .int j8x)] → W p l e ({ frames := 2, cells := 0, slots := 0, locals := 45 } : Room) s m ([.ref q0, .int x1, .int x2] : List Value).toArray below meth c H locs 0 0 Z (F0 m 138 ls [])) → W p l e ({ frames := 2, cells := 0, slots := 0, locals := 45 } : Room) s m ([.ref q0, .int x1, .int x2] : List Value).toArray below meth c H locs 0 0 Z (F0 m 32 ls []) := by
        intro n
        induction n with
        | zero => intro j6 j7 j8 j6x j7x j8x h; exact (lp_0 h).elim
        | succ n ih =>
          intro j6 j7 j8 j6x j7x j8x h H locs ls hP hl KK
          obtain ⟨y, h, hz⟩ := lp_h h
          refine lv_iload hx hb dX10_sizes_32 (lv_at hl 5 rfl) ?_
          refine lv_bipush (v := 72) hx hb dX10_sizes_34 (by decide) ?_
          refine lv_icmp_gt (tgt := 138) hx hb dX10_sizes_36 (by decide) (fun c9 => ?_) (fun c9 => ?_)
          · have h := if_t c9 h
            cases lp_e h hz
            exact KK H locs ls hP (lv_sub hl [0, 1, 2, 3, 4, 5] rfl)
          · have h := if_f c9 h
            refine lv_iconst (v := 0) hx hb dX10_sizes_39 (by decide) ?_
            refine lv_istore (lv' := [(6, .int 0), (0, .ref q0), (1, .int x1), (2, .int x2), (3, .int j6), (4, .int j7), (5, .int j8)]) hx hb dX10_sizes_40 hl (by decide) rfl (fun ls hl => ?_)
            refine lv_iconst (v := 0) hx hb dX10_sizes_42 (by decide) ?_
            refine lv_istore (lv' := [(7, .int 0), (6, .int 0), (0, .ref q0), (1, .int x1), (2, .int x2), (3, .int j6), (4, .int j7), (5, .int j8)]) hx hb dX10_sizes_43 hl (by decide) rfl (fun ls hl => ?_)
            obtain ⟨⟨j10x, j11x⟩, hlp, h⟩ := bnd_h h
            have L2 : ∀ (n : Nat) (j10 : Int32) (j11 : Int32) (j10x : Int32) (j11x : Int32), lp (u2 (b_X10_sizes_2 j8 st w5 x1)) n (j10, j11) = some (j10x, j11x) → ∀ (H : Heap) (locs : List Loc) (ls : Array Slot), PD (dC, dI) A s.heap [(q0, .inr (10, [.int feetMany, .ref q1, .int log_, .int block, .ref q2, .int stocking, .ref q3, .int acts, .ref q4, .int keeps, .ref q5, .int hears, .ref q6, .ref q7, .int texted, .int at_, .ref q8, .ref q9, .int readFeetMany, .ref q10, .int readLog, .int readBlock, .ref q11, .int readStocking, .ref q12, .int lefts_, .int rights_, .ref q13, .ref q14, .ref q15, .ref q16, .ref q17])), (q3, .inl (cc 0, 52, .inl st)), (q12, .inl (cc 0, 52, .inl w5))] H locs → lv_has ls 8 [(0, .ref q0), (1, .int x1), (2, .int x2), (3, .int j6), (4, .int j7), (5, .int j8), (6, .int j10), (7, .int j11)] → (∀ (H : Heap) (locs : List Loc) (ls : Array Slot), PD (dC, dI) A s.heap [(q0, .inr (10, [.int feetMany, .ref q1, .int log_, .int block, .ref q2, .int stocking, .ref q3, .int acts, .ref q4, .int keeps, .ref q5, .int hears, .ref q6, .ref q7, .int texted, .int at_, .ref q8, .ref q9, .int readFeetMany, .ref q10, .int readLog, .int readBlock, .ref q11, .int readStocking, .ref q12, .int lefts_, .int rights_, .ref q13, .ref q14, .ref q15, .ref q16, .ref q17])), (q3, .inl (cc 0, 52, .inl st)), (q12, .inl (cc 0, 52, .inl w5))] H locs → lv_has ls 8 [(0, .ref q0), (1, .int x1), (2, .int x2), (3, .int j6), (4, .int j7), (5, .int j8), (6, .int j10x), (7, .int j11x)] → W p l e ({ frames := 2, cells := 0, slots := 0, locals := 45 } : Room) s m ([.ref q0, .int x1, .int x2] : List Value).toArray below meth c H locs 0 0 Z (F0 m 102 ls [])) → W p l e ({ frames := 2, cells := 0, slots := 0, locals := 45 } : Room) s m ([.ref q0, .int x1, .int x2] : List Value).toArray below meth c H locs 0 0 Z (F0 m 45 ls []) := by
              intro n
              induction n with
              | zero => intro j10 j11 j10x j11x h; exact (lp_0 h).elim
              | succ n ih =>
                intro j10 j11 j10x j11x h H locs ls hP hl KK
                obtain ⟨y, h, hz⟩ := lp_h h
                refine lv_iload hx hb dX10_sizes_45 (lv_at hl 7 rfl) ?_
                refine lv_aload_n hx hb dX10_sizes_47 rfl (lv_at hl 0 rfl) ?_
                refine g_get hC hP fg_X10_17 0 rfl rfl dX10_sizes_48 ?_
                refine lv_iconst (v := 1) hx hb dX10_sizes_51 (by decide) ?_
                obtain ⟨hin, h⟩ := rd_h h
                refine g_iald hC hP 1 0 rfl rfl hin dX10_sizes_52 (fun v12 ev => ?_)
                have h := h v12 ev
                refine lv_icmp_ge (tgt := 102) hx hb dX10_sizes_53 (by decide) (fun c13 => ?_) (fun c13 => ?_)
                · have h := if_t c13 h
                  cases lp_e h hz
                  exact KK H locs ls hP (lv_sub hl [0, 1, 2, 3, 4, 5, 6, 7] rfl)
                · have h := if_f c13 h
                  refine lv_iload hx hb dX10_sizes_56 (lv_at hl 6 rfl) ?_
                  refine lv_aload_n hx hb dX10_sizes_58 rfl (lv_at hl 0 rfl) ?_
                  refine lv_iload hx hb dX10_sizes_59 (lv_at hl 7 rfl) ?_
                  obtain ⟨r14, hu, h⟩ := bnd_h h
                  refine kc_i (kV hC (c_X10_kindOf l dC dI cc q0 q1 q2 q3 q4 q5 q6 q7 q8 q9 q10 q11 q12 q13 q14 q15 q16 q17 feetMany log_ block stocking acts keeps hears texted at_ readFeetMany readLog readBlock readStocking lefts_ rights_ w5 j11 H.size r14 hu) cv_X10_169 kw983 rfl rfl ⟨(Nat.le_of_ble_eq_true rfl), (Nat.le_of_ble_eq_true rfl)⟩ hP [0, 2] rfl rfl rfl (q0 := 0) rfl (As := [.int j11]) (rest := [.int j10]) rfl rfl hl.1 (Nat.le_of_ble_eq_true rfl) dX10_sizes_61 ⟨Nat.zero_le _, Nat.zero_le _⟩) hP hA [0, 2] rfl rfl (fun H locs hP => ?_)
                  have hP : PD (dC, dI) A s.heap [(q0, .inr (10, [.int feetMany, .ref q1, .int log_, .int block, .ref q2, .int stocking, .ref q3, .int acts, .ref q4, .int keeps, .ref q5, .int hears, .ref q6, .ref q7, .int texted, .int at_, .ref q8, .ref q9, .int readFeetMany, .ref q10, .int readLog, .int readBlock, .ref q11, .int readStocking, .ref q12, .int lefts_, .int rights_, .ref q13, .ref q14, .ref q15, .ref q16, .ref q17])), (q3, .inl (cc 0, 52, .inl st)), (q12, .inl (cc 0, 52, .inl w5))] H locs := hP
                  refine lv_iconst (v := 2) hx hb dX10_sizes_64 (by decide) ?_
                  refine lv_icmp_eq (tgt := 92) hx hb dX10_sizes_65 (by decide) (fun c15 => ?_) (fun c15 => ?_)
                  · have h := if_t c15 h
                    refine lv_iconst (v := 0) hx hb dX10_sizes_92 (by decide) ?_
                    refine lv_iadd hx hb dX10_sizes_93 ?_
                    refine lv_istore (lv' := [(6, .int (j10 + 0)), (0, .ref q0), (1, .int x1), (2, .int x2), (3, .int j6), (4, .int j7), (5, .int j8), (7, .int j11)]) hx hb dX10_sizes_94 hl (by decide) rfl (fun ls hl => ?_)
                    refine lv_iinc (v := (j11 + 1)) (lv' := [(7, .int (j11 + 1)), (6, .int (j10 + 0)), (0, .ref q0), (1, .int x1), (2, .int x2), (3, .int j6), (4, .int j7), (5, .int j8)]) hx hb dX10_sizes_96 hl (k := 7) rfl rfl (by decide) rfl (fun ls hl => ?_)
                    refine lv_goto (tgt := 45) hx hb dX10_sizes_99 (by decide) ?_
                    exact ih _ _ _ _ (lp_n h hz) H locs ls hP (lv_sub hl [2, 3, 4, 5, 6, 7, 1, 0] rfl) KK
                  · have h := if_f c15 h
                    refine lv_aload_n hx hb dX10_sizes_68 rfl (lv_at hl 0 rfl) ?_
                    refine lv_iload hx hb dX10_sizes_69 (lv_at hl 7 rfl) ?_
                    obtain ⟨r16, hu, h⟩ := bnd_h h
                    refine kc_i (kV hC (c_X10_sizeOf l dC dI cc q0 q1 q2 q3 q4 q5 q6 q7 q8 q9 q10 q11 q12 q13 q14 q15 q16 q17 feetMany log_ block stocking acts keeps hears texted at_ readFeetMany readLog readBlock readStocking lefts_ rights_ w5 j11 H.size r16 hu) cv_X10_178 kw991 rfl rfl ⟨(Nat.le_of_ble_eq_true rfl), (Nat.le_of_ble_eq_true rfl)⟩ hP [0, 2] rfl rfl rfl (q0 := 0) rfl (As := [.int j11]) (rest := [.int j10]) rfl rfl hl.1 (Nat.le_of_ble_eq_true rfl) dX10_sizes_71 ⟨Nat.zero_le _, Nat.zero_le _⟩) hP hA [0, 2] rfl rfl (fun H locs hP => ?_)
                    have hP : PD (dC, dI) A s.heap [(q0, .inr (10, [.int feetMany, .ref q1, .int log_, .int block, .ref q2, .int stocking, .ref q3, .int acts, .ref q4, .int keeps, .ref q5, .int hears, .ref q6, .ref q7, .int texted, .int at_, .ref q8, .ref q9, .int readFeetMany, .ref q10, .int readLog, .int readBlock, .ref q11, .int readStocking, .ref q12, .int lefts_, .int rights_, .ref q13, .ref q14, .ref q15, .ref q16, .ref q17])), (q3, .inl (cc 0, 52, .inl st)), (q12, .inl (cc 0, 52, .inl w5))] H locs := hP
                    refine lv_iload hx hb dX10_sizes_74 (lv_at hl 5 rfl) ?_
                    refine lv_iload hx hb dX10_sizes_76 (lv_at hl 5 rfl) ?_
                    refine lv_iload_n hx hb dX10_sizes_78 rfl (lv_at hl 1 rfl) ?_
                    refine lv_iadd hx hb dX10_sizes_79 ?_
                    refine lv_iconst (v := 1) hx hb dX10_sizes_80 (by decide) ?_
                    refine lv_isub hx hb dX10_sizes_81 ?_
                    obtain ⟨r17, hu, h⟩ := bnd_h h
                    refine kc_z (kS hC (c_X10_in l dC dI cc r16 j8 ((j8 + x1) - 1) H.size r17 hu) cs_X10_90 kw912 rfl rfl ⟨(Nat.le_of_ble_eq_true rfl), (Nat.le_of_ble_eq_true rfl)⟩ hP [] rfl rfl (As := [.int r16, .int j8, .int ((j8 + x1) - 1)]) (rest := [.int j10]) rfl rfl hl.1 (Nat.le_of_ble_eq_true rfl) dX10_sizes_82 ⟨Nat.zero_le _, Nat.zero_le _⟩) hP hA [] rfl rfl (fun hz_r17 H locs hP => ?_)
                    have hP : PD (dC, dI) A s.heap [(q0, .inr (10, [.int feetMany, .ref q1, .int log_, .int block, .ref q2, .int stocking, .ref q3, .int acts, .ref q4, .int keeps, .ref q5, .int hears, .ref q6, .ref q7, .int texted, .int at_, .ref q8, .ref q9, .int readFeetMany, .ref q10, .int readLog, .int readBlock, .ref q11, .int readStocking, .ref q12, .int lefts_, .int rights_, .ref q13, .ref q14, .ref q15, .ref q16, .ref q17])), (q3, .inl (cc 0, 52, .inl st)), (q12, .inl (cc 0, 52, .inl w5))] H locs := hP
                    refine lv_if_eq (tgt := 92) hx hb dX10_sizes_85 (by decide) (fun c18 => ?_) (fun c18 => ?_)
                    · have h := if_t c18 h
                      refine lv_iconst (v := 0) hx hb dX10_sizes_92 (by decide) ?_
                      refine lv_iadd hx hb dX10_sizes_93 ?_
                      refine lv_istore (lv' := [(6, .int (j10 + 0)), (0, .ref q0), (1, .int x1), (2, .int x2), (3, .int j6), (4, .int j7), (5, .int j8), (7, .int j11)]) hx hb dX10_sizes_94 hl (by decide) rfl (fun ls hl => ?_)
                      refine lv_iinc (v := (j11 + 1)) (lv' := [(7, .int (j11 + 1)), (6, .int (j10 + 0)), (0, .ref q0), (1, .int x1), (2, .int x2), (3, .int j6), (4, .int j7), (5, .int j8)]) hx hb dX10_sizes_96 hl (k := 7) rfl rfl (by decide) rfl (fun ls hl => ?_)
                      refine lv_goto (tgt := 45) hx hb dX10_sizes_99 (by decide) ?_
                      exact ih _ _ _ _ (lp_n h hz) H locs ls hP (lv_sub hl [2, 3, 4, 5, 6, 7, 1, 0] rfl) KK
                    · have h := if_f c18 h
                      refine lv_iconst (v := 1) hx hb dX10_sizes_88 (by decide) ?_
                      refine lv_goto (tgt := 93) hx hb dX10_sizes_89 (by decide) ?_
                      refine lv_iadd hx hb dX10_sizes_93 ?_
                      refine lv_istore (lv' := [(6, .int (j10 + 1)), (0, .ref q0), (1, .int x1), (2, .int x2), (3, .int j6), (4, .int j7), (5, .int j8), (7, .int j11)]) hx hb dX10_sizes_94 hl (by decide) rfl (fun ls hl => ?_)
                      refine lv_iinc (v := (j11 + 1)) (lv' := [(7, .int (j11 + 1)), (6, .int (j10 + 1)), (0, .ref q0), (1, .int x1), (2, .int x2), (3, .int j6), (4, .int j7), (5, .int j8)]) hx hb dX10_sizes_96 hl (k := 7) rfl rfl (by decide) rfl (fun ls hl => ?_)
                      refine lv_goto (tgt := 45) hx hb dX10_sizes_99 (by decide) ?_
                      exact ih _ _ _ _ (lp_n h hz) H locs ls hP (lv_sub hl [2, 3, 4, 5, 6, 7, 1, 0] rfl) KK
            refine L2 FU _ _ j10x j11x hlp H locs ls hP (lv_sub hl [2, 3, 4, 5, 6, 7, 1, 0] rfl) (fun H locs ls hP hl => ?_)
            refine lv_iload hx hb dX10_sizes_102 (lv_at hl 6 rfl) ?_
            refine lv_iload hx hb dX10_sizes_104 (lv_at hl 4 rfl) ?_
            refine lv_icmp_le (tgt := 114) hx hb dX10_sizes_106 (by decide) (fun c19 => ?_) (fun c19 => ?_)
            · have h := if_t c19 h
              refine lv_iload_n hx hb dX10_sizes_114 rfl (lv_at hl 3 rfl) ?_
              refine lv_istore_n (lv' := [(3, .int j6), (0, .ref q0), (1, .int x1), (2, .int x2), (4, .int j7), (5, .int j8), (6, .int j10x), (7, .int j11x)]) hx hb dX10_sizes_115 rfl hl (by decide) rfl (fun ls hl => ?_)
              refine lv_iload hx hb dX10_sizes_116 (lv_at hl 6 rfl) ?_
              refine lv_iload hx hb dX10_sizes_118 (lv_at hl 4 rfl) ?_
              refine lv_icmp_le (tgt := 128) hx hb dX10_sizes_120 (by decide) (fun c20 => ?_) (fun c20 => ?_)
              · have h := if_t c20 h
                refine lv_iload hx hb dX10_sizes_128 (lv_at hl 4 rfl) ?_
                refine lv_istore (lv' := [(4, .int j7), (3, .int j6), (0, .ref q0), (1, .int x1), (2, .int x2), (5, .int j8), (6, .int j10x), (7, .int j11x)]) hx hb dX10_sizes_130 hl (by decide) rfl (fun ls hl => ?_)
                refine lv_iinc (v := (j8 + 1)) (lv' := [(5, .int (j8 + 1)), (4, .int j7), (3, .int j6), (0, .ref q0), (1, .int x1), (2, .int x2), (6, .int j10x), (7, .int j11x)]) hx hb dX10_sizes_132 hl (k := 5) rfl rfl (by decide) rfl (fun ls hl => ?_)
                refine lv_goto (tgt := 32) hx hb dX10_sizes_135 (by decide) ?_
                exact ih _ _ _ _ _ _ (lp_n h hz) H locs ls hP (lv_sub hl [3, 4, 5, 2, 1, 0] rfl) KK
              · have h := if_f c20 h
                refine lv_iload hx hb dX10_sizes_123 (lv_at hl 6 rfl) ?_
                refine lv_goto (tgt := 130) hx hb dX10_sizes_125 (by decide) ?_
                refine lv_istore (lv' := [(4, .int j10x), (3, .int j6), (0, .ref q0), (1, .int x1), (2, .int x2), (5, .int j8), (6, .int j10x), (7, .int j11x)]) hx hb dX10_sizes_130 hl (by decide) rfl (fun ls hl => ?_)
                refine lv_iinc (v := (j8 + 1)) (lv' := [(5, .int (j8 + 1)), (4, .int j10x), (3, .int j6), (0, .ref q0), (1, .int x1), (2, .int x2), (6, .int j10x), (7, .int j11x)]) hx hb dX10_sizes_132 hl (k := 5) rfl rfl (by decide) rfl (fun ls hl => ?_)
                refine lv_goto (tgt := 32) hx hb dX10_sizes_135 (by decide) ?_
                exact ih _ _ _ _ _ _ (lp_n h hz) H locs ls hP (lv_sub hl [3, 4, 5, 2, 1, 0] rfl) KK
            · have h := if_f c19 h
              refine lv_iload hx hb dX10_sizes_109 (lv_at hl 5 rfl) ?_
              refine lv_goto (tgt := 115) hx hb dX10_sizes_111 (by decide) ?_
              refine lv_istore_n (lv' := [(3, .int j8), (0, .ref q0), (1, .int x1), (2, .int x2), (4, .int j7), (5, .int j8), (6, .int j10x), (7, .int j11x)]) hx hb dX10_sizes_115 rfl hl (by decide) rfl (fun ls hl => ?_)
              refine lv_iload hx hb dX10_sizes_116 (lv_at hl 6 rfl) ?_
              refine lv_iload hx hb dX10_sizes_118 (lv_at hl 4 rfl) ?_
              refine lv_icmp_le (tgt := 128) hx hb dX10_sizes_120 (by decide) (fun c21 => ?_) (fun c21 => ?_)
              · have h := if_t c21 h
                refine lv_iload hx hb dX10_sizes_128 (lv_at hl 4 rfl) ?_
                refine lv_istore (lv' := [(4, .int j7), (3, .int j8), (0, .ref q0), (1, .int x1), (2, .int x2), (5, .int j8), (6, .int j10x), (7, .int j11x)]) hx hb dX10_sizes_130 hl (by decide) rfl (fun ls hl => ?_)
                refine lv_iinc (v := (j8 + 1)) (lv' := [(5, .int (j8 + 1)), (4, .int j7), (3, .int j8), (0, .ref q0), (1, .int x1), (2, .int x2), (6, .int j10x), (7, .int j11x)]) hx hb dX10_sizes_132 hl (k := 5) rfl rfl (by decide) rfl (fun ls hl => ?_)
                refine lv_goto (tgt := 32) hx hb dX10_sizes_135 (by decide) ?_
                exact ih _ _ _ _ _ _ (lp_n h hz) H locs ls hP (lv_sub hl [3, 4, 5, 2, 1, 0] rfl) KK
              · have h := if_f c21 h
                refine lv_iload hx hb dX10_sizes_123 (lv_at hl 6 rfl) ?_
                refine lv_goto (tgt := 130) hx hb dX10_sizes_125 (by decide) ?_
                refine lv_istore (lv' := [(4, .int j10x), (3, .int j8), (0, .ref q0), (1, .int x1), (2, .int x2), (5, .int j8), (6, .int j10x), (7, .int j11x)]) hx hb dX10_sizes_130 hl (by decide) rfl (fun ls hl => ?_)
                refine lv_iinc (v := (j8 + 1)) (lv' := [(5, .int (j8 + 1)), (4, .int j10x), (3, .int j8), (0, .ref q0), (1, .int x1), (2, .int x2), (6, .int j10x), (7, .int j11x)]) hx hb dX10_sizes_132 hl (k := 5) rfl rfl (by decide) rfl (fun ls hl => ?_)
                refine lv_goto (tgt := 32) hx hb dX10_sizes_135 (by decide) ?_
                exact ih _ _ _ _ _ _ (lp_n h hz) H locs ls hP (lv_sub hl [3, 4, 5, 2, 1, 0] rfl) KK
      refine L1 FU _ _ _ j6x j7x j8x hlp H locs ls hP (lv_sub hl [3, 4, 5, 2, 1, 0] rfl) (fun H locs ls hP hl => ?_)
      refine lv_iload_n hx hb dX10_sizes_138 rfl (lv_at hl 2 rfl) ?_
      refine lv_if_ne (tgt := 146) hx hb dX10_sizes_139 (by decide) (fun c22 => ?_) (fun c22 => ?_)
      · have h := if_f c22 h
        refine lv_iload hx hb dX10_sizes_146 (lv_at hl 4 rfl) ?_
        rw [eZ]
        exact ret_i hC hr hlk hP dX10_sizes_148 w5 (Prod.mk.inj (Option.some.inj h)) rfl
      · have h := if_t c22 h
        refine lv_iload_n hx hb dX10_sizes_142 rfl (lv_at hl 3 rfl) ?_
        refine lv_goto (tgt := 148) hx hb dX10_sizes_143 (by decide) ?_
        rw [eZ]
        exact ret_i hC hr hlk hP dX10_sizes_148 w5 (Prod.mk.inj (Option.some.inj h)) rfl
    · have h := if_t c4 h
      refine lv_iconst (v := -1) hx hb dX10_sizes_18 (by decide) ?_
      rw [eZ]
      exact ret_i hC hr hlk hP dX10_sizes_19 now_ (Prod.mk.inj (Option.some.inj h)) rfl
set_option maxHeartbeats 8000000 in
set_option maxRecDepth 100000 in
theorem c_X10_heard (l : Launch) (dC : Nat → ClassId) (dI : Nat → Nat → Nat) (cc : Nat → ClassId) (q0 q1 q2 q3 q4 q5 q6 q7 q8 q9 q10 q11 q12 q13 q14 q15 q16 q17 : Nat) (feetMany : Int32) (log_ : Int32) (block : Int32) (stocking : Int32) (acts : Int32) (keeps : Int32) (hears : Int32) (texted : Int32) (at_ : Int32) (readFeetMany : Int32) (readLog : Int32) (readBlock : Int32) (readStocking : Int32) (lefts_ : Int32) (rights_ : Int32) (heard : (Nat → Int32)) (x1 : Int32) (x2 : Int32) (x3 : Int32) (sz : Nat) (ret : Int32) (o_hears : Int32) (o_heard : (Nat → Int32)) (hu : f_X10_heard x1 x2 x3 hears heard = some (ret, o_hears, o_heard)) : Met l yX10_heard (mw yX10_heard cX10_heard 4 (some .int)) ({ frames := 1, cells := 0, slots := 0, locals := 22 } : Room) (va_Pc [.ref q0, .int x1, .int x2, .int x3] (mP (dC, dI) (ts cc) sz [(q0, .inr (10, [.int feetMany, .ref q1, .int log_, .int block, .ref q2, .int stocking, .ref q3, .int acts, .ref q4, .int keeps, .ref q5, .int hears, .ref q6, .ref q7, .int texted, .int at_, .ref q8, .ref q9, .int readFeetMany, .ref q10, .int readLog, .int readBlock, .ref q11, .int readStocking, .ref q12, .int lefts_, .int rights_, .ref q13, .ref q14, .ref q15, .ref q16, .ref q17])), (q6, .inl (cc 0, 24, .inl heard))])) ((fun A => va_Qi (fun (r : Int32) (w : Int32 × (Nat → Int32)) => r = ret ∧ w = (o_hears, o_heard)) (fun (w : Int32 × (Nat → Int32)) t => va_P (dC, dI) classes [(q0, .inr (10, [.int feetMany, .ref q1, .int log_, .int block, .ref q2, .int stocking, .ref q3, .int acts, .ref q4, .int keeps, .ref q5, .int w.1, .ref q6, .ref q7, .int texted, .int at_, .ref q8, .ref q9, .int readFeetMany, .ref q10, .int readLog, .int readBlock, .ref q11, .int readStocking, .ref q12, .int lefts_, .int rights_, .ref q13, .ref q14, .ref q15, .ref q16, .ref q17])), (q6, .inl (cc 0, 24, .inl w.2))] t.heap) A) (va_A [(q0, .inr (10, [.int feetMany, .ref q1, .int log_, .int block, .ref q2, .int stocking, .ref q3, .int acts, .ref q4, .int keeps, .ref q5, .int hears, .ref q6, .ref q7, .int texted, .int at_, .ref q8, .ref q9, .int readFeetMany, .ref q10, .int readLog, .int readBlock, .ref q11, .int readStocking, .ref q12, .int lefts_, .int rights_, .ref q13, .ref q14, .ref q15, .ref q16, .ref q17])), (q6, .inl (cc 0, 24, .inl heard))] sz)) 0 0 (va_A [(q0, .inr (10, [.int feetMany, .ref q1, .int log_, .int block, .ref q2, .int stocking, .ref q3, .int acts, .ref q4, .int keeps, .ref q5, .int hears, .ref q6, .ref q7, .int texted, .int at_, .ref q8, .ref q9, .int readFeetMany, .ref q10, .int readLog, .int readBlock, .ref q11, .int readStocking, .ref q12, .int lefts_, .int rights_, .ref q13, .ref q14, .ref q15, .ref q16, .ref q17])), (q6, .inl (cc 0, 24, .inl heard))] sz) := by
  refine met_go (Qc := fun A => va_Qi (fun (r : Int32) (w : Int32 × (Nat → Int32)) => r = ret ∧ w = (o_hears, o_heard)) (fun (w : Int32 × (Nat → Int32)) t => va_P (dC, dI) classes [(q0, .inr (10, [.int feetMany, .ref q1, .int log_, .int block, .ref q2, .int stocking, .ref q3, .int acts, .ref q4, .int keeps, .ref q5, .int w.1, .ref q6, .ref q7, .int texted, .int at_, .ref q8, .ref q9, .int readFeetMany, .ref q10, .int readLog, .int readBlock, .ref q11, .int readStocking, .ref q12, .int lefts_, .int rights_, .ref q13, .ref q14, .ref q15, .ref q16, .ref q17])), (q6, .inl (cc 0, 24, .inl w.2))] t.heap) A) (by decide) (Nat.le_of_ble_eq_true rfl) ?_
  intro p e s m below meth c A ls H locs hC hr hlk hin hA hP hl _
  have hC : CX p m c cX10_heard 4 s ([.ref q0, .int x1, .int x2, .int x3] : List Value).toArray RX10 (dC, dI) (ts cc) := hC
  have hx := hC.1.1
  have hb := hC.1.2
  have h := hu
  have hu0 := hu
  unfold f_X10_heard at h
  have hl : lv_has ls 4 [(0, .ref q0), (1, .int x1), (2, .int x2), (3, .int x3)] := hl
  refine lv_iload_n hx hb dX10_heard_0 rfl (lv_at hl 1 rfl) ?_
  refine lv_iconst (v := 0) hx hb dX10_heard_1 (by decide) ?_
  refine lv_bipush (v := 9) hx hb dX10_heard_2 (by decide) ?_
  obtain ⟨r1, hu, h⟩ := bnd_h h
  refine kc_z (kS hC (c_X10_in l dC dI cc x1 0 9 H.size r1 hu) cs_X10_90 kw912 rfl rfl ⟨(Nat.le_of_ble_eq_true rfl), (Nat.le_of_ble_eq_true rfl)⟩ hP [] rfl rfl (As := [.int x1, .int 0, .int 9]) (rest := []) rfl rfl hl.1 (Nat.le_of_ble_eq_true rfl) dX10_heard_4 ⟨Nat.zero_le _, Nat.zero_le _⟩) hP hA [] rfl rfl (fun hz_r1 H locs hP => ?_)
  have hP : PD (dC, dI) A s.heap [(q0, .inr (10, [.int feetMany, .ref q1, .int log_, .int block, .ref q2, .int stocking, .ref q3, .int acts, .ref q4, .int keeps, .ref q5, .int hears, .ref q6, .ref q7, .int texted, .int at_, .ref q8, .ref q9, .int readFeetMany, .ref q10, .int readLog, .int readBlock, .ref q11, .int readStocking, .ref q12, .int lefts_, .int rights_, .ref q13, .ref q14, .ref q15, .ref q16, .ref q17])), (q6, .inl (cc 0, 24, .inl heard))] H locs := hP
  refine lv_if_eq (tgt := 29) hx hb dX10_heard_7 (by decide) (fun c2 => ?_) (fun c2 => ?_)
  · have h := if_t c2 h
    refine lv_iconst (v := -1) hx hb dX10_heard_29 (by decide) ?_
    exact ret_i hC hr hlk hP dX10_heard_30 (hears, heard) (Prod.mk.inj (Option.some.inj h)) rfl
  · have h := if_f c2 h
    refine lv_iload_n hx hb dX10_heard_10 rfl (lv_at hl 2 rfl) ?_
    refine lv_iconst (v := 1) hx hb dX10_heard_11 (by decide) ?_
    refine lv_bipush (v := 9) hx hb dX10_heard_12 (by decide) ?_
    obtain ⟨r3, hu, h⟩ := bnd_h h
    refine kc_z (kS hC (c_X10_in l dC dI cc x2 1 9 H.size r3 hu) cs_X10_90 kw912 rfl rfl ⟨(Nat.le_of_ble_eq_true rfl), (Nat.le_of_ble_eq_true rfl)⟩ hP [] rfl rfl (As := [.int x2, .int 1, .int 9]) (rest := []) rfl rfl hl.1 (Nat.le_of_ble_eq_true rfl) dX10_heard_14 ⟨Nat.zero_le _, Nat.zero_le _⟩) hP hA [] rfl rfl (fun hz_r3 H locs hP => ?_)
    have hP : PD (dC, dI) A s.heap [(q0, .inr (10, [.int feetMany, .ref q1, .int log_, .int block, .ref q2, .int stocking, .ref q3, .int acts, .ref q4, .int keeps, .ref q5, .int hears, .ref q6, .ref q7, .int texted, .int at_, .ref q8, .ref q9, .int readFeetMany, .ref q10, .int readLog, .int readBlock, .ref q11, .int readStocking, .ref q12, .int lefts_, .int rights_, .ref q13, .ref q14, .ref q15, .ref q16, .ref q17])), (q6, .inl (cc 0, 24, .inl heard))] H locs := hP
    refine lv_if_eq (tgt := 29) hx hb dX10_heard_17 (by decide) (fun c4 => ?_) (fun c4 => ?_)
    · have h := if_t c4 h
      refine lv_iconst (v := -1) hx hb dX10_heard_29 (by decide) ?_
      exact ret_i hC hr hlk hP dX10_heard_30 (hears, heard) (Prod.mk.inj (Option.some.inj h)) rfl
    · have h := if_f c4 h
      refine lv_iload_n hx hb dX10_heard_20 rfl (lv_at hl 3 rfl) ?_
      refine lv_iconst (v := 0) hx hb dX10_heard_21 (by decide) ?_
      refine lv_iconst (v := 1) hx hb dX10_heard_22 (by decide) ?_
      obtain ⟨r5, hu, h⟩ := bnd_h h
      refine kc_z (kS hC (c_X10_in l dC dI cc x3 0 1 H.size r5 hu) cs_X10_90 kw912 rfl rfl ⟨(Nat.le_of_ble_eq_true rfl), (Nat.le_of_ble_eq_true rfl)⟩ hP [] rfl rfl (As := [.int x3, .int 0, .int 1]) (rest := []) rfl rfl hl.1 (Nat.le_of_ble_eq_true rfl) dX10_heard_23 ⟨Nat.zero_le _, Nat.zero_le _⟩) hP hA [] rfl rfl (fun hz_r5 H locs hP => ?_)
      have hP : PD (dC, dI) A s.heap [(q0, .inr (10, [.int feetMany, .ref q1, .int log_, .int block, .ref q2, .int stocking, .ref q3, .int acts, .ref q4, .int keeps, .ref q5, .int hears, .ref q6, .ref q7, .int texted, .int at_, .ref q8, .ref q9, .int readFeetMany, .ref q10, .int readLog, .int readBlock, .ref q11, .int readStocking, .ref q12, .int lefts_, .int rights_, .ref q13, .ref q14, .ref q15, .ref q16, .ref q17])), (q6, .inl (cc 0, 24, .inl heard))] H locs := hP
      refine lv_if_ne (tgt := 31) hx hb dX10_heard_26 (by decide) (fun c6 => ?_) (fun c6 => ?_)
      · have h := if_f c6 h
        refine lv_aload_n hx hb dX10_heard_31 rfl (lv_at hl 0 rfl) ?_
        refine g_get hC hP fg_X10_166 0 rfl rfl dX10_heard_32 ?_
        refine lv_bipush (v := 8) hx hb dX10_heard_35 (by decide) ?_
        refine lv_icmp_ne (tgt := 43) hx hb dX10_heard_37 (by decide) (fun c7 => ?_) (fun c7 => ?_)
        · have h := if_f c7 h
          refine lv_aload_n hx hb dX10_heard_43 rfl (lv_at hl 0 rfl) ?_
          refine g_get hC hP fg_X10_26 0 rfl rfl dX10_heard_44 ?_
          refine lv_iconst (v := 3) hx hb dX10_heard_47 (by decide) ?_
          refine lv_aload_n hx hb dX10_heard_48 rfl (lv_at hl 0 rfl) ?_
          refine g_get hC hP fg_X10_166 0 rfl rfl dX10_heard_49 ?_
          refine lv_imul hx hb dX10_heard_52 ?_
          refine lv_iload_n hx hb dX10_heard_53 rfl (lv_at hl 1 rfl) ?_
          obtain ⟨hin, h⟩ := wr_h h
          refine g_iast hC hP 1 0 rfl rfl hin dX10_heard_54 (fun a8 ev H locs hP => ?_)
          have hP : PD (dC, dI) A s.heap [(q0, .inr (10, [.int feetMany, .ref q1, .int log_, .int block, .ref q2, .int stocking, .ref q3, .int acts, .ref q4, .int keeps, .ref q5, .int hears, .ref q6, .ref q7, .int texted, .int at_, .ref q8, .ref q9, .int readFeetMany, .ref q10, .int readLog, .int readBlock, .ref q11, .int readStocking, .ref q12, .int lefts_, .int rights_, .ref q13, .ref q14, .ref q15, .ref q16, .ref q17])), (q6, .inl (cc 0, 24, .inl a8))] H locs := hP
          have h := h a8 ev
          refine lv_aload_n hx hb dX10_heard_55 rfl (lv_at hl 0 rfl) ?_
          refine g_get hC hP fg_X10_26 0 rfl rfl dX10_heard_56 ?_
          refine lv_iconst (v := 3) hx hb dX10_heard_59 (by decide) ?_
          refine lv_aload_n hx hb dX10_heard_60 rfl (lv_at hl 0 rfl) ?_
          refine g_get hC hP fg_X10_166 0 rfl rfl dX10_heard_61 ?_
          refine lv_imul hx hb dX10_heard_64 ?_
          refine lv_iconst (v := 1) hx hb dX10_heard_65 (by decide) ?_
          refine lv_iadd hx hb dX10_heard_66 ?_
          refine lv_iload_n hx hb dX10_heard_67 rfl (lv_at hl 2 rfl) ?_
          obtain ⟨hin, h⟩ := wr_h h
          refine g_iast hC hP 1 0 rfl rfl hin dX10_heard_68 (fun a9 ev H locs hP => ?_)
          have hP : PD (dC, dI) A s.heap [(q0, .inr (10, [.int feetMany, .ref q1, .int log_, .int block, .ref q2, .int stocking, .ref q3, .int acts, .ref q4, .int keeps, .ref q5, .int hears, .ref q6, .ref q7, .int texted, .int at_, .ref q8, .ref q9, .int readFeetMany, .ref q10, .int readLog, .int readBlock, .ref q11, .int readStocking, .ref q12, .int lefts_, .int rights_, .ref q13, .ref q14, .ref q15, .ref q16, .ref q17])), (q6, .inl (cc 0, 24, .inl a9))] H locs := hP
          have h := h a9 ev
          refine lv_aload_n hx hb dX10_heard_69 rfl (lv_at hl 0 rfl) ?_
          refine g_get hC hP fg_X10_26 0 rfl rfl dX10_heard_70 ?_
          refine lv_iconst (v := 3) hx hb dX10_heard_73 (by decide) ?_
          refine lv_aload_n hx hb dX10_heard_74 rfl (lv_at hl 0 rfl) ?_
          refine g_get hC hP fg_X10_166 0 rfl rfl dX10_heard_75 ?_
          refine lv_imul hx hb dX10_heard_78 ?_
          refine lv_iconst (v := 2) hx hb dX10_heard_79 (by decide) ?_
          refine lv_iadd hx hb dX10_heard_80 ?_
          refine lv_iload_n hx hb dX10_heard_81 rfl (lv_at hl 3 rfl) ?_
          obtain ⟨hin, h⟩ := wr_h h
          refine g_iast hC hP 1 0 rfl rfl hin dX10_heard_82 (fun a10 ev H locs hP => ?_)
          have hP : PD (dC, dI) A s.heap [(q0, .inr (10, [.int feetMany, .ref q1, .int log_, .int block, .ref q2, .int stocking, .ref q3, .int acts, .ref q4, .int keeps, .ref q5, .int hears, .ref q6, .ref q7, .int texted, .int at_, .ref q8, .ref q9, .int readFeetMany, .ref q10, .int readLog, .int readBlock, .ref q11, .int readStocking, .ref q12, .int lefts_, .int rights_, .ref q13, .ref q14, .ref q15, .ref q16, .ref q17])), (q6, .inl (cc 0, 24, .inl a10))] H locs := hP
          have h := h a10 ev
          refine lv_aload_n hx hb dX10_heard_83 rfl (lv_at hl 0 rfl) ?_
          refine lv_dup hx hb dX10_heard_84 rfl ?_
          refine g_get hC hP fg_X10_166 0 rfl rfl dX10_heard_85 ?_
          refine lv_iconst (v := 1) hx hb dX10_heard_88 (by decide) ?_
          refine lv_iadd hx hb dX10_heard_89 ?_
          refine g_put hC hP fg_X10_166 0 rfl rfl rfl (Nat.le_of_ble_eq_true rfl) dX10_heard_90 (fun H locs hP => ?_)
          have hP : PD (dC, dI) A s.heap [(q0, .inr (10, [.int feetMany, .ref q1, .int log_, .int block, .ref q2, .int stocking, .ref q3, .int acts, .ref q4, .int keeps, .ref q5, .int (hears + 1), .ref q6, .ref q7, .int texted, .int at_, .ref q8, .ref q9, .int readFeetMany, .ref q10, .int readLog, .int readBlock, .ref q11, .int readStocking, .ref q12, .int lefts_, .int rights_, .ref q13, .ref q14, .ref q15, .ref q16, .ref q17])), (q6, .inl (cc 0, 24, .inl a10))] H locs := hP
          refine lv_aload_n hx hb dX10_heard_93 rfl (lv_at hl 0 rfl) ?_
          refine g_get hC hP fg_X10_166 0 rfl rfl dX10_heard_94 ?_
          exact ret_i hC hr hlk hP dX10_heard_97 ((hears + 1), a10) (Prod.mk.inj (Option.some.inj h)) rfl
        · have h := if_t c7 h
          refine lv_bipush (v := -3) hx hb dX10_heard_40 (by decide) ?_
          exact ret_i hC hr hlk hP dX10_heard_42 (hears, heard) (Prod.mk.inj (Option.some.inj h)) rfl
      · have h := if_t c6 h
        refine lv_iconst (v := -1) hx hb dX10_heard_29 (by decide) ?_
        exact ret_i hC hr hlk hP dX10_heard_30 (hears, heard) (Prod.mk.inj (Option.some.inj h)) rfl
set_option maxHeartbeats 8000000 in
set_option maxRecDepth 100000 in
theorem c_X10_forget (l : Launch) (dC : Nat → ClassId) (dI : Nat → Nat → Nat) (cc : Nat → ClassId) (q0 q1 q2 q3 q4 q5 q6 q7 q8 q9 q10 q11 q12 q13 q14 q15 q16 q17 : Nat) (feetMany : Int32) (log_ : Int32) (block : Int32) (stocking : Int32) (acts : Int32) (keeps : Int32) (hears : Int32) (texted : Int32) (at_ : Int32) (readFeetMany : Int32) (readLog : Int32) (readBlock : Int32) (readStocking : Int32) (lefts_ : Int32) (rights_ : Int32) (sz : Nat) (ret : Int32) (o_hears : Int32) (hu : f_X10_forget hears = some (ret, o_hears)) : Met l yX10_forget (mw yX10_forget cX10_forget 2 (some .int)) ({ frames := 0, cells := 0, slots := 0, locals := 0 } : Room) (va_Pc [.ref q0] (mP (dC, dI) (ts cc) sz [(q0, .inr (10, [.int feetMany, .ref q1, .int log_, .int block, .ref q2, .int stocking, .ref q3, .int acts, .ref q4, .int keeps, .ref q5, .int hears, .ref q6, .ref q7, .int texted, .int at_, .ref q8, .ref q9, .int readFeetMany, .ref q10, .int readLog, .int readBlock, .ref q11, .int readStocking, .ref q12, .int lefts_, .int rights_, .ref q13, .ref q14, .ref q15, .ref q16, .ref q17]))])) ((fun A => va_Qi (fun (r : Int32) (w : Int32) => r = ret ∧ w = o_hears) (fun (w : Int32) t => va_P (dC, dI) classes [(q0, .inr (10, [.int feetMany, .ref q1, .int log_, .int block, .ref q2, .int stocking, .ref q3, .int acts, .ref q4, .int keeps, .ref q5, .int w, .ref q6, .ref q7, .int texted, .int at_, .ref q8, .ref q9, .int readFeetMany, .ref q10, .int readLog, .int readBlock, .ref q11, .int readStocking, .ref q12, .int lefts_, .int rights_, .ref q13, .ref q14, .ref q15, .ref q16, .ref q17]))] t.heap) A) (va_A [(q0, .inr (10, [.int feetMany, .ref q1, .int log_, .int block, .ref q2, .int stocking, .ref q3, .int acts, .ref q4, .int keeps, .ref q5, .int hears, .ref q6, .ref q7, .int texted, .int at_, .ref q8, .ref q9, .int readFeetMany, .ref q10, .int readLog, .int readBlock, .ref q11, .int readStocking, .ref q12, .int lefts_, .int rights_, .ref q13, .ref q14, .ref q15, .ref q16, .ref q17]))] sz)) 0 0 (va_A [(q0, .inr (10, [.int feetMany, .ref q1, .int log_, .int block, .ref q2, .int stocking, .ref q3, .int acts, .ref q4, .int keeps, .ref q5, .int hears, .ref q6, .ref q7, .int texted, .int at_, .ref q8, .ref q9, .int readFeetMany, .ref q10, .int readLog, .int readBlock, .ref q11, .int readStocking, .ref q12, .int lefts_, .int rights_, .ref q13, .ref q14, .ref q15, .ref q16, .ref q17]))] sz) := by
  refine met_go (Qc := fun A => va_Qi (fun (r : Int32) (w : Int32) => r = ret ∧ w = o_hears) (fun (w : Int32) t => va_P (dC, dI) classes [(q0, .inr (10, [.int feetMany, .ref q1, .int log_, .int block, .ref q2, .int stocking, .ref q3, .int acts, .ref q4, .int keeps, .ref q5, .int w, .ref q6, .ref q7, .int texted, .int at_, .ref q8, .ref q9, .int readFeetMany, .ref q10, .int readLog, .int readBlock, .ref q11, .int readStocking, .ref q12, .int lefts_, .int rights_, .ref q13, .ref q14, .ref q15, .ref q16, .ref q17]))] t.heap) A) (by decide) (Nat.le_of_ble_eq_true rfl) ?_
  intro p e s m below meth c A ls H locs hC hr hlk hin hA hP hl _
  have hC : CX p m c cX10_forget 2 s ([.ref q0] : List Value).toArray RX10 (dC, dI) (ts cc) := hC
  have hx := hC.1.1
  have hb := hC.1.2
  have h := hu
  have hu0 := hu
  unfold f_X10_forget at h
  have hl : lv_has ls 2 [(0, .ref q0)] := hl
  refine lv_aload_n hx hb dX10_forget_0 rfl (lv_at hl 0 rfl) ?_
  refine g_get hC hP fg_X10_166 0 rfl rfl dX10_forget_1 ?_
  refine lv_istore_n (lv' := [(1, .int hears), (0, .ref q0)]) hx hb dX10_forget_4 rfl hl (by decide) rfl (fun ls hl => ?_)
  refine lv_aload_n hx hb dX10_forget_5 rfl (lv_at hl 1 rfl) ?_
  refine lv_iconst (v := 0) hx hb dX10_forget_6 (by decide) ?_
  refine g_put hC hP fg_X10_166 0 rfl rfl rfl (Nat.le_of_ble_eq_true rfl) dX10_forget_7 (fun H locs hP => ?_)
  have hP : PD (dC, dI) A s.heap [(q0, .inr (10, [.int feetMany, .ref q1, .int log_, .int block, .ref q2, .int stocking, .ref q3, .int acts, .ref q4, .int keeps, .ref q5, .int 0, .ref q6, .ref q7, .int texted, .int at_, .ref q8, .ref q9, .int readFeetMany, .ref q10, .int readLog, .int readBlock, .ref q11, .int readStocking, .ref q12, .int lefts_, .int rights_, .ref q13, .ref q14, .ref q15, .ref q16, .ref q17]))] H locs := hP
  refine lv_iload_n hx hb dX10_forget_10 rfl (lv_at hl 0 rfl) ?_
  exact ret_i hC hr hlk hP dX10_forget_11 0 (Prod.mk.inj (Option.some.inj h)) rfl
set_option maxHeartbeats 8000000 in
set_option maxRecDepth 100000 in
theorem c_X10_thick (l : Launch) (dC : Nat → ClassId) (dI : Nat → Nat → Nat) (cc : Nat → ClassId) (q0 q1 q2 q3 q4 q5 q6 q7 q8 q9 q10 q11 q12 q13 q14 q15 q16 q17 : Nat) (feetMany : Int32) (log_ : Int32) (block : Int32) (stocking : Int32) (acts : Int32) (keeps : Int32) (hears : Int32) (texted : Int32) (at_ : Int32) (readFeetMany : Int32) (readLog : Int32) (readBlock : Int32) (readStocking : Int32) (lefts_ : Int32) (rights_ : Int32) (heard : (Nat → Int32)) (x1 : Int32) (sz : Nat) (ret : Int32) (hu : f_X10_thick x1 hears heard = some ret) : Met l yX10_thick (mw yX10_thick cX10_thick 7 (some .int)) ({ frames := 1, cells := 0, slots := 0, locals := 22 } : Room) (va_Pc [.ref q0, .int x1] (mP (dC, dI) (ts cc) sz [(q0, .inr (10, [.int feetMany, .ref q1, .int log_, .int block, .ref q2, .int stocking, .ref q3, .int acts, .ref q4, .int keeps, .ref q5, .int hears, .ref q6, .ref q7, .int texted, .int at_, .ref q8, .ref q9, .int readFeetMany, .ref q10, .int readLog, .int readBlock, .ref q11, .int readStocking, .ref q12, .int lefts_, .int rights_, .ref q13, .ref q14, .ref q15, .ref q16, .ref q17])), (q6, .inl (cc 0, 24, .inl heard))])) ((fun A => va_Qi (fun (r : Int32) (w : Unit) => r = ret ∧ w = ()) (fun (w : Unit) t => va_P (dC, dI) classes [(q0, .inr (10, [.int feetMany, .ref q1, .int log_, .int block, .ref q2, .int stocking, .ref q3, .int acts, .ref q4, .int keeps, .ref q5, .int hears, .ref q6, .ref q7, .int texted, .int at_, .ref q8, .ref q9, .int readFeetMany, .ref q10, .int readLog, .int readBlock, .ref q11, .int readStocking, .ref q12, .int lefts_, .int rights_, .ref q13, .ref q14, .ref q15, .ref q16, .ref q17])), (q6, .inl (cc 0, 24, .inl heard))] t.heap) A) (va_A [(q0, .inr (10, [.int feetMany, .ref q1, .int log_, .int block, .ref q2, .int stocking, .ref q3, .int acts, .ref q4, .int keeps, .ref q5, .int hears, .ref q6, .ref q7, .int texted, .int at_, .ref q8, .ref q9, .int readFeetMany, .ref q10, .int readLog, .int readBlock, .ref q11, .int readStocking, .ref q12, .int lefts_, .int rights_, .ref q13, .ref q14, .ref q15, .ref q16, .ref q17])), (q6, .inl (cc 0, 24, .inl heard))] sz)) 0 0 (va_A [(q0, .inr (10, [.int feetMany, .ref q1, .int log_, .int block, .ref q2, .int stocking, .ref q3, .int acts, .ref q4, .int keeps, .ref q5, .int hears, .ref q6, .ref q7, .int texted, .int at_, .ref q8, .ref q9, .int readFeetMany, .ref q10, .int readLog, .int readBlock, .ref q11, .int readStocking, .ref q12, .int lefts_, .int rights_, .ref q13, .ref q14, .ref q15, .ref q16, .ref q17])), (q6, .inl (cc 0, 24, .inl heard))] sz) := by
  refine met_go (Qc := fun A => va_Qi (fun (r : Int32) (w : Unit) => r = ret ∧ w = ()) (fun (w : Unit) t => va_P (dC, dI) classes [(q0, .inr (10, [.int feetMany, .ref q1, .int log_, .int block, .ref q2, .int stocking, .ref q3, .int acts, .ref q4, .int keeps, .ref q5, .int hears, .ref q6, .ref q7, .int texted, .int at_, .ref q8, .ref q9, .int readFeetMany, .ref q10, .int readLog, .int readBlock, .ref q11, .int readStocking, .ref q12, .int lefts_, .int rights_, .ref q13, .ref q14, .ref q15, .ref q16, .ref q17])), (q6, .inl (cc 0, 24, .inl heard))] t.heap) A) (by decide) (Nat.le_of_ble_eq_true rfl) ?_
  intro p e s m below meth c A ls H locs hC hr hlk hin hA hP hl _
  have hC : CX p m c cX10_thick 7 s ([.ref q0, .int x1] : List Value).toArray RX10 (dC, dI) (ts cc) := hC
  have hx := hC.1.1
  have hb := hC.1.2
  have h := hu
  have hu0 := hu
  unfold f_X10_thick at h
  have hl : lv_has ls 7 [(0, .ref q0), (1, .int x1)] := hl
  refine W_abs (fun Z eZ => ?_)
  refine lv_iload_n hx hb dX10_thick_0 rfl (lv_at hl 1 rfl) ?_
  refine lv_iconst (v := 0) hx hb dX10_thick_1 (by decide) ?_
  refine lv_bipush (v := 9) hx hb dX10_thick_2 (by decide) ?_
  obtain ⟨r1, hu, h⟩ := bnd_h h
  refine kc_z (kS hC (c_X10_in l dC dI cc x1 0 9 H.size r1 hu) cs_X10_90 kw912 rfl rfl ⟨(Nat.le_of_ble_eq_true rfl), (Nat.le_of_ble_eq_true rfl)⟩ hP [] rfl rfl (As := [.int x1, .int 0, .int 9]) (rest := []) rfl rfl hl.1 (Nat.le_of_ble_eq_true rfl) dX10_thick_4 ⟨Nat.zero_le _, Nat.zero_le _⟩) hP hA [] rfl rfl (fun hz_r1 H locs hP => ?_)
  have hP : PD (dC, dI) A s.heap [(q0, .inr (10, [.int feetMany, .ref q1, .int log_, .int block, .ref q2, .int stocking, .ref q3, .int acts, .ref q4, .int keeps, .ref q5, .int hears, .ref q6, .ref q7, .int texted, .int at_, .ref q8, .ref q9, .int readFeetMany, .ref q10, .int readLog, .int readBlock, .ref q11, .int readStocking, .ref q12, .int lefts_, .int rights_, .ref q13, .ref q14, .ref q15, .ref q16, .ref q17])), (q6, .inl (cc 0, 24, .inl heard))] H locs := hP
  refine lv_if_ne (tgt := 12) hx hb dX10_thick_7 (by decide) (fun c2 => ?_) (fun c2 => ?_)
  · have h := if_f c2 h
    refine lv_iconst (v := 0) hx hb dX10_thick_12 (by decide) ?_
    refine lv_istore_n (lv' := [(2, .int 0), (0, .ref q0), (1, .int x1)]) hx hb dX10_thick_13 rfl hl (by decide) rfl (fun ls hl => ?_)
    refine lv_iconst (v := 1) hx hb dX10_thick_14 (by decide) ?_
    refine lv_istore_n (lv' := [(3, .int 1), (2, .int 0), (0, .ref q0), (1, .int x1)]) hx hb dX10_thick_15 rfl hl (by decide) rfl (fun ls hl => ?_)
    obtain ⟨⟨j3x, j4x⟩, hlp, h⟩ := bnd_h h
    have L1 : ∀ (n : Nat) (j3 : Int32) (j4 : Int32) (j3x : Int32) (j4x : Int32), lp (u2 (b_X10_thick_1 heard hears x1)) n (j3, j4) = some (j3x, j4x) → ∀ (H : Heap) (locs : List Loc) (ls : Array Slot), PD (dC, dI) A s.heap [(q0, .inr (10, [.int feetMany, .ref q1, .int log_, .int block, .ref q2, .int stocking, .ref q3, .int acts, .ref q4, .int keeps, .ref q5, .int hears, .ref q6, .ref q7, .int texted, .int at_, .ref q8, .ref q9, .int readFeetMany, .ref q10, .int readLog, .int readBlock, .ref q11, .int readStocking, .ref q12, .int lefts_, .int rights_, .ref q13, .ref q14, .ref q15, .ref q16, .ref q17])), (q6, .inl (cc 0, 24, .inl heard))] H locs → lv_has ls 7 [(0, .ref q0), (1, .int x1), (2, .int j3), (3, .int j4)] → (∀ (H : Heap) (locs : List Loc) (ls : Array Slot), PD (dC, dI) A s.heap [(q0, .inr (10, [.int feetMany, .ref q1, .int log_, .int block, .ref q2, .int stocking, .ref q3, .int acts, .ref q4, .int keeps, .ref q5, .int hears, .ref q6, .ref q7, .int texted, .int at_, .ref q8, .ref q9, .int readFeetMany, .ref q10, .int readLog, .int readBlock, .ref q11, .int readStocking, .ref q12, .int lefts_, .int rights_, .ref q13, .ref q14, .ref q15, .ref q16, .ref q17])), (q6, .inl (cc 0, 24, .inl heard))] H locs → lv_has ls 7 [(0, .ref q0), (1, .int x1), (2, .int j3x), (3, .int j4x)] → W p l e ({ frames := 1, cells := 0, slots := 0, locals := 22 } : Room) s m ([.ref q0, .int x1] : List Value).toArray below meth c H locs 0 0 Z (F0 m 136 ls [])) → W p l e ({ frames := 1, cells := 0, slots := 0, locals := 22 } : Room) s m ([.ref q0, .int x1] : List Value).toArray below meth c H locs 0 0 Z (F0 m 16 ls []) := by
      intro n
      induction n with
      | zero => intro j3 j4 j3x j4x h; exact (lp_0 h).elim
      | succ n ih =>
        intro j3 j4 j3x j4x h H locs ls hP hl KK
        obtain ⟨y, h, hz⟩ := lp_h h
        refine lv_iload_n hx hb dX10_thick_16 rfl (lv_at hl 3 rfl) ?_
        refine lv_bipush (v := 10) hx hb dX10_thick_17 (by decide) ?_
        refine lv_icmp_ge (tgt := 136) hx hb dX10_thick_19 (by decide) (fun c5 => ?_) (fun c5 => ?_)
        · have h := if_t c5 h
          cases lp_e h hz
          exact KK H locs ls hP (lv_sub hl [0, 1, 2, 3] rfl)
        · have h := if_f c5 h
          refine lv_iconst (v := 1) hx hb dX10_thick_22 (by decide) ?_
          refine lv_istore (lv' := [(4, .int 1), (0, .ref q0), (1, .int x1), (2, .int j3), (3, .int j4)]) hx hb dX10_thick_23 hl (by decide) rfl (fun ls hl => ?_)
          refine lv_iconst (v := 0) hx hb dX10_thick_25 (by decide) ?_
          refine lv_istore (lv' := [(5, .int 0), (4, .int 1), (0, .ref q0), (1, .int x1), (2, .int j3), (3, .int j4)]) hx hb dX10_thick_26 hl (by decide) rfl (fun ls hl => ?_)
          obtain ⟨⟨j6x, j7x⟩, hlp, h⟩ := bnd_h h
          have L2 : ∀ (n : Nat) (j6 : Int32) (j7 : Int32) (j6x : Int32) (j7x : Int32), lp (u2 (b_X10_thick_2 heard hears j4 x1)) n (j6, j7) = some (j6x, j7x) → ∀ (H : Heap) (locs : List Loc) (ls : Array Slot), PD (dC, dI) A s.heap [(q0, .inr (10, [.int feetMany, .ref q1, .int log_, .int block, .ref q2, .int stocking, .ref q3, .int acts, .ref q4, .int keeps, .ref q5, .int hears, .ref q6, .ref q7, .int texted, .int at_, .ref q8, .ref q9, .int readFeetMany, .ref q10, .int readLog, .int readBlock, .ref q11, .int readStocking, .ref q12, .int lefts_, .int rights_, .ref q13, .ref q14, .ref q15, .ref q16, .ref q17])), (q6, .inl (cc 0, 24, .inl heard))] H locs → lv_has ls 7 [(0, .ref q0), (1, .int x1), (2, .int j3), (3, .int j4), (4, .int j6), (5, .int j7)] → (∀ (H : Heap) (locs : List Loc) (ls : Array Slot), PD (dC, dI) A s.heap [(q0, .inr (10, [.int feetMany, .ref q1, .int log_, .int block, .ref q2, .int stocking, .ref q3, .int acts, .ref q4, .int keeps, .ref q5, .int hears, .ref q6, .ref q7, .int texted, .int at_, .ref q8, .ref q9, .int readFeetMany, .ref q10, .int readLog, .int readBlock, .ref q11, .int readStocking, .ref q12, .int lefts_, .int rights_, .ref q13, .ref q14, .ref q15, .ref q16, .ref q17])), (q6, .inl (cc 0, 24, .inl heard))] H locs → lv_has ls 7 [(0, .ref q0), (1, .int x1), (2, .int j3), (3, .int j4), (4, .int j6x), (5, .int j7x)] → W p l e ({ frames := 1, cells := 0, slots := 0, locals := 22 } : Room) s m ([.ref q0, .int x1] : List Value).toArray below meth c H locs 0 0 Z (F0 m 115 ls [])) → W p l e ({ frames := 1, cells := 0, slots := 0, locals := 22 } : Room) s m ([.ref q0, .int x1] : List Value).toArray below meth c H locs 0 0 Z (F0 m 28 ls []) := by
            intro n
            induction n with
            | zero => intro j6 j7 j6x j7x h; exact (lp_0 h).elim
            | succ n ih =>
              intro j6 j7 j6x j7x h H locs ls hP hl KK
              obtain ⟨y, h, hz⟩ := lp_h h
              refine lv_iload hx hb dX10_thick_28 (lv_at hl 5 rfl) ?_
              refine lv_aload_n hx hb dX10_thick_30 rfl (lv_at hl 0 rfl) ?_
              refine g_get hC hP fg_X10_166 0 rfl rfl dX10_thick_31 ?_
              refine lv_icmp_ge (tgt := 115) hx hb dX10_thick_34 (by decide) (fun c8 => ?_) (fun c8 => ?_)
              · have h := if_t c8 h
                cases lp_e h hz
                exact KK H locs ls hP (lv_sub hl [0, 1, 2, 3, 4, 5] rfl)
              · have h := if_f c8 h
                refine lv_iload_n hx hb dX10_thick_37 rfl (lv_at hl 3 rfl) ?_
                refine lv_aload_n hx hb dX10_thick_38 rfl (lv_at hl 0 rfl) ?_
                refine g_get hC hP fg_X10_26 0 rfl rfl dX10_thick_39 ?_
                refine lv_iconst (v := 3) hx hb dX10_thick_42 (by decide) ?_
                refine lv_iload hx hb dX10_thick_43 (lv_at hl 5 rfl) ?_
                refine lv_imul hx hb dX10_thick_45 ?_
                refine lv_iconst (v := 1) hx hb dX10_thick_46 (by decide) ?_
                refine lv_iadd hx hb dX10_thick_47 ?_
                obtain ⟨hin, h⟩ := rd_h h
                refine g_iald hC hP 1 0 rfl rfl hin dX10_thick_48 (fun v9 ev => ?_)
                have h := h v9 ev
                refine lv_icmp_gt (tgt := 56) hx hb dX10_thick_49 (by decide) (fun c10 => ?_) (fun c10 => ?_)
                · have h := if_t c10 h
                  refine lv_iconst (v := 0) hx hb dX10_thick_56 (by decide) ?_
                  refine lv_istore (lv' := [(6, .int 0), (0, .ref q0), (1, .int x1), (2, .int j3), (3, .int j4), (4, .int j6), (5, .int j7)]) hx hb dX10_thick_57 hl (by decide) rfl (fun ls hl => ?_)
                  refine lv_iload hx hb dX10_thick_59 (lv_at hl 5 rfl) ?_
                  refine lv_if_eq (tgt := 106) hx hb dX10_thick_61 (by decide) (fun c11 => ?_) (fun c11 => ?_)
                  · have h := if_t c11 h
                    refine lv_iconst (v := 0) hx hb dX10_thick_106 (by decide) ?_
                    refine lv_istore (lv' := [(4, .int 0), (6, .int 0), (0, .ref q0), (1, .int x1), (2, .int j3), (3, .int j4), (5, .int j7)]) hx hb dX10_thick_107 hl (by decide) rfl (fun ls hl => ?_)
                    refine lv_iinc (v := (j7 + 1)) (lv' := [(5, .int (j7 + 1)), (4, .int 0), (6, .int 0), (0, .ref q0), (1, .int x1), (2, .int j3), (3, .int j4)]) hx hb dX10_thick_109 hl (k := 6) rfl rfl (by decide) rfl (fun ls hl => ?_)
                    refine lv_goto (tgt := 28) hx hb dX10_thick_112 (by decide) ?_
                    exact ih _ _ _ _ (lp_n h hz) H locs ls hP (lv_sub hl [3, 4, 5, 6, 1, 0] rfl) KK
                  · have h := if_f c11 h
                    refine lv_aload_n hx hb dX10_thick_64 rfl (lv_at hl 1 rfl) ?_
                    refine g_get hC hP fg_X10_26 0 rfl rfl dX10_thick_65 ?_
                    refine lv_iconst (v := 3) hx hb dX10_thick_68 (by decide) ?_
                    refine lv_iload hx hb dX10_thick_69 (lv_at hl 6 rfl) ?_
                    refine lv_imul hx hb dX10_thick_71 ?_
                    obtain ⟨hin, h⟩ := rd_h h
                    refine g_iald hC hP 1 0 rfl rfl hin dX10_thick_72 (fun v12 ev => ?_)
                    have h := h v12 ev
                    refine lv_iload_n hx hb dX10_thick_73 rfl (lv_at hl 2 rfl) ?_
                    refine lv_icmp_ne (tgt := 102) hx hb dX10_thick_74 (by decide) (fun c13 => ?_) (fun c13 => ?_)
                    · have h := if_f c13 h
                      refine lv_iconst (v := 1) hx hb dX10_thick_102 (by decide) ?_
                      refine lv_goto (tgt := 107) hx hb dX10_thick_103 (by decide) ?_
                      refine lv_istore (lv' := [(4, .int 1), (6, .int 0), (0, .ref q0), (1, .int x1), (2, .int j3), (3, .int j4), (5, .int j7)]) hx hb dX10_thick_107 hl (by decide) rfl (fun ls hl => ?_)
                      refine lv_iinc (v := (j7 + 1)) (lv' := [(5, .int (j7 + 1)), (4, .int 1), (6, .int 0), (0, .ref q0), (1, .int x1), (2, .int j3), (3, .int j4)]) hx hb dX10_thick_109 hl (k := 6) rfl rfl (by decide) rfl (fun ls hl => ?_)
                      refine lv_goto (tgt := 28) hx hb dX10_thick_112 (by decide) ?_
                      exact ih _ _ _ _ (lp_n h hz) H locs ls hP (lv_sub hl [3, 4, 5, 6, 1, 0] rfl) KK
                    · have h := if_t c13 h
                      refine lv_iload hx hb dX10_thick_77 (lv_at hl 0 rfl) ?_
                      refine lv_aload_n hx hb dX10_thick_79 rfl (lv_at hl 1 rfl) ?_
                      refine g_get hC hP fg_X10_26 0 rfl rfl dX10_thick_80 ?_
                      refine lv_iconst (v := 3) hx hb dX10_thick_83 (by decide) ?_
                      refine lv_iload hx hb dX10_thick_84 (lv_at hl 6 rfl) ?_
                      refine lv_imul hx hb dX10_thick_86 ?_
                      refine lv_iconst (v := 2) hx hb dX10_thick_87 (by decide) ?_
                      refine lv_iadd hx hb dX10_thick_88 ?_
                      obtain ⟨hin, h⟩ := rd_h h
                      refine g_iald hC hP 1 0 rfl rfl hin dX10_thick_89 (fun v14 ev => ?_)
                      have h := h v14 ev
                      refine lv_iconst (v := 1) hx hb dX10_thick_90 (by decide) ?_
                      refine lv_icmp_ne (tgt := 98) hx hb dX10_thick_91 (by decide) (fun c15 => ?_) (fun c15 => ?_)
                      · have h := if_f c15 h
                        refine lv_iconst (v := 0) hx hb dX10_thick_98 (by decide) ?_
                        refine lv_icmp_ne (tgt := 106) hx hb dX10_thick_99 (by decide) (fun c => absurd (by decide) c) (fun _ => ?_)
                        refine lv_iconst (v := 1) hx hb dX10_thick_102 (by decide) ?_
                        refine lv_goto (tgt := 107) hx hb dX10_thick_103 (by decide) ?_
                        refine lv_istore (lv' := [(4, .int 1), (6, .int 0), (0, .ref q0), (1, .int x1), (2, .int j3), (3, .int j4), (5, .int j7)]) hx hb dX10_thick_107 hl (by decide) rfl (fun ls hl => ?_)
                        refine lv_iinc (v := (j7 + 1)) (lv' := [(5, .int (j7 + 1)), (4, .int 1), (6, .int 0), (0, .ref q0), (1, .int x1), (2, .int j3), (3, .int j4)]) hx hb dX10_thick_109 hl (k := 6) rfl rfl (by decide) rfl (fun ls hl => ?_)
                        refine lv_goto (tgt := 28) hx hb dX10_thick_112 (by decide) ?_
                        exact ih _ _ _ _ (lp_n h hz) H locs ls hP (lv_sub hl [3, 4, 5, 6, 1, 0] rfl) KK
                      · have h := if_t c15 h
                        refine lv_iconst (v := 1) hx hb dX10_thick_94 (by decide) ?_
                        refine lv_goto (tgt := 99) hx hb dX10_thick_95 (by decide) ?_
                        refine lv_icmp_ne (tgt := 106) hx hb dX10_thick_99 (by decide) (fun _ => ?_) (fun c => absurd c (by decide))
                        refine lv_iconst (v := 0) hx hb dX10_thick_106 (by decide) ?_
                        refine lv_istore (lv' := [(4, .int 0), (6, .int 0), (0, .ref q0), (1, .int x1), (2, .int j3), (3, .int j4), (5, .int j7)]) hx hb dX10_thick_107 hl (by decide) rfl (fun ls hl => ?_)
                        refine lv_iinc (v := (j7 + 1)) (lv' := [(5, .int (j7 + 1)), (4, .int 0), (6, .int 0), (0, .ref q0), (1, .int x1), (2, .int j3), (3, .int j4)]) hx hb dX10_thick_109 hl (k := 6) rfl rfl (by decide) rfl (fun ls hl => ?_)
                        refine lv_goto (tgt := 28) hx hb dX10_thick_112 (by decide) ?_
                        exact ih _ _ _ _ (lp_n h hz) H locs ls hP (lv_sub hl [3, 4, 5, 6, 1, 0] rfl) KK
                · have h := if_f c10 h
                  refine lv_iconst (v := 1) hx hb dX10_thick_52 (by decide) ?_
                  refine lv_goto (tgt := 57) hx hb dX10_thick_53 (by decide) ?_
                  refine lv_istore (lv' := [(6, .int 1), (0, .ref q0), (1, .int x1), (2, .int j3), (3, .int j4), (4, .int j6), (5, .int j7)]) hx hb dX10_thick_57 hl (by decide) rfl (fun ls hl => ?_)
                  refine lv_iload hx hb dX10_thick_59 (lv_at hl 5 rfl) ?_
                  refine lv_if_eq (tgt := 106) hx hb dX10_thick_61 (by decide) (fun c18 => ?_) (fun c18 => ?_)
                  · have h := if_t c18 h
                    refine lv_iconst (v := 0) hx hb dX10_thick_106 (by decide) ?_
                    refine lv_istore (lv' := [(4, .int 0), (6, .int 1), (0, .ref q0), (1, .int x1), (2, .int j3), (3, .int j4), (5, .int j7)]) hx hb dX10_thick_107 hl (by decide) rfl (fun ls hl => ?_)
                    refine lv_iinc (v := (j7 + 1)) (lv' := [(5, .int (j7 + 1)), (4, .int 0), (6, .int 1), (0, .ref q0), (1, .int x1), (2, .int j3), (3, .int j4)]) hx hb dX10_thick_109 hl (k := 6) rfl rfl (by decide) rfl (fun ls hl => ?_)
                    refine lv_goto (tgt := 28) hx hb dX10_thick_112 (by decide) ?_
                    exact ih _ _ _ _ (lp_n h hz) H locs ls hP (lv_sub hl [3, 4, 5, 6, 1, 0] rfl) KK
                  · have h := if_f c18 h
                    refine lv_aload_n hx hb dX10_thick_64 rfl (lv_at hl 1 rfl) ?_
                    refine g_get hC hP fg_X10_26 0 rfl rfl dX10_thick_65 ?_
                    refine lv_iconst (v := 3) hx hb dX10_thick_68 (by decide) ?_
                    refine lv_iload hx hb dX10_thick_69 (lv_at hl 6 rfl) ?_
                    refine lv_imul hx hb dX10_thick_71 ?_
                    obtain ⟨hin, h⟩ := rd_h h
                    refine g_iald hC hP 1 0 rfl rfl hin dX10_thick_72 (fun v19 ev => ?_)
                    have h := h v19 ev
                    refine lv_iload_n hx hb dX10_thick_73 rfl (lv_at hl 2 rfl) ?_
                    refine lv_icmp_ne (tgt := 102) hx hb dX10_thick_74 (by decide) (fun c20 => ?_) (fun c20 => ?_)
                    · have h := if_f c20 h
                      refine lv_iconst (v := 1) hx hb dX10_thick_102 (by decide) ?_
                      refine lv_goto (tgt := 107) hx hb dX10_thick_103 (by decide) ?_
                      refine lv_istore (lv' := [(4, .int 1), (6, .int 1), (0, .ref q0), (1, .int x1), (2, .int j3), (3, .int j4), (5, .int j7)]) hx hb dX10_thick_107 hl (by decide) rfl (fun ls hl => ?_)
                      refine lv_iinc (v := (j7 + 1)) (lv' := [(5, .int (j7 + 1)), (4, .int 1), (6, .int 1), (0, .ref q0), (1, .int x1), (2, .int j3), (3, .int j4)]) hx hb dX10_thick_109 hl (k := 6) rfl rfl (by decide) rfl (fun ls hl => ?_)
                      refine lv_goto (tgt := 28) hx hb dX10_thick_112 (by decide) ?_
                      exact ih _ _ _ _ (lp_n h hz) H locs ls hP (lv_sub hl [3, 4, 5, 6, 1, 0] rfl) KK
                    · have h := if_t c20 h
                      refine lv_iload hx hb dX10_thick_77 (lv_at hl 0 rfl) ?_
                      refine lv_aload_n hx hb dX10_thick_79 rfl (lv_at hl 1 rfl) ?_
                      refine g_get hC hP fg_X10_26 0 rfl rfl dX10_thick_80 ?_
                      refine lv_iconst (v := 3) hx hb dX10_thick_83 (by decide) ?_
                      refine lv_iload hx hb dX10_thick_84 (lv_at hl 6 rfl) ?_
                      refine lv_imul hx hb dX10_thick_86 ?_
                      refine lv_iconst (v := 2) hx hb dX10_thick_87 (by decide) ?_
                      refine lv_iadd hx hb dX10_thick_88 ?_
                      obtain ⟨hin, h⟩ := rd_h h
                      refine g_iald hC hP 1 0 rfl rfl hin dX10_thick_89 (fun v21 ev => ?_)
                      have h := h v21 ev
                      refine lv_iconst (v := 1) hx hb dX10_thick_90 (by decide) ?_
                      refine lv_icmp_ne (tgt := 98) hx hb dX10_thick_91 (by decide) (fun c22 => ?_) (fun c22 => ?_)
                      · have h := if_f c22 h
                        refine lv_iconst (v := 0) hx hb dX10_thick_98 (by decide) ?_
                        refine lv_icmp_ne (tgt := 106) hx hb dX10_thick_99 (by decide) (fun _ => ?_) (fun c => absurd c (by decide))
                        refine lv_iconst (v := 0) hx hb dX10_thick_106 (by decide) ?_
                        refine lv_istore (lv' := [(4, .int 0), (6, .int 1), (0, .ref q0), (1, .int x1), (2, .int j3), (3, .int j4), (5, .int j7)]) hx hb dX10_thick_107 hl (by decide) rfl (fun ls hl => ?_)
                        refine lv_iinc (v := (j7 + 1)) (lv' := [(5, .int (j7 + 1)), (4, .int 0), (6, .int 1), (0, .ref q0), (1, .int x1), (2, .int j3), (3, .int j4)]) hx hb dX10_thick_109 hl (k := 6) rfl rfl (by decide) rfl (fun ls hl => ?_)
                        refine lv_goto (tgt := 28) hx hb dX10_thick_112 (by decide) ?_
                        exact ih _ _ _ _ (lp_n h hz) H locs ls hP (lv_sub hl [3, 4, 5, 6, 1, 0] rfl) KK
                      · have h := if_t c22 h
                        refine lv_iconst (v := 1) hx hb dX10_thick_94 (by decide) ?_
                        refine lv_goto (tgt := 99) hx hb dX10_thick_95 (by decide) ?_
                        refine lv_icmp_ne (tgt := 106) hx hb dX10_thick_99 (by decide) (fun c => absurd (by decide) c) (fun _ => ?_)
                        refine lv_iconst (v := 1) hx hb dX10_thick_102 (by decide) ?_
                        refine lv_goto (tgt := 107) hx hb dX10_thick_103 (by decide) ?_
                        refine lv_istore (lv' := [(4, .int 1), (6, .int 1), (0, .ref q0), (1, .int x1), (2, .int j3), (3, .int j4), (5, .int j7)]) hx hb dX10_thick_107 hl (by decide) rfl (fun ls hl => ?_)
                        refine lv_iinc (v := (j7 + 1)) (lv' := [(5, .int (j7 + 1)), (4, .int 1), (6, .int 1), (0, .ref q0), (1, .int x1), (2, .int j3), (3, .int j4)]) hx hb dX10_thick_109 hl (k := 6) rfl rfl (by decide) rfl (fun ls hl => ?_)
                        refine lv_goto (tgt := 28) hx hb dX10_thick_112 (by decide) ?_
                        exact ih _ _ _ _ (lp_n h hz) H locs ls hP (lv_sub hl [3, 4, 5, 6, 1, 0] rfl) KK
          refine L2 FU _ _ j6x j7x hlp H locs ls hP (lv_sub hl [2, 3, 4, 5, 1, 0] rfl) (fun H locs ls hP hl => ?_)
          refine lv_iload_n hx hb dX10_thick_115 rfl (lv_at hl 2 rfl) ?_
          refine lv_iload hx hb dX10_thick_116 (lv_at hl 4 rfl) ?_
          refine lv_if_eq (tgt := 127) hx hb dX10_thick_118 (by decide) (fun c25 => ?_) (fun c25 => ?_)
          · have h := if_t c25 h
            refine lv_iconst (v := 0) hx hb dX10_thick_127 (by decide) ?_
            refine lv_ior hx hb dX10_thick_128 ?_
            refine lv_istore_n (lv' := [(2, .int (j3 ||| 0)), (0, .ref q0), (1, .int x1), (3, .int j4), (4, .int j6x), (5, .int j7x)]) hx hb dX10_thick_129 rfl hl (by decide) rfl (fun ls hl => ?_)
            refine lv_iinc (v := (j4 + 1)) (lv' := [(3, .int (j4 + 1)), (2, .int (j3 ||| 0)), (0, .ref q0), (1, .int x1), (4, .int j6x), (5, .int j7x)]) hx hb dX10_thick_130 hl (k := 3) rfl rfl (by decide) rfl (fun ls hl => ?_)
            refine lv_goto (tgt := 16) hx hb dX10_thick_133 (by decide) ?_
            exact ih _ _ _ _ (lp_n h hz) H locs ls hP (lv_sub hl [2, 3, 1, 0] rfl) KK
          · have h := if_f c25 h
            refine lv_iconst (v := 1) hx hb dX10_thick_121 (by decide) ?_
            refine lv_iload_n hx hb dX10_thick_122 rfl (lv_at hl 3 rfl) ?_
            refine lv_ishl hx hb dX10_thick_123 ?_
            refine lv_goto (tgt := 128) hx hb dX10_thick_124 (by decide) ?_
            refine lv_ior hx hb dX10_thick_128 ?_
            refine lv_istore_n (lv' := [(2, .int (j3 ||| (1 <<< (j4 &&& 31)))), (0, .ref q0), (1, .int x1), (3, .int j4), (4, .int j6x), (5, .int j7x)]) hx hb dX10_thick_129 rfl hl (by decide) rfl (fun ls hl => ?_)
            refine lv_iinc (v := (j4 + 1)) (lv' := [(3, .int (j4 + 1)), (2, .int (j3 ||| (1 <<< (j4 &&& 31)))), (0, .ref q0), (1, .int x1), (4, .int j6x), (5, .int j7x)]) hx hb dX10_thick_130 hl (k := 3) rfl rfl (by decide) rfl (fun ls hl => ?_)
            refine lv_goto (tgt := 16) hx hb dX10_thick_133 (by decide) ?_
            exact ih _ _ _ _ (lp_n h hz) H locs ls hP (lv_sub hl [2, 3, 1, 0] rfl) KK
    refine L1 FU _ _ j3x j4x hlp H locs ls hP (lv_sub hl [2, 3, 1, 0] rfl) (fun H locs ls hP hl => ?_)
    refine lv_iload_n hx hb dX10_thick_136 rfl (lv_at hl 2 rfl) ?_
    rw [eZ]
    exact ret_i hC hr hlk hP dX10_thick_137 () (⟨Option.some.inj h, rfl⟩) rfl
  · have h := if_t c2 h
    refine lv_iconst (v := -1) hx hb dX10_thick_10 (by decide) ?_
    rw [eZ]
    exact ret_i hC hr hlk hP dX10_thick_11 () (⟨Option.some.inj h, rfl⟩) rfl
set_option maxHeartbeats 8000000 in
set_option maxRecDepth 100000 in
theorem c_X10_whole (l : Launch) (dC : Nat → ClassId) (dI : Nat → Nat → Nat) (cc : Nat → ClassId) (q0 q1 q2 q3 q4 q5 q6 q7 q8 q9 q10 q11 q12 q13 q14 q15 q16 q17 : Nat) (feetMany : Int32) (log_ : Int32) (block : Int32) (stocking : Int32) (acts : Int32) (keeps : Int32) (hears : Int32) (texted : Int32) (at_ : Int32) (readFeetMany : Int32) (readLog : Int32) (readBlock : Int32) (readStocking : Int32) (lefts_ : Int32) (rights_ : Int32) (x1 : Int32) (x2 : Int32) (x3 : Int32) (sz : Nat) (ret : Int32) (hu : f_X10_whole x1 x2 x3 = some ret) : Met l yX10_whole (mw yX10_whole cX10_whole 9 (some .int)) ({ frames := 1, cells := 0, slots := 0, locals := 22 } : Room) (va_Pc [.ref q0, .int x1, .int x2, .int x3] (mP (dC, dI) (ts cc) sz [(q0, .inr (10, [.int feetMany, .ref q1, .int log_, .int block, .ref q2, .int stocking, .ref q3, .int acts, .ref q4, .int keeps, .ref q5, .int hears, .ref q6, .ref q7, .int texted, .int at_, .ref q8, .ref q9, .int readFeetMany, .ref q10, .int readLog, .int readBlock, .ref q11, .int readStocking, .ref q12, .int lefts_, .int rights_, .ref q13, .ref q14, .ref q15, .ref q16, .ref q17]))])) ((fun A => va_Qi (fun (r : Int32) (w : Unit) => r = ret ∧ w = ()) (fun (w : Unit) t => va_P (dC, dI) classes [(q0, .inr (10, [.int feetMany, .ref q1, .int log_, .int block, .ref q2, .int stocking, .ref q3, .int acts, .ref q4, .int keeps, .ref q5, .int hears, .ref q6, .ref q7, .int texted, .int at_, .ref q8, .ref q9, .int readFeetMany, .ref q10, .int readLog, .int readBlock, .ref q11, .int readStocking, .ref q12, .int lefts_, .int rights_, .ref q13, .ref q14, .ref q15, .ref q16, .ref q17]))] t.heap) A) (va_A [(q0, .inr (10, [.int feetMany, .ref q1, .int log_, .int block, .ref q2, .int stocking, .ref q3, .int acts, .ref q4, .int keeps, .ref q5, .int hears, .ref q6, .ref q7, .int texted, .int at_, .ref q8, .ref q9, .int readFeetMany, .ref q10, .int readLog, .int readBlock, .ref q11, .int readStocking, .ref q12, .int lefts_, .int rights_, .ref q13, .ref q14, .ref q15, .ref q16, .ref q17]))] sz)) 0 0 (va_A [(q0, .inr (10, [.int feetMany, .ref q1, .int log_, .int block, .ref q2, .int stocking, .ref q3, .int acts, .ref q4, .int keeps, .ref q5, .int hears, .ref q6, .ref q7, .int texted, .int at_, .ref q8, .ref q9, .int readFeetMany, .ref q10, .int readLog, .int readBlock, .ref q11, .int readStocking, .ref q12, .int lefts_, .int rights_, .ref q13, .ref q14, .ref q15, .ref q16, .ref q17]))] sz) := by
  refine met_go (Qc := fun A => va_Qi (fun (r : Int32) (w : Unit) => r = ret ∧ w = ()) (fun (w : Unit) t => va_P (dC, dI) classes [(q0, .inr (10, [.int feetMany, .ref q1, .int log_, .int block, .ref q2, .int stocking, .ref q3, .int acts, .ref q4, .int keeps, .ref q5, .int hears, .ref q6, .ref q7, .int texted, .int at_, .ref q8, .ref q9, .int readFeetMany, .ref q10, .int readLog, .int readBlock, .ref q11, .int readStocking, .ref q12, .int lefts_, .int rights_, .ref q13, .ref q14, .ref q15, .ref q16, .ref q17]))] t.heap) A) (by decide) (Nat.le_of_ble_eq_true rfl) ?_
  intro p e s m below meth c A ls H locs hC hr hlk hin hA hP hl _
  have hC : CX p m c cX10_whole 9 s ([.ref q0, .int x1, .int x2, .int x3] : List Value).toArray RX10 (dC, dI) (ts cc) := hC
  have hx := hC.1.1
  have hb := hC.1.2
  have h := hu
  have hu0 := hu
  unfold f_X10_whole at h
  have hl : lv_has ls 9 [(0, .ref q0), (1, .int x1), (2, .int x2), (3, .int x3)] := hl
  refine W_abs (fun Z eZ => ?_)
  refine lv_iload_n hx hb dX10_whole_0 rfl (lv_at hl 1 rfl) ?_
  refine lv_iconst (v := 0) hx hb dX10_whole_1 (by decide) ?_
  refine lv_iconst (v := 4) hx hb dX10_whole_2 (by decide) ?_
  obtain ⟨r1, hu, h⟩ := bnd_h h
  refine kc_z (kS hC (c_X10_in l dC dI cc x1 0 4 H.size r1 hu) cs_X10_90 kw912 rfl rfl ⟨(Nat.le_of_ble_eq_true rfl), (Nat.le_of_ble_eq_true rfl)⟩ hP [] rfl rfl (As := [.int x1, .int 0, .int 4]) (rest := []) rfl rfl hl.1 (Nat.le_of_ble_eq_true rfl) dX10_whole_3 ⟨Nat.zero_le _, Nat.zero_le _⟩) hP hA [] rfl rfl (fun hz_r1 H locs hP => ?_)
  have hP : PD (dC, dI) A s.heap [(q0, .inr (10, [.int feetMany, .ref q1, .int log_, .int block, .ref q2, .int stocking, .ref q3, .int acts, .ref q4, .int keeps, .ref q5, .int hears, .ref q6, .ref q7, .int texted, .int at_, .ref q8, .ref q9, .int readFeetMany, .ref q10, .int readLog, .int readBlock, .ref q11, .int readStocking, .ref q12, .int lefts_, .int rights_, .ref q13, .ref q14, .ref q15, .ref q16, .ref q17]))] H locs := hP
  refine lv_if_eq (tgt := 28) hx hb dX10_whole_6 (by decide) (fun c2 => ?_) (fun c2 => ?_)
  · have h := if_t c2 h
    refine lv_iconst (v := -1) hx hb dX10_whole_28 (by decide) ?_
    rw [eZ]
    exact ret_i hC hr hlk hP dX10_whole_29 () (⟨Option.some.inj h, rfl⟩) rfl
  · have h := if_f c2 h
    refine lv_iload_n hx hb dX10_whole_9 rfl (lv_at hl 2 rfl) ?_
    refine lv_iconst (v := 0) hx hb dX10_whole_10 (by decide) ?_
    refine lv_bipush (v := 10) hx hb dX10_whole_11 (by decide) ?_
    obtain ⟨r3, hu, h⟩ := bnd_h h
    refine kc_z (kS hC (c_X10_in l dC dI cc x2 0 10 H.size r3 hu) cs_X10_90 kw912 rfl rfl ⟨(Nat.le_of_ble_eq_true rfl), (Nat.le_of_ble_eq_true rfl)⟩ hP [] rfl rfl (As := [.int x2, .int 0, .int 10]) (rest := []) rfl rfl hl.1 (Nat.le_of_ble_eq_true rfl) dX10_whole_13 ⟨Nat.zero_le _, Nat.zero_le _⟩) hP hA [] rfl rfl (fun hz_r3 H locs hP => ?_)
    have hP : PD (dC, dI) A s.heap [(q0, .inr (10, [.int feetMany, .ref q1, .int log_, .int block, .ref q2, .int stocking, .ref q3, .int acts, .ref q4, .int keeps, .ref q5, .int hears, .ref q6, .ref q7, .int texted, .int at_, .ref q8, .ref q9, .int readFeetMany, .ref q10, .int readLog, .int readBlock, .ref q11, .int readStocking, .ref q12, .int lefts_, .int rights_, .ref q13, .ref q14, .ref q15, .ref q16, .ref q17]))] H locs := hP
    refine lv_if_eq (tgt := 28) hx hb dX10_whole_16 (by decide) (fun c4 => ?_) (fun c4 => ?_)
    · have h := if_t c4 h
      refine lv_iconst (v := -1) hx hb dX10_whole_28 (by decide) ?_
      rw [eZ]
      exact ret_i hC hr hlk hP dX10_whole_29 () (⟨Option.some.inj h, rfl⟩) rfl
    · have h := if_f c4 h
      refine lv_iload_n hx hb dX10_whole_19 rfl (lv_at hl 3 rfl) ?_
      refine lv_iconst (v := 0) hx hb dX10_whole_20 (by decide) ?_
      refine lv_iconst (v := 1) hx hb dX10_whole_21 (by decide) ?_
      obtain ⟨r5, hu, h⟩ := bnd_h h
      refine kc_z (kS hC (c_X10_in l dC dI cc x3 0 1 H.size r5 hu) cs_X10_90 kw912 rfl rfl ⟨(Nat.le_of_ble_eq_true rfl), (Nat.le_of_ble_eq_true rfl)⟩ hP [] rfl rfl (As := [.int x3, .int 0, .int 1]) (rest := []) rfl rfl hl.1 (Nat.le_of_ble_eq_true rfl) dX10_whole_22 ⟨Nat.zero_le _, Nat.zero_le _⟩) hP hA [] rfl rfl (fun hz_r5 H locs hP => ?_)
      have hP : PD (dC, dI) A s.heap [(q0, .inr (10, [.int feetMany, .ref q1, .int log_, .int block, .ref q2, .int stocking, .ref q3, .int acts, .ref q4, .int keeps, .ref q5, .int hears, .ref q6, .ref q7, .int texted, .int at_, .ref q8, .ref q9, .int readFeetMany, .ref q10, .int readLog, .int readBlock, .ref q11, .int readStocking, .ref q12, .int lefts_, .int rights_, .ref q13, .ref q14, .ref q15, .ref q16, .ref q17]))] H locs := hP
      refine lv_if_ne (tgt := 30) hx hb dX10_whole_25 (by decide) (fun c6 => ?_) (fun c6 => ?_)
      · have h := if_f c6 h
        refine lv_iconst (v := 1) hx hb dX10_whole_30 (by decide) ?_
        refine lv_istore (lv' := [(4, .int 1), (0, .ref q0), (1, .int x1), (2, .int x2), (3, .int x3)]) hx hb dX10_whole_31 hl (by decide) rfl (fun ls hl => ?_)
        refine lv_iconst (v := 1) hx hb dX10_whole_33 (by decide) ?_
        refine lv_istore (lv' := [(5, .int 1), (4, .int 1), (0, .ref q0), (1, .int x1), (2, .int x2), (3, .int x3)]) hx hb dX10_whole_34 hl (by decide) rfl (fun ls hl => ?_)
        refine lv_iconst (v := 0) hx hb dX10_whole_36 (by decide) ?_
        refine lv_istore (lv' := [(6, .int 0), (5, .int 1), (4, .int 1), (0, .ref q0), (1, .int x1), (2, .int x2), (3, .int x3)]) hx hb dX10_whole_37 hl (by decide) rfl (fun ls hl => ?_)
        obtain ⟨⟨j7x, j8x, j9x⟩, hlp, h⟩ := bnd_h h
        have L1 : ∀ (n : Nat) (j7 : Int32) (j8 : Int32) (j9 : Int32) (j7x : Int32) (j8x : Int32) (j9x : Int32), lp (u3 (b_X10_whole_1 x1 x2)) n (j7, j8, j9) = some (j7x, j8x, j9x) → ∀ (H : Heap) (locs : List Loc) (ls : Array Slot), PD (dC, dI) A s.heap [(q0, .inr (10, [.int feetMany, .ref q1, .int log_, .int block, .ref q2, .int stocking, .ref q3, .int acts, .ref q4, .int keeps, .ref q5, .int hears, .ref q6, .ref q7, .int texted, .int at_, .ref q8, .ref q9, .int readFeetMany, .ref q10, .int readLog, .int readBlock, .ref q11, .int readStocking, .ref q12, .int lefts_, .int rights_, .ref q13, .ref q14, .ref q15, .ref q16, .ref q17]))] H locs → lv_has ls 9 [(1, .int x1), (2, .int x2), (3, .int x3), (4, .int j7), (5, .int j8), (6, .int j9)] → (∀ (H : Heap) (locs : List Loc) (ls : Array Slot), PD (dC, dI) A s.heap [(q0, .inr (10, [.int feetMany, .ref q1, .int log_, .int block, .ref q2, .int stocking, .ref q3, .int acts, .ref q4, .int keeps, .ref q5, .int hears, .ref q6, .ref q7, .int texted, .int at_, .ref q8, .ref q9, .int readFeetMany, .ref q10, .int readLog, .int readBlock, .ref q11, .int readStocking, .ref q12, .int lefts_, .int rights_, .ref q13, .ref q14, .ref q15, .ref q16, .ref q17]))] H locs → lv_has ls 9 [(1, .int x1), (2, .int x2), (3, .int x3), (4, .int j7x), (5, .int j8x), (6, .int j9x)] → W p l e ({ frames := 1, cells := 0, slots := 0, locals := 22 } : Room) s m ([.ref q0, .int x1, .int x2, .int x3] : List Value).toArray below meth c H locs 0 0 Z (F0 m 69 ls [])) → W p l e ({ frames := 1, cells := 0, slots := 0, locals := 22 } : Room) s m ([.ref q0, .int x1, .int x2, .int x3] : List Value).toArray below meth c H locs 0 0 Z (F0 m 39 ls []) := by
          intro n
          induction n with
          | zero => intro j7 j8 j9 j7x j8x j9x h; exact (lp_0 h).elim
          | succ n ih =>
            intro j7 j8 j9 j7x j8x j9x h H locs ls hP hl KK
            obtain ⟨y, h, hz⟩ := lp_h h
            refine lv_iload hx hb dX10_whole_39 (lv_at hl 5 rfl) ?_
            refine lv_iconst (v := 2) hx hb dX10_whole_41 (by decide) ?_
            refine lv_iload_n hx hb dX10_whole_42 rfl (lv_at hl 0 rfl) ?_
            refine lv_imul hx hb dX10_whole_43 ?_
            refine lv_icmp_ge (tgt := 69) hx hb dX10_whole_44 (by decide) (fun c10 => ?_) (fun c10 => ?_)
            · have h := if_t c10 h
              cases lp_e h hz
              exact KK H locs ls hP (lv_sub hl [0, 1, 2, 3, 4, 5] rfl)
            · have h := if_f c10 h
              refine lv_iload hx hb dX10_whole_47 (lv_at hl 3 rfl) ?_
              refine lv_bipush (v := 10) hx hb dX10_whole_49 (by decide) ?_
              refine lv_iload_n hx hb dX10_whole_51 rfl (lv_at hl 1 rfl) ?_
              refine lv_isub hx hb dX10_whole_52 ?_
              refine lv_imul hx hb dX10_whole_53 ?_
              refine lv_istore (lv' := [(4, .int (j7 * (10 - x2))), (1, .int x1), (2, .int x2), (3, .int x3), (5, .int j8), (6, .int j9)]) hx hb dX10_whole_54 hl (by decide) rfl (fun ls hl => ?_)
              refine lv_iload hx hb dX10_whole_56 (lv_at hl 4 rfl) ?_
              refine lv_bipush (v := 10) hx hb dX10_whole_58 (by decide) ?_
              refine lv_imul hx hb dX10_whole_60 ?_
              refine lv_istore (lv' := [(5, .int (j8 * 10)), (4, .int (j7 * (10 - x2))), (1, .int x1), (2, .int x2), (3, .int x3), (6, .int j9)]) hx hb dX10_whole_61 hl (by decide) rfl (fun ls hl => ?_)
              refine lv_iinc (v := (j9 + 1)) (lv' := [(6, .int (j9 + 1)), (5, .int (j8 * 10)), (4, .int (j7 * (10 - x2))), (1, .int x1), (2, .int x2), (3, .int x3)]) hx hb dX10_whole_63 hl (k := 5) rfl rfl (by decide) rfl (fun ls hl => ?_)
              refine lv_goto (tgt := 39) hx hb dX10_whole_66 (by decide) ?_
              exact ih _ _ _ _ _ _ (lp_n h hz) H locs ls hP (lv_sub hl [3, 4, 5, 2, 1, 0] rfl) KK
        refine L1 FU _ _ _ j7x j8x j9x hlp H locs ls hP (lv_sub hl [4, 5, 6, 2, 1, 0] rfl) (fun H locs ls hP hl => ?_)
        refine lv_iload hx hb dX10_whole_69 (lv_at hl 3 rfl) ?_
        refine lv_istore (lv' := [(6, .int j7x), (1, .int x1), (2, .int x2), (3, .int x3), (4, .int j7x), (5, .int j8x)]) hx hb dX10_whole_71 hl (by decide) rfl (fun ls hl => ?_)
        refine lv_iload hx hb dX10_whole_73 (lv_at hl 5 rfl) ?_
        refine lv_istore (lv' := [(7, .int j8x), (6, .int j7x), (1, .int x1), (2, .int x2), (3, .int x3), (4, .int j7x), (5, .int j8x)]) hx hb dX10_whole_75 hl (by decide) rfl (fun ls hl => ?_)
        obtain ⟨⟨j11x, j12x⟩, hlp, h⟩ := bnd_h h
        have L2 : ∀ (n : Nat) (j11 : Int32) (j12 : Int32) (j11x : Int32) (j12x : Int32), lp (u2 b_X10_whole_2) n (j11, j12) = some (j11x, j12x) → ∀ (H : Heap) (locs : List Loc) (ls : Array Slot), PD (dC, dI) A s.heap [(q0, .inr (10, [.int feetMany, .ref q1, .int log_, .int block, .ref q2, .int stocking, .ref q3, .int acts, .ref q4, .int keeps, .ref q5, .int hears, .ref q6, .ref q7, .int texted, .int at_, .ref q8, .ref q9, .int readFeetMany, .ref q10, .int readLog, .int readBlock, .ref q11, .int readStocking, .ref q12, .int lefts_, .int rights_, .ref q13, .ref q14, .ref q15, .ref q16, .ref q17]))] H locs → lv_has ls 9 [(3, .int x3), (4, .int j7x), (5, .int j8x), (6, .int j11), (7, .int j12)] → (∀ (H : Heap) (locs : List Loc) (ls : Array Slot), PD (dC, dI) A s.heap [(q0, .inr (10, [.int feetMany, .ref q1, .int log_, .int block, .ref q2, .int stocking, .ref q3, .int acts, .ref q4, .int keeps, .ref q5, .int hears, .ref q6, .ref q7, .int texted, .int at_, .ref q8, .ref q9, .int readFeetMany, .ref q10, .int readLog, .int readBlock, .ref q11, .int readStocking, .ref q12, .int lefts_, .int rights_, .ref q13, .ref q14, .ref q15, .ref q16, .ref q17]))] H locs → lv_has ls 9 [(3, .int x3), (4, .int j7x), (5, .int j8x), (6, .int j11x), (7, .int j12x)] → W p l e ({ frames := 1, cells := 0, slots := 0, locals := 22 } : Room) s m ([.ref q0, .int x1, .int x2, .int x3] : List Value).toArray below meth c H locs 0 0 Z (F0 m 100 ls [])) → W p l e ({ frames := 1, cells := 0, slots := 0, locals := 22 } : Room) s m ([.ref q0, .int x1, .int x2, .int x3] : List Value).toArray below meth c H locs 0 0 Z (F0 m 77 ls []) := by
          intro n
          induction n with
          | zero => intro j11 j12 j11x j12x h; exact (lp_0 h).elim
          | succ n ih =>
            intro j11 j12 j11x j12x h H locs ls hP hl KK
            obtain ⟨y, h, hz⟩ := lp_h h
            refine lv_iload hx hb dX10_whole_77 (lv_at hl 4 rfl) ?_
            refine lv_if_le (tgt := 100) hx hb dX10_whole_79 (by decide) (fun c13 => ?_) (fun c13 => ?_)
            · have h := if_t c13 h
              cases lp_e h hz
              exact KK H locs ls hP (lv_sub hl [0, 1, 2, 3, 4] rfl)
            · have h := if_f c13 h
              refine lv_iload hx hb dX10_whole_82 (lv_at hl 3 rfl) ?_
              refine lv_iload hx hb dX10_whole_84 (lv_at hl 4 rfl) ?_
              obtain ⟨hne, h⟩ := rmI_h h
              refine lv_irem hx hb dX10_whole_86 hne ?_
              refine lv_topi (fun v14 ev => ?_)
              have h := h v14 ev
              refine lv_istore (lv' := [(8, .int v14), (3, .int x3), (4, .int j7x), (5, .int j8x), (6, .int j11), (7, .int j12)]) hx hb dX10_whole_87 hl (by decide) rfl (fun ls hl => ?_)
              refine lv_iload hx hb dX10_whole_89 (lv_at hl 5 rfl) ?_
              refine lv_istore (lv' := [(6, .int j12), (8, .int v14), (3, .int x3), (4, .int j7x), (5, .int j8x), (7, .int j12)]) hx hb dX10_whole_91 hl (by decide) rfl (fun ls hl => ?_)
              refine lv_iload hx hb dX10_whole_93 (lv_at hl 1 rfl) ?_
              refine lv_istore (lv' := [(7, .int v14), (6, .int j12), (8, .int v14), (3, .int x3), (4, .int j7x), (5, .int j8x)]) hx hb dX10_whole_95 hl (by decide) rfl (fun ls hl => ?_)
              refine lv_goto (tgt := 77) hx hb dX10_whole_97 (by decide) ?_
              exact ih _ _ _ _ (lp_n h hz) H locs ls hP (lv_sub hl [3, 4, 5, 1, 0] rfl) KK
        refine L2 FU _ _ j11x j12x hlp H locs ls hP (lv_sub hl [4, 5, 6, 1, 0] rfl) (fun H locs ls hP hl => ?_)
        refine lv_iload_n hx hb dX10_whole_100 rfl (lv_at hl 0 rfl) ?_
        refine lv_if_ne (tgt := 109) hx hb dX10_whole_101 (by decide) (fun c15 => ?_) (fun c15 => ?_)
        · have h := if_f c15 h
          refine lv_iload hx hb dX10_whole_109 (lv_at hl 2 rfl) ?_
          refine lv_iload hx hb dX10_whole_111 (lv_at hl 3 rfl) ?_
          obtain ⟨hne, h⟩ := dvI_h h
          refine lv_idiv hx hb dX10_whole_113 hne ?_
          refine lv_topi (fun v16 ev => ?_)
          have h := h v16 ev
          rw [eZ]
          exact ret_i hC hr hlk hP dX10_whole_114 () (⟨Option.some.inj h, rfl⟩) rfl
        · have h := if_t c15 h
          refine lv_iload hx hb dX10_whole_104 (lv_at hl 1 rfl) ?_
          refine lv_goto (tgt := 111) hx hb dX10_whole_106 (by decide) ?_
          refine lv_iload hx hb dX10_whole_111 (lv_at hl 3 rfl) ?_
          obtain ⟨hne, h⟩ := dvI_h h
          refine lv_idiv hx hb dX10_whole_113 hne ?_
          refine lv_topi (fun v17 ev => ?_)
          have h := h v17 ev
          rw [eZ]
          exact ret_i hC hr hlk hP dX10_whole_114 () (⟨Option.some.inj h, rfl⟩) rfl
      · have h := if_t c6 h
        refine lv_iconst (v := -1) hx hb dX10_whole_28 (by decide) ?_
        rw [eZ]
        exact ret_i hC hr hlk hP dX10_whole_29 () (⟨Option.some.inj h, rfl⟩) rfl
set_option maxHeartbeats 8000000 in
set_option maxRecDepth 100000 in
theorem c_X10_together (l : Launch) (dC : Nat → ClassId) (dI : Nat → Nat → Nat) (cc : Nat → ClassId) (q0 q1 q2 q3 q4 q5 q6 q7 q8 q9 q10 q11 q12 q13 q14 q15 q16 q17 : Nat) (feetMany : Int32) (log_ : Int32) (block : Int32) (stocking : Int32) (acts : Int32) (keeps : Int32) (hears : Int32) (texted : Int32) (at_ : Int32) (readFeetMany : Int32) (readLog : Int32) (readBlock : Int32) (readStocking : Int32) (lefts_ : Int32) (rights_ : Int32) (x1 : Int32) (x2 : Int32) (sz : Nat) (ret : Int32) (hu : f_X10_together x1 x2 = some ret) : Met l yX10_together (mw yX10_together cX10_together 14 (some .int)) ({ frames := 1, cells := 0, slots := 0, locals := 22 } : Room) (va_Pc [.ref q0, .int x1, .int x2] (mP (dC, dI) (ts cc) sz [(q0, .inr (10, [.int feetMany, .ref q1, .int log_, .int block, .ref q2, .int stocking, .ref q3, .int acts, .ref q4, .int keeps, .ref q5, .int hears, .ref q6, .ref q7, .int texted, .int at_, .ref q8, .ref q9, .int readFeetMany, .ref q10, .int readLog, .int readBlock, .ref q11, .int readStocking, .ref q12, .int lefts_, .int rights_, .ref q13, .ref q14, .ref q15, .ref q16, .ref q17]))])) ((fun A => va_Qi (fun (r : Int32) (w : Unit) => r = ret ∧ w = ()) (fun (w : Unit) t => va_P (dC, dI) classes [(q0, .inr (10, [.int feetMany, .ref q1, .int log_, .int block, .ref q2, .int stocking, .ref q3, .int acts, .ref q4, .int keeps, .ref q5, .int hears, .ref q6, .ref q7, .int texted, .int at_, .ref q8, .ref q9, .int readFeetMany, .ref q10, .int readLog, .int readBlock, .ref q11, .int readStocking, .ref q12, .int lefts_, .int rights_, .ref q13, .ref q14, .ref q15, .ref q16, .ref q17]))] t.heap) A) (va_A [(q0, .inr (10, [.int feetMany, .ref q1, .int log_, .int block, .ref q2, .int stocking, .ref q3, .int acts, .ref q4, .int keeps, .ref q5, .int hears, .ref q6, .ref q7, .int texted, .int at_, .ref q8, .ref q9, .int readFeetMany, .ref q10, .int readLog, .int readBlock, .ref q11, .int readStocking, .ref q12, .int lefts_, .int rights_, .ref q13, .ref q14, .ref q15, .ref q16, .ref q17]))] sz)) 0 0 (va_A [(q0, .inr (10, [.int feetMany, .ref q1, .int log_, .int block, .ref q2, .int stocking, .ref q3, .int acts, .ref q4, .int keeps, .ref q5, .int hears, .ref q6, .ref q7, .int texted, .int at_, .ref q8, .ref q9, .int readFeetMany, .ref q10, .int readLog, .int readBlock, .ref q11, .int readStocking, .ref q12, .int lefts_, .int rights_, .ref q13, .ref q14, .ref q15, .ref q16, .ref q17]))] sz) := by
  refine met_go (Qc := fun A => va_Qi (fun (r : Int32) (w : Unit) => r = ret ∧ w = ()) (fun (w : Unit) t => va_P (dC, dI) classes [(q0, .inr (10, [.int feetMany, .ref q1, .int log_, .int block, .ref q2, .int stocking, .ref q3, .int acts, .ref q4, .int keeps, .ref q5, .int hears, .ref q6, .ref q7, .int texted, .int at_, .ref q8, .ref q9, .int readFeetMany, .ref q10, .int readLog, .int readBlock, .ref q11, .int readStocking, .ref q12, .int lefts_, .int rights_, .ref q13, .ref q14, .ref q15, .ref q16, .ref q17]))] t.heap) A) (by decide) (Nat.le_of_ble_eq_true rfl) ?_
  intro p e s m below meth c A ls H locs hC hr hlk hin hA hP hl _
  have hC : CX p m c cX10_together 14 s ([.ref q0, .int x1, .int x2] : List Value).toArray RX10 (dC, dI) (ts cc) := hC
  have hx := hC.1.1
  have hb := hC.1.2
  have h := hu
  have hu0 := hu
  unfold f_X10_together at h
  have hl : lv_has ls 14 [(0, .ref q0), (1, .int x1), (2, .int x2)] := hl
  refine W_abs (fun Z eZ => ?_)
  refine lv_iload_n hx hb dX10_together_0 rfl (lv_at hl 1 rfl) ?_
  refine lv_iconst (v := 0) hx hb dX10_together_1 (by decide) ?_
  refine lv_iconst (v := 3) hx hb dX10_together_2 (by decide) ?_
  obtain ⟨r1, hu, h⟩ := bnd_h h
  refine kc_z (kS hC (c_X10_in l dC dI cc x1 0 3 H.size r1 hu) cs_X10_90 kw912 rfl rfl ⟨(Nat.le_of_ble_eq_true rfl), (Nat.le_of_ble_eq_true rfl)⟩ hP [] rfl rfl (As := [.int x1, .int 0, .int 3]) (rest := []) rfl rfl hl.1 (Nat.le_of_ble_eq_true rfl) dX10_together_3 ⟨Nat.zero_le _, Nat.zero_le _⟩) hP hA [] rfl rfl (fun hz_r1 H locs hP => ?_)
  have hP : PD (dC, dI) A s.heap [(q0, .inr (10, [.int feetMany, .ref q1, .int log_, .int block, .ref q2, .int stocking, .ref q3, .int acts, .ref q4, .int keeps, .ref q5, .int hears, .ref q6, .ref q7, .int texted, .int at_, .ref q8, .ref q9, .int readFeetMany, .ref q10, .int readLog, .int readBlock, .ref q11, .int readStocking, .ref q12, .int lefts_, .int rights_, .ref q13, .ref q14, .ref q15, .ref q16, .ref q17]))] H locs := hP
  refine lv_if_eq (tgt := 19) hx hb dX10_together_6 (by decide) (fun c2 => ?_) (fun c2 => ?_)
  · have h := if_t c2 h
    refine lv_iconst (v := -1) hx hb dX10_together_19 (by decide) ?_
    rw [eZ]
    exact ret_i hC hr hlk hP dX10_together_20 () (⟨Option.some.inj h, rfl⟩) rfl
  · have h := if_f c2 h
    refine lv_iload_n hx hb dX10_together_9 rfl (lv_at hl 2 rfl) ?_
    refine lv_iconst (v := 0) hx hb dX10_together_10 (by decide) ?_
    refine lv_bipush (v := 33) hx hb dX10_together_11 (by decide) ?_
    obtain ⟨r3, hu, h⟩ := bnd_h h
    refine kc_z (kS hC (c_X10_in l dC dI cc x2 0 33 H.size r3 hu) cs_X10_90 kw912 rfl rfl ⟨(Nat.le_of_ble_eq_true rfl), (Nat.le_of_ble_eq_true rfl)⟩ hP [] rfl rfl (As := [.int x2, .int 0, .int 33]) (rest := []) rfl rfl hl.1 (Nat.le_of_ble_eq_true rfl) dX10_together_13 ⟨Nat.zero_le _, Nat.zero_le _⟩) hP hA [] rfl rfl (fun hz_r3 H locs hP => ?_)
    have hP : PD (dC, dI) A s.heap [(q0, .inr (10, [.int feetMany, .ref q1, .int log_, .int block, .ref q2, .int stocking, .ref q3, .int acts, .ref q4, .int keeps, .ref q5, .int hears, .ref q6, .ref q7, .int texted, .int at_, .ref q8, .ref q9, .int readFeetMany, .ref q10, .int readLog, .int readBlock, .ref q11, .int readStocking, .ref q12, .int lefts_, .int rights_, .ref q13, .ref q14, .ref q15, .ref q16, .ref q17]))] H locs := hP
    refine lv_if_ne (tgt := 21) hx hb dX10_together_16 (by decide) (fun c4 => ?_) (fun c4 => ?_)
    · have h := if_f c4 h
      refine lv_lconst (v := 1) hx hb dX10_together_21 (by decide) ?_
      refine lv_lstore_n (lv' := [(3, .long 1), (0, .ref q0), (1, .int x1), (2, .int x2)]) hx hb dX10_together_22 rfl hl (by decide) rfl (fun ls hl => ?_)
      refine lv_lconst (v := 1) hx hb dX10_together_23 (by decide) ?_
      refine lv_lstore (lv' := [(5, .long 1), (3, .long 1), (0, .ref q0), (1, .int x1), (2, .int x2)]) hx hb dX10_together_24 hl (by decide) rfl (fun ls hl => ?_)
      refine lv_lconst (v := 1) hx hb dX10_together_26 (by decide) ?_
      refine lv_lstore (lv' := [(7, .long 1), (5, .long 1), (3, .long 1), (0, .ref q0), (1, .int x1), (2, .int x2)]) hx hb dX10_together_27 hl (by decide) rfl (fun ls hl => ?_)
      refine lv_lconst (v := 0) hx hb dX10_together_29 (by decide) ?_
      refine lv_lstore (lv' := [(9, .long 0), (7, .long 1), (5, .long 1), (3, .long 1), (0, .ref q0), (1, .int x1), (2, .int x2)]) hx hb dX10_together_30 hl (by decide) rfl (fun ls hl => ?_)
      refine lv_lconst (v := 0) hx hb dX10_together_32 (by decide) ?_
      refine lv_lstore (lv' := [(11, .long 0), (9, .long 0), (7, .long 1), (5, .long 1), (3, .long 1), (0, .ref q0), (1, .int x1), (2, .int x2)]) hx hb dX10_together_33 hl (by decide) rfl (fun ls hl => ?_)
      refine lv_iconst (v := 0) hx hb dX10_together_35 (by decide) ?_
      refine lv_istore (lv' := [(13, .int 0), (11, .long 0), (9, .long 0), (7, .long 1), (5, .long 1), (3, .long 1), (0, .ref q0), (1, .int x1), (2, .int x2)]) hx hb dX10_together_36 hl (by decide) rfl (fun ls hl => ?_)
      obtain ⟨⟨j5x, j6x, j7x, j8x, j9x, j10x⟩, hlp, h⟩ := bnd_h h
      have L1 : ∀ (n : Nat) (j5 : Int64) (j6 : Int64) (j7 : Int64) (j8 : Int64) (j9 : Int64) (j10 : Int32) (j5x : Int64) (j6x : Int64) (j7x : Int64) (j8x : Int64) (j9x : Int64) (j10x : Int32), lp (u6 (b_X10_together_1 x1 x2)) n (j5, j6, j7, j8, j9, j10) = some (j5x, j6x, j7x, j8x, j9x, j10x) → ∀ (H : Heap) (locs : List Loc) (ls : Array Slot), PD (dC, dI) A s.heap [(q0, .inr (10, [.int feetMany, .ref q1, .int log_, .int block, .ref q2, .int stocking, .ref q3, .int acts, .ref q4, .int keeps, .ref q5, .int hears, .ref q6, .ref q7, .int texted, .int at_, .ref q8, .ref q9, .int readFeetMany, .ref q10, .int readLog, .int readBlock, .ref q11, .int readStocking, .ref q12, .int lefts_, .int rights_, .ref q13, .ref q14, .ref q15, .ref q16, .ref q17]))] H locs → lv_has ls 14 [(1, .int x1), (2, .int x2), (3, .long j5), (5, .long j6), (7, .long j7), (9, .long j8), (11, .long j9), (13, .int j10)] → (∀ (H : Heap) (locs : List Loc) (ls : Array Slot), PD (dC, dI) A s.heap [(q0, .inr (10, [.int feetMany, .ref q1, .int log_, .int block, .ref q2, .int stocking, .ref q3, .int acts, .ref q4, .int keeps, .ref q5, .int hears, .ref q6, .ref q7, .int texted, .int at_, .ref q8, .ref q9, .int readFeetMany, .ref q10, .int readLog, .int readBlock, .ref q11, .int readStocking, .ref q12, .int lefts_, .int rights_, .ref q13, .ref q14, .ref q15, .ref q16, .ref q17]))] H locs → lv_has ls 14 [(1, .int x1), (2, .int x2), (3, .long j5x), (5, .long j6x), (7, .long j7x), (9, .long j8x), (11, .long j9x), (13, .int j10x)] → W p l e ({ frames := 1, cells := 0, slots := 0, locals := 22 } : Room) s m ([.ref q0, .int x1, .int x2] : List Value).toArray below meth c H locs 0 0 Z (F0 m 122 ls [])) → W p l e ({ frames := 1, cells := 0, slots := 0, locals := 22 } : Room) s m ([.ref q0, .int x1, .int x2] : List Value).toArray below meth c H locs 0 0 Z (F0 m 38 ls []) := by
        intro n
        induction n with
        | zero => intro j5 j6 j7 j8 j9 j10 j5x j6x j7x j8x j9x j10x h; exact (lp_0 h).elim
        | succ n ih =>
          intro j5 j6 j7 j8 j9 j10 j5x j6x j7x j8x j9x j10x h H locs ls hP hl KK
          obtain ⟨y, h, hz⟩ := lp_h h
          refine lv_iload hx hb dX10_together_38 (lv_at hl 7 rfl) ?_
          refine lv_iconst (v := 2) hx hb dX10_together_40 (by decide) ?_
          refine lv_iload_n hx hb dX10_together_41 rfl (lv_at hl 0 rfl) ?_
          refine lv_imul hx hb dX10_together_42 ?_
          refine lv_icmp_ge (tgt := 122) hx hb dX10_together_43 (by decide) (fun c11 => ?_) (fun c11 => ?_)
          · have h := if_t c11 h
            cases lp_e h hz
            exact KK H locs ls hP (lv_sub hl [0, 1, 2, 3, 4, 5, 6, 7] rfl)
          · have h := if_f c11 h
            refine lv_ldc2 (v := 100) hx hb hC.2.2.1 (hC.2.2.2.1 _ kw1125) dX10_together_46 ?_
            refine lv_lload hx hb dX10_together_49 (lv_at hl 5 rfl) ?_
            refine lv_lmul hx hb dX10_together_51 ?_
            refine lv_ldc2 (v := 100) hx hb hC.2.2.1 (hC.2.2.2.1 _ kw1125) dX10_together_52 ?_
            refine lv_lload hx hb dX10_together_55 (lv_at hl 3 rfl) ?_
            refine lv_lmul hx hb dX10_together_57 ?_
            refine lv_ladd hx hb dX10_together_58 ?_
            refine lv_lstore (lv' := [(9, .long ((100 * j8) + (100 * j6))), (1, .int x1), (2, .int x2), (3, .long j5), (5, .long j6), (7, .long j7), (11, .long j9), (13, .int j10)]) hx hb dX10_together_59 hl (by decide) rfl (fun ls hl => ?_)
            refine lv_ldc2 (v := 100) hx hb hC.2.2.1 (hC.2.2.2.1 _ kw1125) dX10_together_61 ?_
            refine lv_lload hx hb dX10_together_64 (lv_at hl 6 rfl) ?_
            refine lv_lmul hx hb dX10_together_66 ?_
            refine lv_ldc2 (v := 100) hx hb hC.2.2.1 (hC.2.2.2.1 _ kw1125) dX10_together_67 ?_
            refine lv_lload hx hb dX10_together_70 (lv_at hl 5 rfl) ?_
            refine lv_lmul hx hb dX10_together_72 ?_
            refine lv_ladd hx hb dX10_together_73 ?_
            refine lv_lstore (lv' := [(11, .long ((100 * j9) + (100 * j7))), (9, .long ((100 * j8) + (100 * j6))), (1, .int x1), (2, .int x2), (3, .long j5), (5, .long j6), (7, .long j7), (13, .int j10)]) hx hb dX10_together_74 hl (by decide) rfl (fun ls hl => ?_)
            refine lv_lload hx hb dX10_together_76 (lv_at hl 5 rfl) ?_
            refine lv_bipush (v := 100) hx hb dX10_together_78 (by decide) ?_
            refine lv_iload hx hb dX10_together_80 (lv_at hl 7 rfl) ?_
            refine lv_iconst (v := 2) hx hb dX10_together_82 (by decide) ?_
            refine lv_idiv hx hb dX10_together_83 (by decide) ?_
            refine lv_iconst (v := 1) hx hb dX10_together_84 (by decide) ?_
            refine lv_iadd hx hb dX10_together_85 ?_
            refine lv_iload_n hx hb dX10_together_86 rfl (lv_at hl 3 rfl) ?_
            refine lv_imul hx hb dX10_together_87 ?_
            refine lv_isub hx hb dX10_together_88 ?_
            refine lv_i2l hx hb dX10_together_89 rfl ?_
            refine lv_lmul hx hb dX10_together_90 ?_
            refine lv_topl (fun v12 ev => ?_)
            have h := nm_h ev h
            refine lv_lstore (lv' := [(5, .long v12), (11, .long ((100 * j9) + (100 * j7))), (9, .long ((100 * j8) + (100 * j6))), (1, .int x1), (2, .int x2), (3, .long j5), (7, .long j7), (13, .int j10)]) hx hb dX10_together_91 hl (by decide) rfl (fun ls hl => ?_)
            refine lv_lload hx hb dX10_together_93 (lv_at hl 6 rfl) ?_
            refine lv_bipush (v := 100) hx hb dX10_together_95 (by decide) ?_
            refine lv_iload hx hb dX10_together_97 (lv_at hl 7 rfl) ?_
            refine lv_iload_n hx hb dX10_together_99 rfl (lv_at hl 3 rfl) ?_
            obtain ⟨hne, h⟩ := rmI_h h
            refine lv_irem hx hb dX10_together_100 hne ?_
            refine lv_topi (fun v13 ev => ?_)
            have h := h v13 ev
            refine lv_iconst (v := 1) hx hb dX10_together_101 (by decide) ?_
            refine lv_iadd hx hb dX10_together_102 ?_
            refine lv_iload_n hx hb dX10_together_103 rfl (lv_at hl 4 rfl) ?_
            refine lv_imul hx hb dX10_together_104 ?_
            refine lv_isub hx hb dX10_together_105 ?_
            refine lv_i2l hx hb dX10_together_106 rfl ?_
            refine lv_lmul hx hb dX10_together_107 ?_
            refine lv_topl (fun v14 ev => ?_)
            have h := nm_h ev h
            refine lv_lstore (lv' := [(7, .long v14), (5, .long v12), (11, .long ((100 * j9) + (100 * j7))), (9, .long ((100 * j8) + (100 * j6))), (1, .int x1), (2, .int x2), (3, .long j5), (13, .int j10)]) hx hb dX10_together_108 hl (by decide) rfl (fun ls hl => ?_)
            refine lv_lload_n hx hb dX10_together_110 rfl (lv_at hl 6 rfl) ?_
            refine lv_ldc2 (v := 100) hx hb hC.2.2.1 (hC.2.2.2.1 _ kw1125) dX10_together_111 ?_
            refine lv_lmul hx hb dX10_together_114 ?_
            refine lv_lstore_n (lv' := [(3, .long (j5 * 100)), (7, .long v14), (5, .long v12), (11, .long ((100 * j9) + (100 * j7))), (9, .long ((100 * j8) + (100 * j6))), (1, .int x1), (2, .int x2), (13, .int j10)]) hx hb dX10_together_115 rfl hl (by decide) rfl (fun ls hl => ?_)
            refine lv_iinc (v := (j10 + 1)) (lv' := [(13, .int (j10 + 1)), (3, .long (j5 * 100)), (7, .long v14), (5, .long v12), (11, .long ((100 * j9) + (100 * j7))), (9, .long ((100 * j8) + (100 * j6))), (1, .int x1), (2, .int x2)]) hx hb dX10_together_116 hl (k := 7) rfl rfl (by decide) rfl (fun ls hl => ?_)
            refine lv_goto (tgt := 38) hx hb dX10_together_119 (by decide) ?_
            exact ih _ _ _ _ _ _ _ _ _ _ _ _ (lp_n h hz) H locs ls hP (lv_sub hl [6, 7, 1, 3, 2, 5, 4, 0] rfl) KK
      refine L1 FU _ _ _ _ _ _ j5x j6x j7x j8x j9x j10x hlp H locs ls hP (lv_sub hl [7, 8, 5, 4, 3, 2, 1, 0] rfl) (fun H locs ls hP hl => ?_)
      refine lv_ldc2 (v := 10000) hx hb hC.2.2.1 (hC.2.2.2.1 _ kw1126) dX10_together_122 ?_
      refine lv_lload hx hb dX10_together_125 (lv_at hl 5 rfl) ?_
      refine lv_lload hx hb dX10_together_127 (lv_at hl 6 rfl) ?_
      refine lv_lsub hx hb dX10_together_129 ?_
      refine lv_lmul hx hb dX10_together_130 ?_
      refine lv_lload_n hx hb dX10_together_131 rfl (lv_at hl 2 rfl) ?_
      obtain ⟨hne, h⟩ := dvL_h h
      refine lv_ldiv hx hb dX10_together_132 hne ?_
      refine lv_topl (fun v15 ev => ?_)
      have h := h v15 ev
      refine lv_l2i hx hb dX10_together_133 rfl ?_
      refine lv_ldc (v := 100000) hx hb hC.2.2.1 (hC.2.2.2.1 _ kw1127) dX10_together_134 ?_
      refine lv_iadd hx hb dX10_together_136 ?_
      rw [eZ]
      exact ret_i hC hr hlk hP dX10_together_137 () (⟨Option.some.inj h, rfl⟩) rfl
    · have h := if_t c4 h
      refine lv_iconst (v := -1) hx hb dX10_together_19 (by decide) ?_
      rw [eZ]
      exact ret_i hC hr hlk hP dX10_together_20 () (⟨Option.some.inj h, rfl⟩) rfl
set_option maxHeartbeats 8000000 in
set_option maxRecDepth 100000 in
theorem c_X10_firstGo (l : Launch) (dC : Nat → ClassId) (dI : Nat → Nat → Nat) (cc : Nat → ClassId) (q0 q1 q2 q3 q4 q5 q6 q7 q8 q9 q10 q11 q12 q13 q14 q15 q16 q17 : Nat) (feetMany : Int32) (log_ : Int32) (block : Int32) (stocking : Int32) (acts : Int32) (keeps : Int32) (hears : Int32) (texted : Int32) (at_ : Int32) (readFeetMany : Int32) (readLog : Int32) (readBlock : Int32) (readStocking : Int32) (lefts_ : Int32) (rights_ : Int32) (now_ : (Nat → Int32)) (sz : Nat) (ret : Int32) (o_now_ : (Nat → Int32)) (hu : f_X10_firstGo now_ = some (ret, o_now_)) : Met l yX10_firstGo (mw yX10_firstGo cX10_firstGo 3 (some .boolean)) ({ frames := 3, cells := 0, slots := 0, locals := 66 } : Room) (va_Pc [.ref q0] (mP (dC, dI) (ts cc) sz [(q0, .inr (10, [.int feetMany, .ref q1, .int log_, .int block, .ref q2, .int stocking, .ref q3, .int acts, .ref q4, .int keeps, .ref q5, .int hears, .ref q6, .ref q7, .int texted, .int at_, .ref q8, .ref q9, .int readFeetMany, .ref q10, .int readLog, .int readBlock, .ref q11, .int readStocking, .ref q12, .int lefts_, .int rights_, .ref q13, .ref q14, .ref q15, .ref q16, .ref q17])), (q12, .inl (cc 0, 52, .inl now_))])) ((fun A => va_Qi (fun (r : Int32) (w : (Nat → Int32)) => narrow .boolean (.int r) = .int r ∧ (r = ret ∧ w = o_now_)) (fun (w : (Nat → Int32)) t => va_P (dC, dI) classes [(q0, .inr (10, [.int feetMany, .ref q1, .int log_, .int block, .ref q2, .int stocking, .ref q3, .int acts, .ref q4, .int keeps, .ref q5, .int hears, .ref q6, .ref q7, .int texted, .int at_, .ref q8, .ref q9, .int readFeetMany, .ref q10, .int readLog, .int readBlock, .ref q11, .int readStocking, .ref q12, .int lefts_, .int rights_, .ref q13, .ref q14, .ref q15, .ref q16, .ref q17])), (q12, .inl (cc 0, 52, .inl w))] t.heap) A) (va_A [(q0, .inr (10, [.int feetMany, .ref q1, .int log_, .int block, .ref q2, .int stocking, .ref q3, .int acts, .ref q4, .int keeps, .ref q5, .int hears, .ref q6, .ref q7, .int texted, .int at_, .ref q8, .ref q9, .int readFeetMany, .ref q10, .int readLog, .int readBlock, .ref q11, .int readStocking, .ref q12, .int lefts_, .int rights_, .ref q13, .ref q14, .ref q15, .ref q16, .ref q17])), (q12, .inl (cc 0, 52, .inl now_))] sz)) 0 0 (va_A [(q0, .inr (10, [.int feetMany, .ref q1, .int log_, .int block, .ref q2, .int stocking, .ref q3, .int acts, .ref q4, .int keeps, .ref q5, .int hears, .ref q6, .ref q7, .int texted, .int at_, .ref q8, .ref q9, .int readFeetMany, .ref q10, .int readLog, .int readBlock, .ref q11, .int readStocking, .ref q12, .int lefts_, .int rights_, .ref q13, .ref q14, .ref q15, .ref q16, .ref q17])), (q12, .inl (cc 0, 52, .inl now_))] sz) := by
  refine met_go (Qc := fun A => va_Qi (fun (r : Int32) (w : (Nat → Int32)) => narrow .boolean (.int r) = .int r ∧ (r = ret ∧ w = o_now_)) (fun (w : (Nat → Int32)) t => va_P (dC, dI) classes [(q0, .inr (10, [.int feetMany, .ref q1, .int log_, .int block, .ref q2, .int stocking, .ref q3, .int acts, .ref q4, .int keeps, .ref q5, .int hears, .ref q6, .ref q7, .int texted, .int at_, .ref q8, .ref q9, .int readFeetMany, .ref q10, .int readLog, .int readBlock, .ref q11, .int readStocking, .ref q12, .int lefts_, .int rights_, .ref q13, .ref q14, .ref q15, .ref q16, .ref q17])), (q12, .inl (cc 0, 52, .inl w))] t.heap) A) (by decide) (Nat.le_of_ble_eq_true rfl) ?_
  intro p e s m below meth c A ls H locs hC hr hlk hin hA hP hl _
  have hC : CX p m c cX10_firstGo 3 s ([.ref q0] : List Value).toArray RX10 (dC, dI) (ts cc) := hC
  have hx := hC.1.1
  have hb := hC.1.2
  have h := hu
  have hu0 := hu
  unfold f_X10_firstGo at h
  have hl : lv_has ls 3 [(0, .ref q0)] := hl
  refine W_abs (fun Z eZ => ?_)
  refine lv_iconst (v := 0) hx hb dX10_firstGo_0 (by decide) ?_
  refine lv_istore_n (lv' := [(1, .int 0), (0, .ref q0)]) hx hb dX10_firstGo_1 rfl hl (by decide) rfl (fun ls hl => ?_)
  obtain ⟨z, hlp, hk, hj⟩ := bndE_h h
  have L1 : ∀ (n : Nat) (j1 : Int32) (z : ((Int32) ⊕ (Int32 × (Nat → Int32)))), lp ((b_X10_firstGo_1 now_)) n j1 = some z → ∀ (H : Heap) (locs : List Loc) (ls : Array Slot), PD (dC, dI) A s.heap [(q0, .inr (10, [.int feetMany, .ref q1, .int log_, .int block, .ref q2, .int stocking, .ref q3, .int acts, .ref q4, .int keeps, .ref q5, .int hears, .ref q6, .ref q7, .int texted, .int at_, .ref q8, .ref q9, .int readFeetMany, .ref q10, .int readLog, .int readBlock, .ref q11, .int readStocking, .ref q12, .int lefts_, .int rights_, .ref q13, .ref q14, .ref q15, .ref q16, .ref q17])), (q12, .inl (cc 0, 52, .inl now_))] H locs → lv_has ls 3 [(0, .ref q0), (1, .int j1)] → (∀ (j1x : Int32), z = .inl j1x → ∀ (H : Heap) (locs : List Loc) (ls : Array Slot), PD (dC, dI) A s.heap [(q0, .inr (10, [.int feetMany, .ref q1, .int log_, .int block, .ref q2, .int stocking, .ref q3, .int acts, .ref q4, .int keeps, .ref q5, .int hears, .ref q6, .ref q7, .int texted, .int at_, .ref q8, .ref q9, .int readFeetMany, .ref q10, .int readLog, .int readBlock, .ref q11, .int readStocking, .ref q12, .int lefts_, .int rights_, .ref q13, .ref q14, .ref q15, .ref q16, .ref q17])), (q12, .inl (cc 0, 52, .inl now_))] H locs → lv_has ls 3 [(0, .ref q0), (1, .int j1x)] → W p l e ({ frames := 3, cells := 0, slots := 0, locals := 66 } : Room) s m ([.ref q0] : List Value).toArray below meth c H locs 0 0 Z (F0 m 89 ls [])) → (∀ q, z = .inr q → q = (ret, o_now_)) → W p l e ({ frames := 3, cells := 0, slots := 0, locals := 66 } : Room) s m ([.ref q0] : List Value).toArray below meth c H locs 0 0 Z (F0 m 2 ls []) := by
    intro n
    induction n with
    | zero => intro j1 z h; exact (lp_0 h).elim
    | succ n ih =>
      intro j1 z h H locs ls hP hl KK KR
      obtain ⟨y, h, hz⟩ := lp_h h
      refine lv_iload_n hx hb dX10_firstGo_2 rfl (lv_at hl 1 rfl) ?_
      refine lv_aload_n hx hb dX10_firstGo_3 rfl (lv_at hl 0 rfl) ?_
      refine g_get hC hP fg_X10_44 0 rfl rfl dX10_firstGo_4 ?_
      refine lv_iconst (v := 1) hx hb dX10_firstGo_7 (by decide) ?_
      obtain ⟨hin, h⟩ := rd_h h
      refine g_iald hC hP 1 0 rfl rfl hin dX10_firstGo_8 (fun v2 ev => ?_)
      have h := h v2 ev
      refine lv_icmp_ge (tgt := 89) hx hb dX10_firstGo_9 (by decide) (fun c3 => ?_) (fun c3 => ?_)
      · have h := if_t c3 h
        exact KK j1 (lp_e h hz).symm H locs ls hP (lv_sub hl [0, 1] rfl)
      · have h := if_f c3 h
        refine lv_iconst (v := 0) hx hb dX10_firstGo_12 (by decide) ?_
        refine lv_istore_n (lv' := [(2, .int 0), (0, .ref q0), (1, .int j1)]) hx hb dX10_firstGo_13 rfl hl (by decide) rfl (fun ls hl => ?_)
        obtain ⟨z, hlp, hk, hj⟩ := bndE_h h
        have L2 : ∀ (n : Nat) (j4 : Int32) (z : ((Int32) ⊕ (Int32 × (Nat → Int32)))), lp ((b_X10_firstGo_2 j1 now_)) n j4 = some z → ∀ (H : Heap) (locs : List Loc) (ls : Array Slot), PD (dC, dI) A s.heap [(q0, .inr (10, [.int feetMany, .ref q1, .int log_, .int block, .ref q2, .int stocking, .ref q3, .int acts, .ref q4, .int keeps, .ref q5, .int hears, .ref q6, .ref q7, .int texted, .int at_, .ref q8, .ref q9, .int readFeetMany, .ref q10, .int readLog, .int readBlock, .ref q11, .int readStocking, .ref q12, .int lefts_, .int rights_, .ref q13, .ref q14, .ref q15, .ref q16, .ref q17])), (q12, .inl (cc 0, 52, .inl now_))] H locs → lv_has ls 3 [(0, .ref q0), (1, .int j1), (2, .int j4)] → (∀ (j4x : Int32), z = .inl j4x → ∀ (H : Heap) (locs : List Loc) (ls : Array Slot), PD (dC, dI) A s.heap [(q0, .inr (10, [.int feetMany, .ref q1, .int log_, .int block, .ref q2, .int stocking, .ref q3, .int acts, .ref q4, .int keeps, .ref q5, .int hears, .ref q6, .ref q7, .int texted, .int at_, .ref q8, .ref q9, .int readFeetMany, .ref q10, .int readLog, .int readBlock, .ref q11, .int readStocking, .ref q12, .int lefts_, .int rights_, .ref q13, .ref q14, .ref q15, .ref q16, .ref q17])), (q12, .inl (cc 0, 52, .inl now_))] H locs → lv_has ls 3 [(0, .ref q0), (1, .int j1), (2, .int j4x)] → W p l e ({ frames := 3, cells := 0, slots := 0, locals := 66 } : Room) s m ([.ref q0] : List Value).toArray below meth c H locs 0 0 Z (F0 m 83 ls [])) → (∀ q, z = .inr q → q = (ret, o_now_)) → W p l e ({ frames := 3, cells := 0, slots := 0, locals := 66 } : Room) s m ([.ref q0] : List Value).toArray below meth c H locs 0 0 Z (F0 m 14 ls []) := by
          intro n
          induction n with
          | zero => intro j4 z h; exact (lp_0 h).elim
          | succ n ih =>
            intro j4 z h H locs ls hP hl KK KR
            obtain ⟨y, h, hz⟩ := lp_h h
            refine lv_iload_n hx hb dX10_firstGo_14 rfl (lv_at hl 2 rfl) ?_
            refine lv_aload_n hx hb dX10_firstGo_15 rfl (lv_at hl 0 rfl) ?_
            refine g_get hC hP fg_X10_44 0 rfl rfl dX10_firstGo_16 ?_
            refine lv_iconst (v := 1) hx hb dX10_firstGo_19 (by decide) ?_
            obtain ⟨hin, h⟩ := rd_h h
            refine g_iald hC hP 1 0 rfl rfl hin dX10_firstGo_20 (fun v5 ev => ?_)
            have h := h v5 ev
            refine lv_icmp_ge (tgt := 83) hx hb dX10_firstGo_21 (by decide) (fun c6 => ?_) (fun c6 => ?_)
            · have h := if_t c6 h
              exact KK j4 (lp_e h hz).symm H locs ls hP (lv_sub hl [0, 1, 2] rfl)
            · have h := if_f c6 h
              refine lv_aload_n hx hb dX10_firstGo_24 rfl (lv_at hl 0 rfl) ?_
              refine lv_iload_n hx hb dX10_firstGo_25 rfl (lv_at hl 1 rfl) ?_
              obtain ⟨r7, hu, h⟩ := bnd_h h
              refine kc_i (kV hC (c_X10_sideOf l dC dI cc q0 q1 q2 q3 q4 q5 q6 q7 q8 q9 q10 q11 q12 q13 q14 q15 q16 q17 feetMany log_ block stocking acts keeps hears texted at_ readFeetMany readLog readBlock readStocking lefts_ rights_ now_ j1 H.size r7 hu) cv_X10_175 kw987 rfl rfl ⟨(Nat.le_of_ble_eq_true rfl), (Nat.le_of_ble_eq_true rfl)⟩ hP [0, 1] rfl rfl rfl (q0 := 0) rfl (As := [.int j1]) (rest := []) rfl rfl hl.1 (Nat.le_of_ble_eq_true rfl) dX10_firstGo_26 ⟨Nat.zero_le _, Nat.zero_le _⟩) hP hA [0, 1] rfl rfl (fun H locs hP => ?_)
              have hP : PD (dC, dI) A s.heap [(q0, .inr (10, [.int feetMany, .ref q1, .int log_, .int block, .ref q2, .int stocking, .ref q3, .int acts, .ref q4, .int keeps, .ref q5, .int hears, .ref q6, .ref q7, .int texted, .int at_, .ref q8, .ref q9, .int readFeetMany, .ref q10, .int readLog, .int readBlock, .ref q11, .int readStocking, .ref q12, .int lefts_, .int rights_, .ref q13, .ref q14, .ref q15, .ref q16, .ref q17])), (q12, .inl (cc 0, 52, .inl now_))] H locs := hP
              refine lv_if_ne (tgt := 83) hx hb dX10_firstGo_29 (by decide) (fun c8 => ?_) (fun c8 => ?_)
              · have h := if_f c8 h
                exact KK j4 (lp_e h hz).symm H locs ls hP (lv_sub hl [0, 1, 2] rfl)
              · have h := if_t c8 h
                refine lv_aload_n hx hb dX10_firstGo_32 rfl (lv_at hl 0 rfl) ?_
                refine lv_iload_n hx hb dX10_firstGo_33 rfl (lv_at hl 1 rfl) ?_
                refine lv_iload_n hx hb dX10_firstGo_34 rfl (lv_at hl 2 rfl) ?_
                obtain ⟨r9, hu, h⟩ := bnd_h h
                refine kc_z (kV hC (c_X10_areAlike l dC dI cc q0 q1 q2 q3 q4 q5 q6 q7 q8 q9 q10 q11 q12 q13 q14 q15 q16 q17 feetMany log_ block stocking acts keeps hears texted at_ readFeetMany readLog readBlock readStocking lefts_ rights_ now_ j1 j4 H.size r9 hu) cv_X10_197 kw1023 rfl rfl ⟨(Nat.le_of_ble_eq_true rfl), (Nat.le_of_ble_eq_true rfl)⟩ hP [0, 1] rfl rfl rfl (q0 := 0) rfl (As := [.int j1, .int j4]) (rest := []) rfl rfl hl.1 (Nat.le_of_ble_eq_true rfl) dX10_firstGo_35 ⟨Nat.zero_le _, Nat.zero_le _⟩) hP hA [0, 1] rfl rfl (fun hz_r9 H locs hP => ?_)
                have hP : PD (dC, dI) A s.heap [(q0, .inr (10, [.int feetMany, .ref q1, .int log_, .int block, .ref q2, .int stocking, .ref q3, .int acts, .ref q4, .int keeps, .ref q5, .int hears, .ref q6, .ref q7, .int texted, .int at_, .ref q8, .ref q9, .int readFeetMany, .ref q10, .int readLog, .int readBlock, .ref q11, .int readStocking, .ref q12, .int lefts_, .int rights_, .ref q13, .ref q14, .ref q15, .ref q16, .ref q17])), (q12, .inl (cc 0, 52, .inl now_))] H locs := hP
                refine lv_if_eq (tgt := 77) hx hb dX10_firstGo_38 (by decide) (fun c10 => ?_) (fun c10 => ?_)
                · have h := if_t c10 h
                  refine lv_iinc (v := (j4 + 1)) (lv' := [(2, .int (j4 + 1)), (0, .ref q0), (1, .int j1)]) hx hb dX10_firstGo_77 hl (k := 2) rfl rfl (by decide) rfl (fun ls hl => ?_)
                  refine lv_goto (tgt := 14) hx hb dX10_firstGo_80 (by decide) ?_
                  exact ih _ _ (lp_n h hz) H locs ls hP (lv_sub hl [1, 2, 0] rfl) KK KR
                · have h := if_f c10 h
                  refine lv_aload_n hx hb dX10_firstGo_41 rfl (lv_at hl 0 rfl) ?_
                  refine g_get hC hP fg_X10_44 0 rfl rfl dX10_firstGo_42 ?_
                  refine lv_iload_n hx hb dX10_firstGo_45 rfl (lv_at hl 1 rfl) ?_
                  refine lv_iload_n hx hb dX10_firstGo_46 rfl (lv_at hl 2 rfl) ?_
                  refine lv_icmp_le (tgt := 54) hx hb dX10_firstGo_47 (by decide) (fun c11 => ?_) (fun c11 => ?_)
                  · have h := if_t c11 h
                    refine lv_iload_n hx hb dX10_firstGo_54 rfl (lv_at hl 2 rfl) ?_
                    obtain ⟨w12, hu, h⟩ := bnd_h h
                    refine kc_v (kS hC (c_X10_leaves l dC dI cc q12 52 now_ j4 H.size w12 hu) cs_X10_201 kw1029 rfl rfl ⟨(Nat.le_of_ble_eq_true rfl), (Nat.le_of_ble_eq_true rfl)⟩ hP [1] rfl rfl (As := [.ref q12, .int j4]) (rest := []) rfl rfl hl.1 (Nat.le_of_ble_eq_true rfl) dX10_firstGo_55 ⟨Nat.zero_le _, Nat.zero_le _⟩) hP hA [1] rfl rfl (fun H locs hP => ?_)
                    have hP : PD (dC, dI) A s.heap [(q0, .inr (10, [.int feetMany, .ref q1, .int log_, .int block, .ref q2, .int stocking, .ref q3, .int acts, .ref q4, .int keeps, .ref q5, .int hears, .ref q6, .ref q7, .int texted, .int at_, .ref q8, .ref q9, .int readFeetMany, .ref q10, .int readLog, .int readBlock, .ref q11, .int readStocking, .ref q12, .int lefts_, .int rights_, .ref q13, .ref q14, .ref q15, .ref q16, .ref q17])), (q12, .inl (cc 0, 52, .inl w12))] H locs := hP
                    refine lv_aload_n hx hb dX10_firstGo_58 rfl (lv_at hl 0 rfl) ?_
                    refine g_get hC hP fg_X10_44 0 rfl rfl dX10_firstGo_59 ?_
                    refine lv_iload_n hx hb dX10_firstGo_62 rfl (lv_at hl 1 rfl) ?_
                    refine lv_iload_n hx hb dX10_firstGo_63 rfl (lv_at hl 2 rfl) ?_
                    refine lv_icmp_le (tgt := 71) hx hb dX10_firstGo_64 (by decide) (fun c13 => ?_) (fun c13 => ?_)
                    · have h := if_t c13 h
                      refine lv_iload_n hx hb dX10_firstGo_71 rfl (lv_at hl 1 rfl) ?_
                      obtain ⟨w14, hu, h⟩ := bnd_h h
                      refine kc_v (kS hC (c_X10_leaves l dC dI cc q12 52 w12 j1 H.size w14 hu) cs_X10_201 kw1029 rfl rfl ⟨(Nat.le_of_ble_eq_true rfl), (Nat.le_of_ble_eq_true rfl)⟩ hP [1] rfl rfl (As := [.ref q12, .int j1]) (rest := []) rfl rfl hl.1 (Nat.le_of_ble_eq_true rfl) dX10_firstGo_72 ⟨Nat.zero_le _, Nat.zero_le _⟩) hP hA [1] rfl rfl (fun H locs hP => ?_)
                      have hP : PD (dC, dI) A s.heap [(q0, .inr (10, [.int feetMany, .ref q1, .int log_, .int block, .ref q2, .int stocking, .ref q3, .int acts, .ref q4, .int keeps, .ref q5, .int hears, .ref q6, .ref q7, .int texted, .int at_, .ref q8, .ref q9, .int readFeetMany, .ref q10, .int readLog, .int readBlock, .ref q11, .int readStocking, .ref q12, .int lefts_, .int rights_, .ref q13, .ref q14, .ref q15, .ref q16, .ref q17])), (q12, .inl (cc 0, 52, .inl w14))] H locs := hP
                      refine lv_iconst (v := 1) hx hb dX10_firstGo_75 (by decide) ?_
                      rw [eZ]
                      exact ret_z hC hr rfl hlk hP dX10_firstGo_76 w14 (Prod.mk.inj (KR _ (lp_e h hz).symm)) rfl
                    · have h := if_f c13 h
                      refine lv_iload_n hx hb dX10_firstGo_67 rfl (lv_at hl 2 rfl) ?_
                      refine lv_goto (tgt := 72) hx hb dX10_firstGo_68 (by decide) ?_
                      obtain ⟨w15, hu, h⟩ := bnd_h h
                      refine kc_v (kS hC (c_X10_leaves l dC dI cc q12 52 w12 j4 H.size w15 hu) cs_X10_201 kw1029 rfl rfl ⟨(Nat.le_of_ble_eq_true rfl), (Nat.le_of_ble_eq_true rfl)⟩ hP [1] rfl rfl (As := [.ref q12, .int j4]) (rest := []) rfl rfl hl.1 (Nat.le_of_ble_eq_true rfl) dX10_firstGo_72 ⟨Nat.zero_le _, Nat.zero_le _⟩) hP hA [1] rfl rfl (fun H locs hP => ?_)
                      have hP : PD (dC, dI) A s.heap [(q0, .inr (10, [.int feetMany, .ref q1, .int log_, .int block, .ref q2, .int stocking, .ref q3, .int acts, .ref q4, .int keeps, .ref q5, .int hears, .ref q6, .ref q7, .int texted, .int at_, .ref q8, .ref q9, .int readFeetMany, .ref q10, .int readLog, .int readBlock, .ref q11, .int readStocking, .ref q12, .int lefts_, .int rights_, .ref q13, .ref q14, .ref q15, .ref q16, .ref q17])), (q12, .inl (cc 0, 52, .inl w15))] H locs := hP
                      refine lv_iconst (v := 1) hx hb dX10_firstGo_75 (by decide) ?_
                      rw [eZ]
                      exact ret_z hC hr rfl hlk hP dX10_firstGo_76 w15 (Prod.mk.inj (KR _ (lp_e h hz).symm)) rfl
                  · have h := if_f c11 h
                    refine lv_iload_n hx hb dX10_firstGo_50 rfl (lv_at hl 1 rfl) ?_
                    refine lv_goto (tgt := 55) hx hb dX10_firstGo_51 (by decide) ?_
                    obtain ⟨w16, hu, h⟩ := bnd_h h
                    refine kc_v (kS hC (c_X10_leaves l dC dI cc q12 52 now_ j1 H.size w16 hu) cs_X10_201 kw1029 rfl rfl ⟨(Nat.le_of_ble_eq_true rfl), (Nat.le_of_ble_eq_true rfl)⟩ hP [1] rfl rfl (As := [.ref q12, .int j1]) (rest := []) rfl rfl hl.1 (Nat.le_of_ble_eq_true rfl) dX10_firstGo_55 ⟨Nat.zero_le _, Nat.zero_le _⟩) hP hA [1] rfl rfl (fun H locs hP => ?_)
                    have hP : PD (dC, dI) A s.heap [(q0, .inr (10, [.int feetMany, .ref q1, .int log_, .int block, .ref q2, .int stocking, .ref q3, .int acts, .ref q4, .int keeps, .ref q5, .int hears, .ref q6, .ref q7, .int texted, .int at_, .ref q8, .ref q9, .int readFeetMany, .ref q10, .int readLog, .int readBlock, .ref q11, .int readStocking, .ref q12, .int lefts_, .int rights_, .ref q13, .ref q14, .ref q15, .ref q16, .ref q17])), (q12, .inl (cc 0, 52, .inl w16))] H locs := hP
                    refine lv_aload_n hx hb dX10_firstGo_58 rfl (lv_at hl 0 rfl) ?_
                    refine g_get hC hP fg_X10_44 0 rfl rfl dX10_firstGo_59 ?_
                    refine lv_iload_n hx hb dX10_firstGo_62 rfl (lv_at hl 1 rfl) ?_
                    refine lv_iload_n hx hb dX10_firstGo_63 rfl (lv_at hl 2 rfl) ?_
                    refine lv_icmp_le (tgt := 71) hx hb dX10_firstGo_64 (by decide) (fun c17 => ?_) (fun c17 => ?_)
                    · have h := if_t c17 h
                      refine lv_iload_n hx hb dX10_firstGo_71 rfl (lv_at hl 1 rfl) ?_
                      obtain ⟨w18, hu, h⟩ := bnd_h h
                      refine kc_v (kS hC (c_X10_leaves l dC dI cc q12 52 w16 j1 H.size w18 hu) cs_X10_201 kw1029 rfl rfl ⟨(Nat.le_of_ble_eq_true rfl), (Nat.le_of_ble_eq_true rfl)⟩ hP [1] rfl rfl (As := [.ref q12, .int j1]) (rest := []) rfl rfl hl.1 (Nat.le_of_ble_eq_true rfl) dX10_firstGo_72 ⟨Nat.zero_le _, Nat.zero_le _⟩) hP hA [1] rfl rfl (fun H locs hP => ?_)
                      have hP : PD (dC, dI) A s.heap [(q0, .inr (10, [.int feetMany, .ref q1, .int log_, .int block, .ref q2, .int stocking, .ref q3, .int acts, .ref q4, .int keeps, .ref q5, .int hears, .ref q6, .ref q7, .int texted, .int at_, .ref q8, .ref q9, .int readFeetMany, .ref q10, .int readLog, .int readBlock, .ref q11, .int readStocking, .ref q12, .int lefts_, .int rights_, .ref q13, .ref q14, .ref q15, .ref q16, .ref q17])), (q12, .inl (cc 0, 52, .inl w18))] H locs := hP
                      refine lv_iconst (v := 1) hx hb dX10_firstGo_75 (by decide) ?_
                      rw [eZ]
                      exact ret_z hC hr rfl hlk hP dX10_firstGo_76 w18 (Prod.mk.inj (KR _ (lp_e h hz).symm)) rfl
                    · have h := if_f c17 h
                      refine lv_iload_n hx hb dX10_firstGo_67 rfl (lv_at hl 2 rfl) ?_
                      refine lv_goto (tgt := 72) hx hb dX10_firstGo_68 (by decide) ?_
                      obtain ⟨w19, hu, h⟩ := bnd_h h
                      refine kc_v (kS hC (c_X10_leaves l dC dI cc q12 52 w16 j4 H.size w19 hu) cs_X10_201 kw1029 rfl rfl ⟨(Nat.le_of_ble_eq_true rfl), (Nat.le_of_ble_eq_true rfl)⟩ hP [1] rfl rfl (As := [.ref q12, .int j4]) (rest := []) rfl rfl hl.1 (Nat.le_of_ble_eq_true rfl) dX10_firstGo_72 ⟨Nat.zero_le _, Nat.zero_le _⟩) hP hA [1] rfl rfl (fun H locs hP => ?_)
                      have hP : PD (dC, dI) A s.heap [(q0, .inr (10, [.int feetMany, .ref q1, .int log_, .int block, .ref q2, .int stocking, .ref q3, .int acts, .ref q4, .int keeps, .ref q5, .int hears, .ref q6, .ref q7, .int texted, .int at_, .ref q8, .ref q9, .int readFeetMany, .ref q10, .int readLog, .int readBlock, .ref q11, .int readStocking, .ref q12, .int lefts_, .int rights_, .ref q13, .ref q14, .ref q15, .ref q16, .ref q17])), (q12, .inl (cc 0, 52, .inl w19))] H locs := hP
                      refine lv_iconst (v := 1) hx hb dX10_firstGo_75 (by decide) ?_
                      rw [eZ]
                      exact ret_z hC hr rfl hlk hP dX10_firstGo_76 w19 (Prod.mk.inj (KR _ (lp_e h hz).symm)) rfl
        refine L2 FU _ z hlp H locs ls hP (lv_sub hl [1, 2, 0] rfl) (fun j4x e H locs ls hP hl => ?_) (fun q e => KR _ (lp_e (hj q e) hz).symm)
        have h := hk _ e
        refine lv_iinc (v := (j1 + 1)) (lv' := [(1, .int (j1 + 1)), (0, .ref q0), (2, .int j4x)]) hx hb dX10_firstGo_83 hl (k := 1) rfl rfl (by decide) rfl (fun ls hl => ?_)
        refine lv_goto (tgt := 2) hx hb dX10_firstGo_86 (by decide) ?_
        exact ih _ _ (lp_n h hz) H locs ls hP (lv_sub hl [1, 0] rfl) KK KR
  refine L1 FU _ z hlp H locs ls hP (lv_sub hl [1, 0] rfl) (fun j1x e H locs ls hP hl => ?_) (fun q e => Option.some.inj (hj q e))
  have h := hk _ e
  refine lv_iconst (v := 0) hx hb dX10_firstGo_89 (by decide) ?_
  rw [eZ]
  exact ret_z hC hr rfl hlk hP dX10_firstGo_90 now_ (Prod.mk.inj (Option.some.inj h)) rfl
set_option maxHeartbeats 8000000 in
set_option maxRecDepth 100000 in
theorem c_X10_year (l : Launch) (dC : Nat → ClassId) (dI : Nat → Nat → Nat) (cc : Nat → ClassId) (q0 q1 q2 q3 q4 q5 q6 q7 q8 q9 q10 q11 q12 q13 q14 q15 q16 q17 : Nat) (feetMany : Int32) (log_ : Int32) (block : Int32) (stocking : Int32) (acts : Int32) (keeps : Int32) (hears : Int32) (texted : Int32) (at_ : Int32) (readFeetMany : Int32) (readLog : Int32) (readBlock : Int32) (readStocking : Int32) (lefts_ : Int32) (rights_ : Int32) (st : (Nat → Int32)) (now_ : (Nat → Int32)) (x1 : Int32) (x2 : Int32) (x3 : Int32) (sz : Nat) (ret : Int32) (o_now_ : (Nat → Int32)) (hu : f_X10_year x1 x2 x3 st now_ = some (ret, o_now_)) : Met l yX10_year (mw yX10_year cX10_year 9 (some .int)) ({ frames := 4, cells := 0, slots := 0, locals := 88 } : Room) (va_Pc [.ref q0, .int x1, .int x2, .int x3] (mP (dC, dI) (ts cc) sz [(q0, .inr (10, [.int feetMany, .ref q1, .int log_, .int block, .ref q2, .int stocking, .ref q3, .int acts, .ref q4, .int keeps, .ref q5, .int hears, .ref q6, .ref q7, .int texted, .int at_, .ref q8, .ref q9, .int readFeetMany, .ref q10, .int readLog, .int readBlock, .ref q11, .int readStocking, .ref q12, .int lefts_, .int rights_, .ref q13, .ref q14, .ref q15, .ref q16, .ref q17])), (q3, .inl (cc 0, 52, .inl st)), (q12, .inl (cc 0, 52, .inl now_))])) ((fun A => va_Qi (fun (r : Int32) (w : (Nat → Int32)) => r = ret ∧ w = o_now_) (fun (w : (Nat → Int32)) t => va_P (dC, dI) classes [(q0, .inr (10, [.int feetMany, .ref q1, .int log_, .int block, .ref q2, .int stocking, .ref q3, .int acts, .ref q4, .int keeps, .ref q5, .int hears, .ref q6, .ref q7, .int texted, .int at_, .ref q8, .ref q9, .int readFeetMany, .ref q10, .int readLog, .int readBlock, .ref q11, .int readStocking, .ref q12, .int lefts_, .int rights_, .ref q13, .ref q14, .ref q15, .ref q16, .ref q17])), (q3, .inl (cc 0, 52, .inl st)), (q12, .inl (cc 0, 52, .inl w))] t.heap) A) (va_A [(q0, .inr (10, [.int feetMany, .ref q1, .int log_, .int block, .ref q2, .int stocking, .ref q3, .int acts, .ref q4, .int keeps, .ref q5, .int hears, .ref q6, .ref q7, .int texted, .int at_, .ref q8, .ref q9, .int readFeetMany, .ref q10, .int readLog, .int readBlock, .ref q11, .int readStocking, .ref q12, .int lefts_, .int rights_, .ref q13, .ref q14, .ref q15, .ref q16, .ref q17])), (q3, .inl (cc 0, 52, .inl st)), (q12, .inl (cc 0, 52, .inl now_))] sz)) 0 0 (va_A [(q0, .inr (10, [.int feetMany, .ref q1, .int log_, .int block, .ref q2, .int stocking, .ref q3, .int acts, .ref q4, .int keeps, .ref q5, .int hears, .ref q6, .ref q7, .int texted, .int at_, .ref q8, .ref q9, .int readFeetMany, .ref q10, .int readLog, .int readBlock, .ref q11, .int readStocking, .ref q12, .int lefts_, .int rights_, .ref q13, .ref q14, .ref q15, .ref q16, .ref q17])), (q3, .inl (cc 0, 52, .inl st)), (q12, .inl (cc 0, 52, .inl now_))] sz) := by
  refine met_go (Qc := fun A => va_Qi (fun (r : Int32) (w : (Nat → Int32)) => r = ret ∧ w = o_now_) (fun (w : (Nat → Int32)) t => va_P (dC, dI) classes [(q0, .inr (10, [.int feetMany, .ref q1, .int log_, .int block, .ref q2, .int stocking, .ref q3, .int acts, .ref q4, .int keeps, .ref q5, .int hears, .ref q6, .ref q7, .int texted, .int at_, .ref q8, .ref q9, .int readFeetMany, .ref q10, .int readLog, .int readBlock, .ref q11, .int readStocking, .ref q12, .int lefts_, .int rights_, .ref q13, .ref q14, .ref q15, .ref q16, .ref q17])), (q3, .inl (cc 0, 52, .inl st)), (q12, .inl (cc 0, 52, .inl w))] t.heap) A) (by decide) (Nat.le_of_ble_eq_true rfl) ?_
  intro p e s m below meth c A ls H locs hC hr hlk hin hA hP hl _
  have hC : CX p m c cX10_year 9 s ([.ref q0, .int x1, .int x2, .int x3] : List Value).toArray RX10 (dC, dI) (ts cc) := hC
  have hx := hC.1.1
  have hb := hC.1.2
  have h := hu
  have hu0 := hu
  unfold f_X10_year at h
  have hl : lv_has ls 9 [(0, .ref q0), (1, .int x1), (2, .int x2), (3, .int x3)] := hl
  refine W_abs (fun Z eZ => ?_)
  refine lv_iload_n hx hb dX10_year_0 rfl (lv_at hl 1 rfl) ?_
  refine lv_iconst (v := 0) hx hb dX10_year_1 (by decide) ?_
  refine lv_sipush (v := 9999) hx hb dX10_year_2 (by decide) ?_
  obtain ⟨r1, hu, h⟩ := bnd_h h
  refine kc_z (kS hC (c_X10_in l dC dI cc x1 0 9999 H.size r1 hu) cs_X10_90 kw912 rfl rfl ⟨(Nat.le_of_ble_eq_true rfl), (Nat.le_of_ble_eq_true rfl)⟩ hP [] rfl rfl (As := [.int x1, .int 0, .int 9999]) (rest := []) rfl rfl hl.1 (Nat.le_of_ble_eq_true rfl) dX10_year_5 ⟨Nat.zero_le _, Nat.zero_le _⟩) hP hA [] rfl rfl (fun hz_r1 H locs hP => ?_)
  have hP : PD (dC, dI) A s.heap [(q0, .inr (10, [.int feetMany, .ref q1, .int log_, .int block, .ref q2, .int stocking, .ref q3, .int acts, .ref q4, .int keeps, .ref q5, .int hears, .ref q6, .ref q7, .int texted, .int at_, .ref q8, .ref q9, .int readFeetMany, .ref q10, .int readLog, .int readBlock, .ref q11, .int readStocking, .ref q12, .int lefts_, .int rights_, .ref q13, .ref q14, .ref q15, .ref q16, .ref q17])), (q3, .inl (cc 0, 52, .inl st)), (q12, .inl (cc 0, 52, .inl now_))] H locs := hP
  refine lv_if_eq (tgt := 30) hx hb dX10_year_8 (by decide) (fun c2 => ?_) (fun c2 => ?_)
  · have h := if_t c2 h
    refine lv_iconst (v := -1) hx hb dX10_year_30 (by decide) ?_
    rw [eZ]
    exact ret_i hC hr hlk hP dX10_year_31 now_ (Prod.mk.inj (Option.some.inj h)) rfl
  · have h := if_f c2 h
    refine lv_iload_n hx hb dX10_year_11 rfl (lv_at hl 2 rfl) ?_
    refine lv_iconst (v := 1) hx hb dX10_year_12 (by decide) ?_
    refine lv_bipush (v := 60) hx hb dX10_year_13 (by decide) ?_
    obtain ⟨r3, hu, h⟩ := bnd_h h
    refine kc_z (kS hC (c_X10_in l dC dI cc x2 1 60 H.size r3 hu) cs_X10_90 kw912 rfl rfl ⟨(Nat.le_of_ble_eq_true rfl), (Nat.le_of_ble_eq_true rfl)⟩ hP [] rfl rfl (As := [.int x2, .int 1, .int 60]) (rest := []) rfl rfl hl.1 (Nat.le_of_ble_eq_true rfl) dX10_year_15 ⟨Nat.zero_le _, Nat.zero_le _⟩) hP hA [] rfl rfl (fun hz_r3 H locs hP => ?_)
    have hP : PD (dC, dI) A s.heap [(q0, .inr (10, [.int feetMany, .ref q1, .int log_, .int block, .ref q2, .int stocking, .ref q3, .int acts, .ref q4, .int keeps, .ref q5, .int hears, .ref q6, .ref q7, .int texted, .int at_, .ref q8, .ref q9, .int readFeetMany, .ref q10, .int readLog, .int readBlock, .ref q11, .int readStocking, .ref q12, .int lefts_, .int rights_, .ref q13, .ref q14, .ref q15, .ref q16, .ref q17])), (q3, .inl (cc 0, 52, .inl st)), (q12, .inl (cc 0, 52, .inl now_))] H locs := hP
    refine lv_if_eq (tgt := 30) hx hb dX10_year_18 (by decide) (fun c4 => ?_) (fun c4 => ?_)
    · have h := if_t c4 h
      refine lv_iconst (v := -1) hx hb dX10_year_30 (by decide) ?_
      rw [eZ]
      exact ret_i hC hr hlk hP dX10_year_31 now_ (Prod.mk.inj (Option.some.inj h)) rfl
    · have h := if_f c4 h
      refine lv_iload_n hx hb dX10_year_21 rfl (lv_at hl 3 rfl) ?_
      refine lv_iconst (v := 0) hx hb dX10_year_22 (by decide) ?_
      refine lv_iconst (v := 1) hx hb dX10_year_23 (by decide) ?_
      obtain ⟨r5, hu, h⟩ := bnd_h h
      refine kc_z (kS hC (c_X10_in l dC dI cc x3 0 1 H.size r5 hu) cs_X10_90 kw912 rfl rfl ⟨(Nat.le_of_ble_eq_true rfl), (Nat.le_of_ble_eq_true rfl)⟩ hP [] rfl rfl (As := [.int x3, .int 0, .int 1]) (rest := []) rfl rfl hl.1 (Nat.le_of_ble_eq_true rfl) dX10_year_24 ⟨Nat.zero_le _, Nat.zero_le _⟩) hP hA [] rfl rfl (fun hz_r5 H locs hP => ?_)
      have hP : PD (dC, dI) A s.heap [(q0, .inr (10, [.int feetMany, .ref q1, .int log_, .int block, .ref q2, .int stocking, .ref q3, .int acts, .ref q4, .int keeps, .ref q5, .int hears, .ref q6, .ref q7, .int texted, .int at_, .ref q8, .ref q9, .int readFeetMany, .ref q10, .int readLog, .int readBlock, .ref q11, .int readStocking, .ref q12, .int lefts_, .int rights_, .ref q13, .ref q14, .ref q15, .ref q16, .ref q17])), (q3, .inl (cc 0, 52, .inl st)), (q12, .inl (cc 0, 52, .inl now_))] H locs := hP
      refine lv_if_ne (tgt := 32) hx hb dX10_year_27 (by decide) (fun c6 => ?_) (fun c6 => ?_)
      · have h := if_f c6 h
        refine lv_aload_n hx hb dX10_year_32 rfl (lv_at hl 0 rfl) ?_
        obtain ⟨w7, hu, h⟩ := bnd_h h
        refine kc_v (kV hC (c_X10_asItIs l dC dI cc q0 q1 q2 q3 q4 q5 q6 q7 q8 q9 q10 q11 q12 q13 q14 q15 q16 q17 feetMany log_ block stocking acts keeps hears texted at_ readFeetMany readLog readBlock readStocking lefts_ rights_ st now_ H.size w7 hu) cv_X10_191 kw979 rfl rfl ⟨(Nat.le_of_ble_eq_true rfl), (Nat.le_of_ble_eq_true rfl)⟩ hP [0, 1, 2] rfl rfl rfl (q0 := 0) rfl (As := []) (rest := []) rfl rfl hl.1 (Nat.le_of_ble_eq_true rfl) dX10_year_33 ⟨Nat.zero_le _, Nat.zero_le _⟩) hP hA [0, 1, 2] rfl rfl (fun H locs hP => ?_)
        have hP : PD (dC, dI) A s.heap [(q0, .inr (10, [.int feetMany, .ref q1, .int log_, .int block, .ref q2, .int stocking, .ref q3, .int acts, .ref q4, .int keeps, .ref q5, .int hears, .ref q6, .ref q7, .int texted, .int at_, .ref q8, .ref q9, .int readFeetMany, .ref q10, .int readLog, .int readBlock, .ref q11, .int readStocking, .ref q12, .int lefts_, .int rights_, .ref q13, .ref q14, .ref q15, .ref q16, .ref q17])), (q3, .inl (cc 0, 52, .inl st)), (q12, .inl (cc 0, 52, .inl w7))] H locs := hP
        refine lv_iconst (v := 0) hx hb dX10_year_36 (by decide) ?_
        refine lv_istore (lv' := [(4, .int 0), (0, .ref q0), (1, .int x1), (2, .int x2), (3, .int x3)]) hx hb dX10_year_37 hl (by decide) rfl (fun ls hl => ?_)
        refine lv_iconst (v := 0) hx hb dX10_year_39 (by decide) ?_
        refine lv_istore (lv' := [(5, .int 0), (4, .int 0), (0, .ref q0), (1, .int x1), (2, .int x2), (3, .int x3)]) hx hb dX10_year_40 hl (by decide) rfl (fun ls hl => ?_)
        obtain ⟨⟨j8x, j9x, w10x⟩, hlp, h⟩ := bnd_h h
        have L1 : ∀ (n : Nat) (j8 : Int32) (j9 : Int32) (w10 : (Nat → Int32)) (j8x : Int32) (j9x : Int32) (w10x : (Nat → Int32)), lp (u3 (b_X10_year_1 x1 x2)) n (j8, j9, w10) = some (j8x, j9x, w10x) → ∀ (H : Heap) (locs : List Loc) (ls : Array Slot), PD (dC, dI) A s.heap [(q0, .inr (10, [.int feetMany, .ref q1, .int log_, .int block, .ref q2, .int stocking, .ref q3, .int acts, .ref q4, .int keeps, .ref q5, .int hears, .ref q6, .ref q7, .int texted, .int at_, .ref q8, .ref q9, .int readFeetMany, .ref q10, .int readLog, .int readBlock, .ref q11, .int readStocking, .ref q12, .int lefts_, .int rights_, .ref q13, .ref q14, .ref q15, .ref q16, .ref q17])), (q3, .inl (cc 0, 52, .inl st)), (q12, .inl (cc 0, 52, .inl w10))] H locs → lv_has ls 9 [(0, .ref q0), (1, .int x1), (2, .int x2), (3, .int x3), (4, .int j8), (5, .int j9)] → (∀ (H : Heap) (locs : List Loc) (ls : Array Slot), PD (dC, dI) A s.heap [(q0, .inr (10, [.int feetMany, .ref q1, .int log_, .int block, .ref q2, .int stocking, .ref q3, .int acts, .ref q4, .int keeps, .ref q5, .int hears, .ref q6, .ref q7, .int texted, .int at_, .ref q8, .ref q9, .int readFeetMany, .ref q10, .int readLog, .int readBlock, .ref q11, .int readStocking, .ref q12, .int lefts_, .int rights_, .ref q13, .ref q14, .ref q15, .ref q16, .ref q17])), (q3, .inl (cc 0, 52, .inl st)), (q12, .inl (cc 0, 52, .inl w10x))] H locs → lv_has ls 9 [(0, .ref q0), (1, .int x1), (2, .int x2), (3, .int x3), (4, .int j8x), (5, .int j9x)] → W p l e ({ frames := 4, cells := 0, slots := 0, locals := 88 } : Room) s m ([.ref q0, .int x1, .int x2, .int x3] : List Value).toArray below meth c H locs 0 0 Z (F0 m 158 ls [])) → W p l e ({ frames := 4, cells := 0, slots := 0, locals := 88 } : Room) s m ([.ref q0, .int x1, .int x2, .int x3] : List Value).toArray below meth c H locs 0 0 Z (F0 m 42 ls []) := by
          intro n
          induction n with
          | zero => intro j8 j9 w10 j8x j9x w10x h; exact (lp_0 h).elim
          | succ n ih =>
            intro j8 j9 w10 j8x j9x w10x h H locs ls hP hl KK
            obtain ⟨y, h, hz⟩ := lp_h h
            refine lv_iload hx hb dX10_year_42 (lv_at hl 5 rfl) ?_
            refine lv_iload_n hx hb dX10_year_44 rfl (lv_at hl 2 rfl) ?_
            refine lv_icmp_ge (tgt := 158) hx hb dX10_year_45 (by decide) (fun c11 => ?_) (fun c11 => ?_)
            · have h := if_t c11 h
              cases lp_e h hz
              exact KK H locs ls hP (lv_sub hl [0, 1, 2, 3, 4, 5] rfl)
            · have h := if_f c11 h
              refine lv_ldc2 (v := 7919) hx hb hC.2.2.1 (hC.2.2.2.1 _ kw1132) dX10_year_48 ?_
              refine lv_iload_n hx hb dX10_year_51 rfl (lv_at hl 1 rfl) ?_
              refine lv_i2l hx hb dX10_year_52 rfl ?_
              refine lv_lmul hx hb dX10_year_53 ?_
              refine lv_ldc2 (v := 6151) hx hb hC.2.2.1 (hC.2.2.2.1 _ kw1133) dX10_year_54 ?_
              refine lv_iload hx hb dX10_year_57 (lv_at hl 5 rfl) ?_
              refine lv_i2l hx hb dX10_year_59 rfl ?_
              refine lv_lmul hx hb dX10_year_60 ?_
              refine lv_ladd hx hb dX10_year_61 ?_
              refine lv_lconst (v := 1) hx hb dX10_year_62 (by decide) ?_
              refine lv_ladd hx hb dX10_year_63 ?_
              refine lv_topl (fun v12 ev => ?_)
              have h := nm_h ev h
              refine lv_lstore (lv' := [(6, .long v12), (0, .ref q0), (1, .int x1), (2, .int x2), (3, .int x3), (4, .int j8), (5, .int j9)]) hx hb dX10_year_64 hl (by decide) rfl (fun ls hl => ?_)
              refine lv_lload hx hb dX10_year_66 (lv_at hl 0 rfl) ?_
              refine lv_lload hx hb dX10_year_68 (lv_at hl 0 rfl) ?_
              refine lv_lmul hx hb dX10_year_70 ?_
              refine lv_ldc2 (v := 65521) hx hb hC.2.2.1 (hC.2.2.2.1 _ kw1134) dX10_year_71 ?_
              refine lv_lrem hx hb dX10_year_74 (by decide) ?_
              refine lv_ldc2 (v := 4) hx hb hC.2.2.1 (hC.2.2.2.1 _ kw1135) dX10_year_75 ?_
              refine lv_ldiv hx hb dX10_year_78 (by decide) ?_
              refine lv_l2i hx hb dX10_year_79 rfl ?_
              refine lv_topi (fun v13 ev => ?_)
              have h := nm_h ev h
              refine lv_istore (lv' := [(8, .int v13), (6, .long v12), (0, .ref q0), (1, .int x1), (2, .int x2), (3, .int x3), (4, .int j8), (5, .int j9)]) hx hb dX10_year_80 hl (by decide) rfl (fun ls hl => ?_)
              refine lv_aload_n hx hb dX10_year_82 rfl (lv_at hl 2 rfl) ?_
              refine g_get hC hP fg_X10_44 0 rfl rfl dX10_year_83 ?_
              refine lv_iconst (v := 1) hx hb dX10_year_86 (by decide) ?_
              obtain ⟨hin, h⟩ := rd_h h
              refine g_iald hC hP 2 0 rfl rfl hin dX10_year_87 (fun v14 ev => ?_)
              have h := h v14 ev
              refine lv_bipush (v := 10) hx hb dX10_year_88 (by decide) ?_
              refine lv_icmp_ge (tgt := 125) hx hb dX10_year_90 (by decide) (fun c15 => ?_) (fun c15 => ?_)
              · have h := if_t c15 h
                refine lv_iload hx hb dX10_year_125 (lv_at hl 6 rfl) ?_
                refine lv_aload_n hx hb dX10_year_127 rfl (lv_at hl 2 rfl) ?_
                obtain ⟨⟨r16, w17⟩, hu, h⟩ := bnd_h h
                refine kc_z (kV hC (c_X10_firstGo l dC dI cc q0 q1 q2 q3 q4 q5 q6 q7 q8 q9 q10 q11 q12 q13 q14 q15 q16 q17 feetMany log_ block stocking acts keeps hears texted at_ readFeetMany readLog readBlock readStocking lefts_ rights_ w10 H.size r16 w17 hu) cv_X10_249 kw1139 rfl rfl ⟨(Nat.le_of_ble_eq_true rfl), (Nat.le_of_ble_eq_true rfl)⟩ hP [0, 2] rfl rfl rfl (q0 := 0) rfl (As := []) (rest := [.int j8]) rfl rfl hl.1 (Nat.le_of_ble_eq_true rfl) dX10_year_128 ⟨Nat.zero_le _, Nat.zero_le _⟩) hP hA [0, 2] rfl rfl (fun hz_r16 H locs hP => ?_)
                have hP : PD (dC, dI) A s.heap [(q0, .inr (10, [.int feetMany, .ref q1, .int log_, .int block, .ref q2, .int stocking, .ref q3, .int acts, .ref q4, .int keeps, .ref q5, .int hears, .ref q6, .ref q7, .int texted, .int at_, .ref q8, .ref q9, .int readFeetMany, .ref q10, .int readLog, .int readBlock, .ref q11, .int readStocking, .ref q12, .int lefts_, .int rights_, .ref q13, .ref q14, .ref q15, .ref q16, .ref q17])), (q3, .inl (cc 0, 52, .inl st)), (q12, .inl (cc 0, 52, .inl w17))] H locs := hP
                refine lv_if_eq (tgt := 138) hx hb dX10_year_131 (by decide) (fun c18 => ?_) (fun c18 => ?_)
                · have h := if_t c18 h
                  refine lv_iconst (v := 0) hx hb dX10_year_138 (by decide) ?_
                  refine lv_iadd hx hb dX10_year_139 ?_
                  refine lv_istore (lv' := [(4, .int (j8 + 0)), (8, .int v13), (6, .long v12), (0, .ref q0), (1, .int x1), (2, .int x2), (3, .int x3), (5, .int j9)]) hx hb dX10_year_140 hl (by decide) rfl (fun ls hl => ?_)
                  refine lv_aload_n hx hb dX10_year_142 rfl (lv_at hl 3 rfl) ?_
                  refine g_get hC hP fg_X10_44 0 rfl rfl dX10_year_143 ?_
                  refine lv_iconst (v := 0) hx hb dX10_year_146 (by decide) ?_
                  refine lv_dup2_11 hx hb dX10_year_147 rfl rfl ?_
                  obtain ⟨hin, h⟩ := rd_h h
                  refine g_iald hC hP 2 0 rfl rfl hin dX10_year_148 (fun v19 ev => ?_)
                  have h := h v19 ev
                  refine lv_iconst (v := 1) hx hb dX10_year_149 (by decide) ?_
                  refine lv_iadd hx hb dX10_year_150 ?_
                  obtain ⟨hin, h⟩ := wr_h h
                  refine g_iast hC hP 2 0 rfl rfl hin dX10_year_151 (fun a20 ev H locs hP => ?_)
                  have hP : PD (dC, dI) A s.heap [(q0, .inr (10, [.int feetMany, .ref q1, .int log_, .int block, .ref q2, .int stocking, .ref q3, .int acts, .ref q4, .int keeps, .ref q5, .int hears, .ref q6, .ref q7, .int texted, .int at_, .ref q8, .ref q9, .int readFeetMany, .ref q10, .int readLog, .int readBlock, .ref q11, .int readStocking, .ref q12, .int lefts_, .int rights_, .ref q13, .ref q14, .ref q15, .ref q16, .ref q17])), (q3, .inl (cc 0, 52, .inl st)), (q12, .inl (cc 0, 52, .inl a20))] H locs := hP
                  have h := h a20 ev
                  refine lv_iinc (v := (j9 + 1)) (lv' := [(5, .int (j9 + 1)), (4, .int (j8 + 0)), (8, .int v13), (6, .long v12), (0, .ref q0), (1, .int x1), (2, .int x2), (3, .int x3)]) hx hb dX10_year_152 hl (k := 7) rfl rfl (by decide) rfl (fun ls hl => ?_)
                  refine lv_goto (tgt := 42) hx hb dX10_year_155 (by decide) ?_
                  exact ih _ _ _ _ _ _ (lp_n h hz) H locs ls hP (lv_sub hl [4, 5, 6, 7, 1, 0] rfl) KK
                · have h := if_f c18 h
                  refine lv_iconst (v := 1) hx hb dX10_year_134 (by decide) ?_
                  refine lv_goto (tgt := 139) hx hb dX10_year_135 (by decide) ?_
                  refine lv_iadd hx hb dX10_year_139 ?_
                  refine lv_istore (lv' := [(4, .int (j8 + 1)), (8, .int v13), (6, .long v12), (0, .ref q0), (1, .int x1), (2, .int x2), (3, .int x3), (5, .int j9)]) hx hb dX10_year_140 hl (by decide) rfl (fun ls hl => ?_)
                  refine lv_aload_n hx hb dX10_year_142 rfl (lv_at hl 3 rfl) ?_
                  refine g_get hC hP fg_X10_44 0 rfl rfl dX10_year_143 ?_
                  refine lv_iconst (v := 0) hx hb dX10_year_146 (by decide) ?_
                  refine lv_dup2_11 hx hb dX10_year_147 rfl rfl ?_
                  obtain ⟨hin, h⟩ := rd_h h
                  refine g_iald hC hP 2 0 rfl rfl hin dX10_year_148 (fun v21 ev => ?_)
                  have h := h v21 ev
                  refine lv_iconst (v := 1) hx hb dX10_year_149 (by decide) ?_
                  refine lv_iadd hx hb dX10_year_150 ?_
                  obtain ⟨hin, h⟩ := wr_h h
                  refine g_iast hC hP 2 0 rfl rfl hin dX10_year_151 (fun a22 ev H locs hP => ?_)
                  have hP : PD (dC, dI) A s.heap [(q0, .inr (10, [.int feetMany, .ref q1, .int log_, .int block, .ref q2, .int stocking, .ref q3, .int acts, .ref q4, .int keeps, .ref q5, .int hears, .ref q6, .ref q7, .int texted, .int at_, .ref q8, .ref q9, .int readFeetMany, .ref q10, .int readLog, .int readBlock, .ref q11, .int readStocking, .ref q12, .int lefts_, .int rights_, .ref q13, .ref q14, .ref q15, .ref q16, .ref q17])), (q3, .inl (cc 0, 52, .inl st)), (q12, .inl (cc 0, 52, .inl a22))] H locs := hP
                  have h := h a22 ev
                  refine lv_iinc (v := (j9 + 1)) (lv' := [(5, .int (j9 + 1)), (4, .int (j8 + 1)), (8, .int v13), (6, .long v12), (0, .ref q0), (1, .int x1), (2, .int x2), (3, .int x3)]) hx hb dX10_year_152 hl (k := 7) rfl rfl (by decide) rfl (fun ls hl => ?_)
                  refine lv_goto (tgt := 42) hx hb dX10_year_155 (by decide) ?_
                  exact ih _ _ _ _ _ _ (lp_n h hz) H locs ls hP (lv_sub hl [4, 5, 6, 7, 1, 0] rfl) KK
              · have h := if_f c15 h
                refine lv_aload_n hx hb dX10_year_93 rfl (lv_at hl 2 rfl) ?_
                refine g_get hC hP fg_X10_44 0 rfl rfl dX10_year_94 ?_
                refine lv_iconst (v := 0) hx hb dX10_year_97 (by decide) ?_
                refine lv_iload hx hb dX10_year_98 (lv_at hl 0 rfl) ?_
                refine lv_iconst (v := 2) hx hb dX10_year_100 (by decide) ?_
                refine lv_irem hx hb dX10_year_101 (by decide) ?_
                refine lv_bipush (v := 30) hx hb dX10_year_102 (by decide) ?_
                refine lv_iload hx hb dX10_year_104 (lv_at hl 0 rfl) ?_
                refine lv_iconst (v := 2) hx hb dX10_year_106 (by decide) ?_
                refine lv_idiv hx hb dX10_year_107 (by decide) ?_
                refine lv_bipush (v := 12) hx hb dX10_year_108 (by decide) ?_
                refine lv_irem hx hb dX10_year_110 (by decide) ?_
                refine lv_iadd hx hb dX10_year_111 ?_
                refine lv_bipush (v := 10) hx hb dX10_year_112 (by decide) ?_
                refine lv_iload hx hb dX10_year_114 (lv_at hl 0 rfl) ?_
                refine lv_bipush (v := 32) hx hb dX10_year_116 (by decide) ?_
                refine lv_idiv hx hb dX10_year_118 (by decide) ?_
                refine lv_iconst (v := 5) hx hb dX10_year_119 (by decide) ?_
                refine lv_irem hx hb dX10_year_120 (by decide) ?_
                refine lv_iadd hx hb dX10_year_121 ?_
                obtain ⟨w23, hu, h⟩ := bnd_h h
                refine kc_v (kS hC (c_X10_puts l dC dI cc q12 52 w10 0 (v13 - v13 / 2 * 2) (30 + ((v13 / 2) - (v13 / 2) / 12 * 12)) (10 + ((v13 / 32) - (v13 / 32) / 5 * 5)) H.size w23 hu) cs_X10_83 kw796 rfl rfl ⟨(Nat.le_of_ble_eq_true rfl), (Nat.le_of_ble_eq_true rfl)⟩ hP [2] rfl rfl (As := [.ref q12, .int 0, .int (v13 - v13 / 2 * 2), .int (30 + ((v13 / 2) - (v13 / 2) / 12 * 12)), .int (10 + ((v13 / 32) - (v13 / 32) / 5 * 5))]) (rest := []) rfl rfl hl.1 (Nat.le_of_ble_eq_true rfl) dX10_year_122 ⟨Nat.zero_le _, Nat.zero_le _⟩) hP hA [2] rfl rfl (fun H locs hP => ?_)
                have hP : PD (dC, dI) A s.heap [(q0, .inr (10, [.int feetMany, .ref q1, .int log_, .int block, .ref q2, .int stocking, .ref q3, .int acts, .ref q4, .int keeps, .ref q5, .int hears, .ref q6, .ref q7, .int texted, .int at_, .ref q8, .ref q9, .int readFeetMany, .ref q10, .int readLog, .int readBlock, .ref q11, .int readStocking, .ref q12, .int lefts_, .int rights_, .ref q13, .ref q14, .ref q15, .ref q16, .ref q17])), (q3, .inl (cc 0, 52, .inl st)), (q12, .inl (cc 0, 52, .inl w23))] H locs := hP
                refine lv_iload hx hb dX10_year_125 (lv_at hl 6 rfl) ?_
                refine lv_aload_n hx hb dX10_year_127 rfl (lv_at hl 2 rfl) ?_
                obtain ⟨⟨r24, w25⟩, hu, h⟩ := bnd_h h
                refine kc_z (kV hC (c_X10_firstGo l dC dI cc q0 q1 q2 q3 q4 q5 q6 q7 q8 q9 q10 q11 q12 q13 q14 q15 q16 q17 feetMany log_ block stocking acts keeps hears texted at_ readFeetMany readLog readBlock readStocking lefts_ rights_ w23 H.size r24 w25 hu) cv_X10_249 kw1139 rfl rfl ⟨(Nat.le_of_ble_eq_true rfl), (Nat.le_of_ble_eq_true rfl)⟩ hP [0, 2] rfl rfl rfl (q0 := 0) rfl (As := []) (rest := [.int j8]) rfl rfl hl.1 (Nat.le_of_ble_eq_true rfl) dX10_year_128 ⟨Nat.zero_le _, Nat.zero_le _⟩) hP hA [0, 2] rfl rfl (fun hz_r24 H locs hP => ?_)
                have hP : PD (dC, dI) A s.heap [(q0, .inr (10, [.int feetMany, .ref q1, .int log_, .int block, .ref q2, .int stocking, .ref q3, .int acts, .ref q4, .int keeps, .ref q5, .int hears, .ref q6, .ref q7, .int texted, .int at_, .ref q8, .ref q9, .int readFeetMany, .ref q10, .int readLog, .int readBlock, .ref q11, .int readStocking, .ref q12, .int lefts_, .int rights_, .ref q13, .ref q14, .ref q15, .ref q16, .ref q17])), (q3, .inl (cc 0, 52, .inl st)), (q12, .inl (cc 0, 52, .inl w25))] H locs := hP
                refine lv_if_eq (tgt := 138) hx hb dX10_year_131 (by decide) (fun c26 => ?_) (fun c26 => ?_)
                · have h := if_t c26 h
                  refine lv_iconst (v := 0) hx hb dX10_year_138 (by decide) ?_
                  refine lv_iadd hx hb dX10_year_139 ?_
                  refine lv_istore (lv' := [(4, .int (j8 + 0)), (8, .int v13), (6, .long v12), (0, .ref q0), (1, .int x1), (2, .int x2), (3, .int x3), (5, .int j9)]) hx hb dX10_year_140 hl (by decide) rfl (fun ls hl => ?_)
                  refine lv_aload_n hx hb dX10_year_142 rfl (lv_at hl 3 rfl) ?_
                  refine g_get hC hP fg_X10_44 0 rfl rfl dX10_year_143 ?_
                  refine lv_iconst (v := 0) hx hb dX10_year_146 (by decide) ?_
                  refine lv_dup2_11 hx hb dX10_year_147 rfl rfl ?_
                  obtain ⟨hin, h⟩ := rd_h h
                  refine g_iald hC hP 2 0 rfl rfl hin dX10_year_148 (fun v27 ev => ?_)
                  have h := h v27 ev
                  refine lv_iconst (v := 1) hx hb dX10_year_149 (by decide) ?_
                  refine lv_iadd hx hb dX10_year_150 ?_
                  obtain ⟨hin, h⟩ := wr_h h
                  refine g_iast hC hP 2 0 rfl rfl hin dX10_year_151 (fun a28 ev H locs hP => ?_)
                  have hP : PD (dC, dI) A s.heap [(q0, .inr (10, [.int feetMany, .ref q1, .int log_, .int block, .ref q2, .int stocking, .ref q3, .int acts, .ref q4, .int keeps, .ref q5, .int hears, .ref q6, .ref q7, .int texted, .int at_, .ref q8, .ref q9, .int readFeetMany, .ref q10, .int readLog, .int readBlock, .ref q11, .int readStocking, .ref q12, .int lefts_, .int rights_, .ref q13, .ref q14, .ref q15, .ref q16, .ref q17])), (q3, .inl (cc 0, 52, .inl st)), (q12, .inl (cc 0, 52, .inl a28))] H locs := hP
                  have h := h a28 ev
                  refine lv_iinc (v := (j9 + 1)) (lv' := [(5, .int (j9 + 1)), (4, .int (j8 + 0)), (8, .int v13), (6, .long v12), (0, .ref q0), (1, .int x1), (2, .int x2), (3, .int x3)]) hx hb dX10_year_152 hl (k := 7) rfl rfl (by decide) rfl (fun ls hl => ?_)
                  refine lv_goto (tgt := 42) hx hb dX10_year_155 (by decide) ?_
                  exact ih _ _ _ _ _ _ (lp_n h hz) H locs ls hP (lv_sub hl [4, 5, 6, 7, 1, 0] rfl) KK
                · have h := if_f c26 h
                  refine lv_iconst (v := 1) hx hb dX10_year_134 (by decide) ?_
                  refine lv_goto (tgt := 139) hx hb dX10_year_135 (by decide) ?_
                  refine lv_iadd hx hb dX10_year_139 ?_
                  refine lv_istore (lv' := [(4, .int (j8 + 1)), (8, .int v13), (6, .long v12), (0, .ref q0), (1, .int x1), (2, .int x2), (3, .int x3), (5, .int j9)]) hx hb dX10_year_140 hl (by decide) rfl (fun ls hl => ?_)
                  refine lv_aload_n hx hb dX10_year_142 rfl (lv_at hl 3 rfl) ?_
                  refine g_get hC hP fg_X10_44 0 rfl rfl dX10_year_143 ?_
                  refine lv_iconst (v := 0) hx hb dX10_year_146 (by decide) ?_
                  refine lv_dup2_11 hx hb dX10_year_147 rfl rfl ?_
                  obtain ⟨hin, h⟩ := rd_h h
                  refine g_iald hC hP 2 0 rfl rfl hin dX10_year_148 (fun v29 ev => ?_)
                  have h := h v29 ev
                  refine lv_iconst (v := 1) hx hb dX10_year_149 (by decide) ?_
                  refine lv_iadd hx hb dX10_year_150 ?_
                  obtain ⟨hin, h⟩ := wr_h h
                  refine g_iast hC hP 2 0 rfl rfl hin dX10_year_151 (fun a30 ev H locs hP => ?_)
                  have hP : PD (dC, dI) A s.heap [(q0, .inr (10, [.int feetMany, .ref q1, .int log_, .int block, .ref q2, .int stocking, .ref q3, .int acts, .ref q4, .int keeps, .ref q5, .int hears, .ref q6, .ref q7, .int texted, .int at_, .ref q8, .ref q9, .int readFeetMany, .ref q10, .int readLog, .int readBlock, .ref q11, .int readStocking, .ref q12, .int lefts_, .int rights_, .ref q13, .ref q14, .ref q15, .ref q16, .ref q17])), (q3, .inl (cc 0, 52, .inl st)), (q12, .inl (cc 0, 52, .inl a30))] H locs := hP
                  have h := h a30 ev
                  refine lv_iinc (v := (j9 + 1)) (lv' := [(5, .int (j9 + 1)), (4, .int (j8 + 1)), (8, .int v13), (6, .long v12), (0, .ref q0), (1, .int x1), (2, .int x2), (3, .int x3)]) hx hb dX10_year_152 hl (k := 7) rfl rfl (by decide) rfl (fun ls hl => ?_)
                  refine lv_goto (tgt := 42) hx hb dX10_year_155 (by decide) ?_
                  exact ih _ _ _ _ _ _ (lp_n h hz) H locs ls hP (lv_sub hl [4, 5, 6, 7, 1, 0] rfl) KK
        refine L1 FU _ _ _ j8x j9x w10x hlp H locs ls hP (lv_sub hl [2, 3, 4, 5, 1, 0] rfl) (fun H locs ls hP hl => ?_)
        refine lv_iload_n hx hb dX10_year_158 rfl (lv_at hl 3 rfl) ?_
        refine lv_if_ne (tgt := 167) hx hb dX10_year_159 (by decide) (fun c31 => ?_) (fun c31 => ?_)
        · have h := if_f c31 h
          refine lv_aload_n hx hb dX10_year_167 rfl (lv_at hl 0 rfl) ?_
          refine g_get hC hP fg_X10_44 0 rfl rfl dX10_year_168 ?_
          refine lv_iconst (v := 1) hx hb dX10_year_171 (by decide) ?_
          obtain ⟨hin, h⟩ := rd_h h
          refine g_iald hC hP 2 0 rfl rfl hin dX10_year_172 (fun v32 ev => ?_)
          have h := h v32 ev
          rw [eZ]
          exact ret_i hC hr hlk hP dX10_year_173 w10x (Prod.mk.inj (Option.some.inj h)) rfl
        · have h := if_t c31 h
          refine lv_iload hx hb dX10_year_162 (lv_at hl 4 rfl) ?_
          refine lv_goto (tgt := 173) hx hb dX10_year_164 (by decide) ?_
          rw [eZ]
          exact ret_i hC hr hlk hP dX10_year_173 w10x (Prod.mk.inj (Option.some.inj h)) rfl
      · have h := if_t c6 h
        refine lv_iconst (v := -1) hx hb dX10_year_30 (by decide) ?_
        rw [eZ]
        exact ret_i hC hr hlk hP dX10_year_31 now_ (Prod.mk.inj (Option.some.inj h)) rfl
set_option maxHeartbeats 8000000 in
set_option maxRecDepth 100000 in
theorem c_X10_keep (l : Launch) (dC : Nat → ClassId) (dI : Nat → Nat → Nat) (cc : Nat → ClassId) (q0 q1 q2 q3 q4 q5 q6 q7 q8 q9 q10 q11 q12 q13 q14 q15 q16 q17 : Nat) (feetMany : Int32) (log_ : Int32) (block : Int32) (stocking : Int32) (acts : Int32) (keeps : Int32) (hears : Int32) (texted : Int32) (at_ : Int32) (readFeetMany : Int32) (readLog : Int32) (readBlock : Int32) (readStocking : Int32) (lefts_ : Int32) (rights_ : Int32) (st : (Nat → Int32)) (kept : (Nat → Int32)) (sz : Nat) (ret : Int32) (o_keeps : Int32) (o_kept : (Nat → Int32)) (hu : f_X10_keep keeps st kept = some (ret, o_keeps, o_kept)) : Met l yX10_keep (mw yX10_keep cX10_keep 1 (some .int)) ({ frames := 1, cells := 0, slots := 0, locals := 25 } : Room) (va_Pc [.ref q0] (mP (dC, dI) (ts cc) sz [(q0, .inr (10, [.int feetMany, .ref q1, .int log_, .int block, .ref q2, .int stocking, .ref q3, .int acts, .ref q4, .int keeps, .ref q5, .int hears, .ref q6, .ref q7, .int texted, .int at_, .ref q8, .ref q9, .int readFeetMany, .ref q10, .int readLog, .int readBlock, .ref q11, .int readStocking, .ref q12, .int lefts_, .int rights_, .ref q13, .ref q14, .ref q15, .ref q16, .ref q17])), (q3, .inl (cc 0, 52, .inl st)), (q5, .inl (cc 0, 104, .inl kept))])) ((fun A => va_Qi (fun (r : Int32) (w : Int32 × (Nat → Int32)) => r = ret ∧ w = (o_keeps, o_kept)) (fun (w : Int32 × (Nat → Int32)) t => va_P (dC, dI) classes [(q0, .inr (10, [.int feetMany, .ref q1, .int log_, .int block, .ref q2, .int stocking, .ref q3, .int acts, .ref q4, .int w.1, .ref q5, .int hears, .ref q6, .ref q7, .int texted, .int at_, .ref q8, .ref q9, .int readFeetMany, .ref q10, .int readLog, .int readBlock, .ref q11, .int readStocking, .ref q12, .int lefts_, .int rights_, .ref q13, .ref q14, .ref q15, .ref q16, .ref q17])), (q3, .inl (cc 0, 52, .inl st)), (q5, .inl (cc 0, 104, .inl w.2))] t.heap) A) (va_A [(q0, .inr (10, [.int feetMany, .ref q1, .int log_, .int block, .ref q2, .int stocking, .ref q3, .int acts, .ref q4, .int keeps, .ref q5, .int hears, .ref q6, .ref q7, .int texted, .int at_, .ref q8, .ref q9, .int readFeetMany, .ref q10, .int readLog, .int readBlock, .ref q11, .int readStocking, .ref q12, .int lefts_, .int rights_, .ref q13, .ref q14, .ref q15, .ref q16, .ref q17])), (q3, .inl (cc 0, 52, .inl st)), (q5, .inl (cc 0, 104, .inl kept))] sz)) 0 0 (va_A [(q0, .inr (10, [.int feetMany, .ref q1, .int log_, .int block, .ref q2, .int stocking, .ref q3, .int acts, .ref q4, .int keeps, .ref q5, .int hears, .ref q6, .ref q7, .int texted, .int at_, .ref q8, .ref q9, .int readFeetMany, .ref q10, .int readLog, .int readBlock, .ref q11, .int readStocking, .ref q12, .int lefts_, .int rights_, .ref q13, .ref q14, .ref q15, .ref q16, .ref q17])), (q3, .inl (cc 0, 52, .inl st)), (q5, .inl (cc 0, 104, .inl kept))] sz) := by
  refine met_go (Qc := fun A => va_Qi (fun (r : Int32) (w : Int32 × (Nat → Int32)) => r = ret ∧ w = (o_keeps, o_kept)) (fun (w : Int32 × (Nat → Int32)) t => va_P (dC, dI) classes [(q0, .inr (10, [.int feetMany, .ref q1, .int log_, .int block, .ref q2, .int stocking, .ref q3, .int acts, .ref q4, .int w.1, .ref q5, .int hears, .ref q6, .ref q7, .int texted, .int at_, .ref q8, .ref q9, .int readFeetMany, .ref q10, .int readLog, .int readBlock, .ref q11, .int readStocking, .ref q12, .int lefts_, .int rights_, .ref q13, .ref q14, .ref q15, .ref q16, .ref q17])), (q3, .inl (cc 0, 52, .inl st)), (q5, .inl (cc 0, 104, .inl w.2))] t.heap) A) (by decide) (Nat.le_of_ble_eq_true rfl) ?_
  intro p e s m below meth c A ls H locs hC hr hlk hin hA hP hl _
  have hC : CX p m c cX10_keep 1 s ([.ref q0] : List Value).toArray RX10 (dC, dI) (ts cc) := hC
  have hx := hC.1.1
  have hb := hC.1.2
  have h := hu
  have hu0 := hu
  unfold f_X10_keep at h
  have hl : lv_has ls 1 [(0, .ref q0)] := hl
  refine lv_aload_n hx hb dX10_keep_0 rfl (lv_at hl 0 rfl) ?_
  refine g_get hC hP fg_X10_163 0 rfl rfl dX10_keep_1 ?_
  refine lv_iconst (v := 2) hx hb dX10_keep_4 (by decide) ?_
  refine lv_icmp_ne (tgt := 11) hx hb dX10_keep_5 (by decide) (fun c1 => ?_) (fun c1 => ?_)
  · have h := if_f c1 h
    refine lv_aload_n hx hb dX10_keep_11 rfl (lv_at hl 0 rfl) ?_
    refine g_get hC hP fg_X10_23 0 rfl rfl dX10_keep_12 ?_
    refine lv_bipush (v := 52) hx hb dX10_keep_15 (by decide) ?_
    refine lv_aload_n hx hb dX10_keep_17 rfl (lv_at hl 0 rfl) ?_
    refine g_get hC hP fg_X10_163 0 rfl rfl dX10_keep_18 ?_
    refine lv_imul hx hb dX10_keep_21 ?_
    refine lv_aload_n hx hb dX10_keep_22 rfl (lv_at hl 0 rfl) ?_
    refine g_get hC hP fg_X10_17 0 rfl rfl dX10_keep_23 ?_
    refine lv_iconst (v := 0) hx hb dX10_keep_26 (by decide) ?_
    refine lv_bipush (v := 52) hx hb dX10_keep_27 (by decide) ?_
    obtain ⟨w2, hu, h⟩ := bnd_h h
    refine kc_v (kS hC (c_X10_copies l dC dI cc q5 q3 104 52 kept st (52 * keeps) 0 52 H.size w2 hu) cs_X10_144 kw807 rfl rfl ⟨(Nat.le_of_ble_eq_true rfl), (Nat.le_of_ble_eq_true rfl)⟩ hP [2, 1] rfl rfl (As := [.ref q5, .int (52 * keeps), .ref q3, .int 0, .int 52]) (rest := []) rfl rfl hl.1 (Nat.le_of_ble_eq_true rfl) dX10_keep_29 ⟨Nat.zero_le _, Nat.zero_le _⟩) hP hA [2, 1] rfl rfl (fun H locs hP => ?_)
    have hP : PD (dC, dI) A s.heap [(q0, .inr (10, [.int feetMany, .ref q1, .int log_, .int block, .ref q2, .int stocking, .ref q3, .int acts, .ref q4, .int keeps, .ref q5, .int hears, .ref q6, .ref q7, .int texted, .int at_, .ref q8, .ref q9, .int readFeetMany, .ref q10, .int readLog, .int readBlock, .ref q11, .int readStocking, .ref q12, .int lefts_, .int rights_, .ref q13, .ref q14, .ref q15, .ref q16, .ref q17])), (q3, .inl (cc 0, 52, .inl st)), (q5, .inl (cc 0, 104, .inl w2))] H locs := hP
    refine lv_aload_n hx hb dX10_keep_32 rfl (lv_at hl 0 rfl) ?_
    refine lv_dup hx hb dX10_keep_33 rfl ?_
    refine g_get hC hP fg_X10_163 0 rfl rfl dX10_keep_34 ?_
    refine lv_iconst (v := 1) hx hb dX10_keep_37 (by decide) ?_
    refine lv_iadd hx hb dX10_keep_38 ?_
    refine g_put hC hP fg_X10_163 0 rfl rfl rfl (Nat.le_of_ble_eq_true rfl) dX10_keep_39 (fun H locs hP => ?_)
    have hP : PD (dC, dI) A s.heap [(q0, .inr (10, [.int feetMany, .ref q1, .int log_, .int block, .ref q2, .int stocking, .ref q3, .int acts, .ref q4, .int (keeps + 1), .ref q5, .int hears, .ref q6, .ref q7, .int texted, .int at_, .ref q8, .ref q9, .int readFeetMany, .ref q10, .int readLog, .int readBlock, .ref q11, .int readStocking, .ref q12, .int lefts_, .int rights_, .ref q13, .ref q14, .ref q15, .ref q16, .ref q17])), (q3, .inl (cc 0, 52, .inl st)), (q5, .inl (cc 0, 104, .inl w2))] H locs := hP
    refine lv_aload_n hx hb dX10_keep_42 rfl (lv_at hl 0 rfl) ?_
    refine g_get hC hP fg_X10_163 0 rfl rfl dX10_keep_43 ?_
    exact ret_i hC hr hlk hP dX10_keep_46 ((keeps + 1), w2) (Prod.mk.inj (Option.some.inj h)) rfl
  · have h := if_t c1 h
    refine lv_bipush (v := -3) hx hb dX10_keep_8 (by decide) ?_
    exact ret_i hC hr hlk hP dX10_keep_10 (keeps, kept) (Prod.mk.inj (Option.some.inj h)) rfl
set_option maxHeartbeats 8000000 in
set_option maxRecDepth 100000 in
theorem c_X10_back (l : Launch) (dC : Nat → ClassId) (dI : Nat → Nat → Nat) (cc : Nat → ClassId) (q0 q1 q2 q3 q4 q5 q6 q7 q8 q9 q10 q11 q12 q13 q14 q15 q16 q17 : Nat) (feetMany : Int32) (log_ : Int32) (block : Int32) (stocking : Int32) (acts : Int32) (keeps : Int32) (hears : Int32) (texted : Int32) (at_ : Int32) (readFeetMany : Int32) (readLog : Int32) (readBlock : Int32) (readStocking : Int32) (lefts_ : Int32) (rights_ : Int32) (st : (Nat → Int32)) (kept : (Nat → Int32)) (sz : Nat) (ret : Int32) (o_st : (Nat → Int32)) (o_acts : Int32) (o_keeps : Int32) (hu : f_X10_back acts keeps st kept = some (ret, o_st, o_acts, o_keeps)) : Met l yX10_back (mw yX10_back cX10_back 1 (some .int)) ({ frames := 1, cells := 0, slots := 0, locals := 25 } : Room) (va_Pc [.ref q0] (mP (dC, dI) (ts cc) sz [(q0, .inr (10, [.int feetMany, .ref q1, .int log_, .int block, .ref q2, .int stocking, .ref q3, .int acts, .ref q4, .int keeps, .ref q5, .int hears, .ref q6, .ref q7, .int texted, .int at_, .ref q8, .ref q9, .int readFeetMany, .ref q10, .int readLog, .int readBlock, .ref q11, .int readStocking, .ref q12, .int lefts_, .int rights_, .ref q13, .ref q14, .ref q15, .ref q16, .ref q17])), (q3, .inl (cc 0, 52, .inl st)), (q5, .inl (cc 0, 104, .inl kept))])) ((fun A => va_Qi (fun (r : Int32) (w : (Nat → Int32) × Int32 × Int32) => r = ret ∧ w = (o_st, o_acts, o_keeps)) (fun (w : (Nat → Int32) × Int32 × Int32) t => va_P (dC, dI) classes [(q0, .inr (10, [.int feetMany, .ref q1, .int log_, .int block, .ref q2, .int stocking, .ref q3, .int w.2.1, .ref q4, .int w.2.2, .ref q5, .int hears, .ref q6, .ref q7, .int texted, .int at_, .ref q8, .ref q9, .int readFeetMany, .ref q10, .int readLog, .int readBlock, .ref q11, .int readStocking, .ref q12, .int lefts_, .int rights_, .ref q13, .ref q14, .ref q15, .ref q16, .ref q17])), (q3, .inl (cc 0, 52, .inl w.1)), (q5, .inl (cc 0, 104, .inl kept))] t.heap) A) (va_A [(q0, .inr (10, [.int feetMany, .ref q1, .int log_, .int block, .ref q2, .int stocking, .ref q3, .int acts, .ref q4, .int keeps, .ref q5, .int hears, .ref q6, .ref q7, .int texted, .int at_, .ref q8, .ref q9, .int readFeetMany, .ref q10, .int readLog, .int readBlock, .ref q11, .int readStocking, .ref q12, .int lefts_, .int rights_, .ref q13, .ref q14, .ref q15, .ref q16, .ref q17])), (q3, .inl (cc 0, 52, .inl st)), (q5, .inl (cc 0, 104, .inl kept))] sz)) 0 0 (va_A [(q0, .inr (10, [.int feetMany, .ref q1, .int log_, .int block, .ref q2, .int stocking, .ref q3, .int acts, .ref q4, .int keeps, .ref q5, .int hears, .ref q6, .ref q7, .int texted, .int at_, .ref q8, .ref q9, .int readFeetMany, .ref q10, .int readLog, .int readBlock, .ref q11, .int readStocking, .ref q12, .int lefts_, .int rights_, .ref q13, .ref q14, .ref q15, .ref q16, .ref q17])), (q3, .inl (cc 0, 52, .inl st)), (q5, .inl (cc 0, 104, .inl kept))] sz) := by
  refine met_go (Qc := fun A => va_Qi (fun (r : Int32) (w : (Nat → Int32) × Int32 × Int32) => r = ret ∧ w = (o_st, o_acts, o_keeps)) (fun (w : (Nat → Int32) × Int32 × Int32) t => va_P (dC, dI) classes [(q0, .inr (10, [.int feetMany, .ref q1, .int log_, .int block, .ref q2, .int stocking, .ref q3, .int w.2.1, .ref q4, .int w.2.2, .ref q5, .int hears, .ref q6, .ref q7, .int texted, .int at_, .ref q8, .ref q9, .int readFeetMany, .ref q10, .int readLog, .int readBlock, .ref q11, .int readStocking, .ref q12, .int lefts_, .int rights_, .ref q13, .ref q14, .ref q15, .ref q16, .ref q17])), (q3, .inl (cc 0, 52, .inl w.1)), (q5, .inl (cc 0, 104, .inl kept))] t.heap) A) (by decide) (Nat.le_of_ble_eq_true rfl) ?_
  intro p e s m below meth c A ls H locs hC hr hlk hin hA hP hl _
  have hC : CX p m c cX10_back 1 s ([.ref q0] : List Value).toArray RX10 (dC, dI) (ts cc) := hC
  have hx := hC.1.1
  have hb := hC.1.2
  have h := hu
  have hu0 := hu
  unfold f_X10_back at h
  have hl : lv_has ls 1 [(0, .ref q0)] := hl
  refine lv_aload_n hx hb dX10_back_0 rfl (lv_at hl 0 rfl) ?_
  refine g_get hC hP fg_X10_163 0 rfl rfl dX10_back_1 ?_
  refine lv_if_ne (tgt := 10) hx hb dX10_back_4 (by decide) (fun c1 => ?_) (fun c1 => ?_)
  · have h := if_f c1 h
    refine lv_aload_n hx hb dX10_back_10 rfl (lv_at hl 0 rfl) ?_
    refine lv_dup hx hb dX10_back_11 rfl ?_
    refine g_get hC hP fg_X10_163 0 rfl rfl dX10_back_12 ?_
    refine lv_iconst (v := 1) hx hb dX10_back_15 (by decide) ?_
    refine lv_isub hx hb dX10_back_16 ?_
    refine g_put hC hP fg_X10_163 0 rfl rfl rfl (Nat.le_of_ble_eq_true rfl) dX10_back_17 (fun H locs hP => ?_)
    have hP : PD (dC, dI) A s.heap [(q0, .inr (10, [.int feetMany, .ref q1, .int log_, .int block, .ref q2, .int stocking, .ref q3, .int acts, .ref q4, .int (keeps - 1), .ref q5, .int hears, .ref q6, .ref q7, .int texted, .int at_, .ref q8, .ref q9, .int readFeetMany, .ref q10, .int readLog, .int readBlock, .ref q11, .int readStocking, .ref q12, .int lefts_, .int rights_, .ref q13, .ref q14, .ref q15, .ref q16, .ref q17])), (q3, .inl (cc 0, 52, .inl st)), (q5, .inl (cc 0, 104, .inl kept))] H locs := hP
    refine lv_aload_n hx hb dX10_back_20 rfl (lv_at hl 0 rfl) ?_
    refine g_get hC hP fg_X10_17 0 rfl rfl dX10_back_21 ?_
    refine lv_iconst (v := 0) hx hb dX10_back_24 (by decide) ?_
    refine lv_aload_n hx hb dX10_back_25 rfl (lv_at hl 0 rfl) ?_
    refine g_get hC hP fg_X10_23 0 rfl rfl dX10_back_26 ?_
    refine lv_bipush (v := 52) hx hb dX10_back_29 (by decide) ?_
    refine lv_aload_n hx hb dX10_back_31 rfl (lv_at hl 0 rfl) ?_
    refine g_get hC hP fg_X10_163 0 rfl rfl dX10_back_32 ?_
    refine lv_imul hx hb dX10_back_35 ?_
    refine lv_bipush (v := 52) hx hb dX10_back_36 (by decide) ?_
    obtain ⟨w2, hu, h⟩ := bnd_h h
    refine kc_v (kS hC (c_X10_copies l dC dI cc q3 q5 52 104 st kept 0 (52 * (keeps - 1)) 52 H.size w2 hu) cs_X10_144 kw807 rfl rfl ⟨(Nat.le_of_ble_eq_true rfl), (Nat.le_of_ble_eq_true rfl)⟩ hP [1, 2] rfl rfl (As := [.ref q3, .int 0, .ref q5, .int (52 * (keeps - 1)), .int 52]) (rest := []) rfl rfl hl.1 (Nat.le_of_ble_eq_true rfl) dX10_back_38 ⟨Nat.zero_le _, Nat.zero_le _⟩) hP hA [1, 2] rfl rfl (fun H locs hP => ?_)
    have hP : PD (dC, dI) A s.heap [(q0, .inr (10, [.int feetMany, .ref q1, .int log_, .int block, .ref q2, .int stocking, .ref q3, .int acts, .ref q4, .int (keeps - 1), .ref q5, .int hears, .ref q6, .ref q7, .int texted, .int at_, .ref q8, .ref q9, .int readFeetMany, .ref q10, .int readLog, .int readBlock, .ref q11, .int readStocking, .ref q12, .int lefts_, .int rights_, .ref q13, .ref q14, .ref q15, .ref q16, .ref q17])), (q3, .inl (cc 0, 52, .inl w2)), (q5, .inl (cc 0, 104, .inl kept))] H locs := hP
    refine lv_aload_n hx hb dX10_back_41 rfl (lv_at hl 0 rfl) ?_
    refine lv_iconst (v := 0) hx hb dX10_back_42 (by decide) ?_
    refine g_put hC hP fg_X10_160 0 rfl rfl rfl (Nat.le_of_ble_eq_true rfl) dX10_back_43 (fun H locs hP => ?_)
    have hP : PD (dC, dI) A s.heap [(q0, .inr (10, [.int feetMany, .ref q1, .int log_, .int block, .ref q2, .int stocking, .ref q3, .int 0, .ref q4, .int (keeps - 1), .ref q5, .int hears, .ref q6, .ref q7, .int texted, .int at_, .ref q8, .ref q9, .int readFeetMany, .ref q10, .int readLog, .int readBlock, .ref q11, .int readStocking, .ref q12, .int lefts_, .int rights_, .ref q13, .ref q14, .ref q15, .ref q16, .ref q17])), (q3, .inl (cc 0, 52, .inl w2)), (q5, .inl (cc 0, 104, .inl kept))] H locs := hP
    refine lv_aload_n hx hb dX10_back_46 rfl (lv_at hl 0 rfl) ?_
    refine g_get hC hP fg_X10_163 0 rfl rfl dX10_back_47 ?_
    exact ret_i hC hr hlk hP dX10_back_50 (w2, 0, (keeps - 1)) (Prod.mk.inj (Option.some.inj h)) rfl
  · have h := if_t c1 h
    refine lv_bipush (v := -2) hx hb dX10_back_7 (by decide) ?_
    exact ret_i hC hr hlk hP dX10_back_9 (st, acts, keeps) (Prod.mk.inj (Option.some.inj h)) rfl
set_option maxHeartbeats 8000000 in
set_option maxRecDepth 100000 in
theorem c_X10_knots (l : Launch) (dC : Nat → ClassId) (dI : Nat → Nat → Nat) (cc : Nat → ClassId) (q0 q1 q2 q3 q4 q5 q6 q7 q8 q9 q10 q11 q12 q13 q14 q15 q16 q17 : Nat) (feetMany : Int32) (log_ : Int32) (block : Int32) (stocking : Int32) (acts : Int32) (keeps : Int32) (hears : Int32) (texted : Int32) (at_ : Int32) (readFeetMany : Int32) (readLog : Int32) (readBlock : Int32) (readStocking : Int32) (lefts_ : Int32) (rights_ : Int32) (knot : (Nat → Int32)) (sz : Nat) (ret : Int32) (hu : f_X10_knots log_ knot = some ret) : Met l yX10_knots (mw yX10_knots cX10_knots 3 (some .int)) ({ frames := 0, cells := 0, slots := 0, locals := 0 } : Room) (va_Pc [.ref q0] (mP (dC, dI) (ts cc) sz [(q0, .inr (10, [.int feetMany, .ref q1, .int log_, .int block, .ref q2, .int stocking, .ref q3, .int acts, .ref q4, .int keeps, .ref q5, .int hears, .ref q6, .ref q7, .int texted, .int at_, .ref q8, .ref q9, .int readFeetMany, .ref q10, .int readLog, .int readBlock, .ref q11, .int readStocking, .ref q12, .int lefts_, .int rights_, .ref q13, .ref q14, .ref q15, .ref q16, .ref q17])), (q2, .inl (cc 2, 40, .inl knot))])) ((fun A => va_Qi (fun (r : Int32) (w : Unit) => r = ret ∧ w = ()) (fun (w : Unit) t => va_P (dC, dI) classes [(q0, .inr (10, [.int feetMany, .ref q1, .int log_, .int block, .ref q2, .int stocking, .ref q3, .int acts, .ref q4, .int keeps, .ref q5, .int hears, .ref q6, .ref q7, .int texted, .int at_, .ref q8, .ref q9, .int readFeetMany, .ref q10, .int readLog, .int readBlock, .ref q11, .int readStocking, .ref q12, .int lefts_, .int rights_, .ref q13, .ref q14, .ref q15, .ref q16, .ref q17])), (q2, .inl (cc 2, 40, .inl knot))] t.heap) A) (va_A [(q0, .inr (10, [.int feetMany, .ref q1, .int log_, .int block, .ref q2, .int stocking, .ref q3, .int acts, .ref q4, .int keeps, .ref q5, .int hears, .ref q6, .ref q7, .int texted, .int at_, .ref q8, .ref q9, .int readFeetMany, .ref q10, .int readLog, .int readBlock, .ref q11, .int readStocking, .ref q12, .int lefts_, .int rights_, .ref q13, .ref q14, .ref q15, .ref q16, .ref q17])), (q2, .inl (cc 2, 40, .inl knot))] sz)) 0 0 (va_A [(q0, .inr (10, [.int feetMany, .ref q1, .int log_, .int block, .ref q2, .int stocking, .ref q3, .int acts, .ref q4, .int keeps, .ref q5, .int hears, .ref q6, .ref q7, .int texted, .int at_, .ref q8, .ref q9, .int readFeetMany, .ref q10, .int readLog, .int readBlock, .ref q11, .int readStocking, .ref q12, .int lefts_, .int rights_, .ref q13, .ref q14, .ref q15, .ref q16, .ref q17])), (q2, .inl (cc 2, 40, .inl knot))] sz) := by
  refine met_go (Qc := fun A => va_Qi (fun (r : Int32) (w : Unit) => r = ret ∧ w = ()) (fun (w : Unit) t => va_P (dC, dI) classes [(q0, .inr (10, [.int feetMany, .ref q1, .int log_, .int block, .ref q2, .int stocking, .ref q3, .int acts, .ref q4, .int keeps, .ref q5, .int hears, .ref q6, .ref q7, .int texted, .int at_, .ref q8, .ref q9, .int readFeetMany, .ref q10, .int readLog, .int readBlock, .ref q11, .int readStocking, .ref q12, .int lefts_, .int rights_, .ref q13, .ref q14, .ref q15, .ref q16, .ref q17])), (q2, .inl (cc 2, 40, .inl knot))] t.heap) A) (by decide) (Nat.le_of_ble_eq_true rfl) ?_
  intro p e s m below meth c A ls H locs hC hr hlk hin hA hP hl _
  have hC : CX p m c cX10_knots 3 s ([.ref q0] : List Value).toArray RX10 (dC, dI) (ts cc) := hC
  have hx := hC.1.1
  have hb := hC.1.2
  have h := hu
  have hu0 := hu
  unfold f_X10_knots at h
  have hl : lv_has ls 3 [(0, .ref q0)] := hl
  refine W_abs (fun Z eZ => ?_)
  refine lv_iconst (v := 0) hx hb dX10_knots_0 (by decide) ?_
  refine lv_istore_n (lv' := [(1, .int 0), (0, .ref q0)]) hx hb dX10_knots_1 rfl hl (by decide) rfl (fun ls hl => ?_)
  refine lv_iconst (v := 0) hx hb dX10_knots_2 (by decide) ?_
  refine lv_istore_n (lv' := [(2, .int 0), (1, .int 0), (0, .ref q0)]) hx hb dX10_knots_3 rfl hl (by decide) rfl (fun ls hl => ?_)
  obtain ⟨⟨j1x, j2x⟩, hlp, h⟩ := bnd_h h
  have L1 : ∀ (n : Nat) (j1 : Int32) (j2 : Int32) (j1x : Int32) (j2x : Int32), lp (u2 (b_X10_knots_1 knot log_)) n (j1, j2) = some (j1x, j2x) → ∀ (H : Heap) (locs : List Loc) (ls : Array Slot), PD (dC, dI) A s.heap [(q0, .inr (10, [.int feetMany, .ref q1, .int log_, .int block, .ref q2, .int stocking, .ref q3, .int acts, .ref q4, .int keeps, .ref q5, .int hears, .ref q6, .ref q7, .int texted, .int at_, .ref q8, .ref q9, .int readFeetMany, .ref q10, .int readLog, .int readBlock, .ref q11, .int readStocking, .ref q12, .int lefts_, .int rights_, .ref q13, .ref q14, .ref q15, .ref q16, .ref q17])), (q2, .inl (cc 2, 40, .inl knot))] H locs → lv_has ls 3 [(0, .ref q0), (1, .int j1), (2, .int j2)] → (∀ (H : Heap) (locs : List Loc) (ls : Array Slot), PD (dC, dI) A s.heap [(q0, .inr (10, [.int feetMany, .ref q1, .int log_, .int block, .ref q2, .int stocking, .ref q3, .int acts, .ref q4, .int keeps, .ref q5, .int hears, .ref q6, .ref q7, .int texted, .int at_, .ref q8, .ref q9, .int readFeetMany, .ref q10, .int readLog, .int readBlock, .ref q11, .int readStocking, .ref q12, .int lefts_, .int rights_, .ref q13, .ref q14, .ref q15, .ref q16, .ref q17])), (q2, .inl (cc 2, 40, .inl knot))] H locs → lv_has ls 3 [(0, .ref q0), (1, .int j1x), (2, .int j2x)] → W p l e ({ frames := 0, cells := 0, slots := 0, locals := 0 } : Room) s m ([.ref q0] : List Value).toArray below meth c H locs 0 0 Z (F0 m 35 ls [])) → W p l e ({ frames := 0, cells := 0, slots := 0, locals := 0 } : Room) s m ([.ref q0] : List Value).toArray below meth c H locs 0 0 Z (F0 m 4 ls []) := by
    intro n
    induction n with
    | zero => intro j1 j2 j1x j2x h; exact (lp_0 h).elim
    | succ n ih =>
      intro j1 j2 j1x j2x h H locs ls hP hl KK
      obtain ⟨y, h, hz⟩ := lp_h h
      refine lv_iload_n hx hb dX10_knots_4 rfl (lv_at hl 2 rfl) ?_
      refine lv_aload_n hx hb dX10_knots_5 rfl (lv_at hl 0 rfl) ?_
      refine g_get hC hP fg_X10_151 0 rfl rfl dX10_knots_6 ?_
      refine lv_icmp_ge (tgt := 35) hx hb dX10_knots_9 (by decide) (fun c3 => ?_) (fun c3 => ?_)
      · have h := if_t c3 h
        cases lp_e h hz
        exact KK H locs ls hP (lv_sub hl [0, 1, 2] rfl)
      · have h := if_f c3 h
        refine lv_iload_n hx hb dX10_knots_12 rfl (lv_at hl 1 rfl) ?_
        refine lv_aload_n hx hb dX10_knots_13 rfl (lv_at hl 0 rfl) ?_
        refine g_get hC hP fg_X10_13 0 rfl rfl dX10_knots_14 ?_
        refine lv_iload_n hx hb dX10_knots_17 rfl (lv_at hl 2 rfl) ?_
        obtain ⟨hin, h⟩ := rd_h h
        refine g_zald hC hP 1 2 rfl rfl hin dX10_knots_18 (fun v4 ev => ?_)
        have h := h v4 ev
        refine lv_if_eq (tgt := 26) hx hb dX10_knots_19 (by decide) (fun c5 => ?_) (fun c5 => ?_)
        · have h := if_t c5 h
          refine lv_iconst (v := 0) hx hb dX10_knots_26 (by decide) ?_
          refine lv_iadd hx hb dX10_knots_27 ?_
          refine lv_istore_n (lv' := [(1, .int (j1 + 0)), (0, .ref q0), (2, .int j2)]) hx hb dX10_knots_28 rfl hl (by decide) rfl (fun ls hl => ?_)
          refine lv_iinc (v := (j2 + 1)) (lv' := [(2, .int (j2 + 1)), (1, .int (j1 + 0)), (0, .ref q0)]) hx hb dX10_knots_29 hl (k := 2) rfl rfl (by decide) rfl (fun ls hl => ?_)
          refine lv_goto (tgt := 4) hx hb dX10_knots_32 (by decide) ?_
          exact ih _ _ _ _ (lp_n h hz) H locs ls hP (lv_sub hl [2, 1, 0] rfl) KK
        · have h := if_f c5 h
          refine lv_iconst (v := 1) hx hb dX10_knots_22 (by decide) ?_
          refine lv_goto (tgt := 27) hx hb dX10_knots_23 (by decide) ?_
          refine lv_iadd hx hb dX10_knots_27 ?_
          refine lv_istore_n (lv' := [(1, .int (j1 + 1)), (0, .ref q0), (2, .int j2)]) hx hb dX10_knots_28 rfl hl (by decide) rfl (fun ls hl => ?_)
          refine lv_iinc (v := (j2 + 1)) (lv' := [(2, .int (j2 + 1)), (1, .int (j1 + 1)), (0, .ref q0)]) hx hb dX10_knots_29 hl (k := 2) rfl rfl (by decide) rfl (fun ls hl => ?_)
          refine lv_goto (tgt := 4) hx hb dX10_knots_32 (by decide) ?_
          exact ih _ _ _ _ (lp_n h hz) H locs ls hP (lv_sub hl [2, 1, 0] rfl) KK
  refine L1 FU _ _ j1x j2x hlp H locs ls hP (lv_sub hl [2, 1, 0] rfl) (fun H locs ls hP hl => ?_)
  refine lv_iload_n hx hb dX10_knots_35 rfl (lv_at hl 1 rfl) ?_
  rw [eZ]
  exact ret_i hC hr hlk hP dX10_knots_36 () (⟨Option.some.inj h, rfl⟩) rfl
set_option maxHeartbeats 8000000 in
set_option maxRecDepth 100000 in
theorem c_X10_holed (l : Launch) (dC : Nat → ClassId) (dI : Nat → Nat → Nat) (cc : Nat → ClassId) (q0 q1 q2 q3 q4 q5 q6 q7 q8 q9 q10 q11 q12 q13 q14 q15 q16 q17 : Nat) (feetMany : Int32) (log_ : Int32) (block : Int32) (stocking : Int32) (acts : Int32) (keeps : Int32) (hears : Int32) (texted : Int32) (at_ : Int32) (readFeetMany : Int32) (readLog : Int32) (readBlock : Int32) (readStocking : Int32) (lefts_ : Int32) (rights_ : Int32) (st : (Nat → Int32)) (sz : Nat) (ret : Int32) (hu : f_X10_holed st = some ret) : Met l yX10_holed (mw yX10_holed cX10_holed 3 (some .int)) ({ frames := 0, cells := 0, slots := 0, locals := 0 } : Room) (va_Pc [.ref q0] (mP (dC, dI) (ts cc) sz [(q0, .inr (10, [.int feetMany, .ref q1, .int log_, .int block, .ref q2, .int stocking, .ref q3, .int acts, .ref q4, .int keeps, .ref q5, .int hears, .ref q6, .ref q7, .int texted, .int at_, .ref q8, .ref q9, .int readFeetMany, .ref q10, .int readLog, .int readBlock, .ref q11, .int readStocking, .ref q12, .int lefts_, .int rights_, .ref q13, .ref q14, .ref q15, .ref q16, .ref q17])), (q3, .inl (cc 0, 52, .inl st))])) ((fun A => va_Qi (fun (r : Int32) (w : Unit) => r = ret ∧ w = ()) (fun (w : Unit) t => va_P (dC, dI) classes [(q0, .inr (10, [.int feetMany, .ref q1, .int log_, .int block, .ref q2, .int stocking, .ref q3, .int acts, .ref q4, .int keeps, .ref q5, .int hears, .ref q6, .ref q7, .int texted, .int at_, .ref q8, .ref q9, .int readFeetMany, .ref q10, .int readLog, .int readBlock, .ref q11, .int readStocking, .ref q12, .int lefts_, .int rights_, .ref q13, .ref q14, .ref q15, .ref q16, .ref q17])), (q3, .inl (cc 0, 52, .inl st))] t.heap) A) (va_A [(q0, .inr (10, [.int feetMany, .ref q1, .int log_, .int block, .ref q2, .int stocking, .ref q3, .int acts, .ref q4, .int keeps, .ref q5, .int hears, .ref q6, .ref q7, .int texted, .int at_, .ref q8, .ref q9, .int readFeetMany, .ref q10, .int readLog, .int readBlock, .ref q11, .int readStocking, .ref q12, .int lefts_, .int rights_, .ref q13, .ref q14, .ref q15, .ref q16, .ref q17])), (q3, .inl (cc 0, 52, .inl st))] sz)) 0 0 (va_A [(q0, .inr (10, [.int feetMany, .ref q1, .int log_, .int block, .ref q2, .int stocking, .ref q3, .int acts, .ref q4, .int keeps, .ref q5, .int hears, .ref q6, .ref q7, .int texted, .int at_, .ref q8, .ref q9, .int readFeetMany, .ref q10, .int readLog, .int readBlock, .ref q11, .int readStocking, .ref q12, .int lefts_, .int rights_, .ref q13, .ref q14, .ref q15, .ref q16, .ref q17])), (q3, .inl (cc 0, 52, .inl st))] sz) := by
  refine met_go (Qc := fun A => va_Qi (fun (r : Int32) (w : Unit) => r = ret ∧ w = ()) (fun (w : Unit) t => va_P (dC, dI) classes [(q0, .inr (10, [.int feetMany, .ref q1, .int log_, .int block, .ref q2, .int stocking, .ref q3, .int acts, .ref q4, .int keeps, .ref q5, .int hears, .ref q6, .ref q7, .int texted, .int at_, .ref q8, .ref q9, .int readFeetMany, .ref q10, .int readLog, .int readBlock, .ref q11, .int readStocking, .ref q12, .int lefts_, .int rights_, .ref q13, .ref q14, .ref q15, .ref q16, .ref q17])), (q3, .inl (cc 0, 52, .inl st))] t.heap) A) (by decide) (Nat.le_of_ble_eq_true rfl) ?_
  intro p e s m below meth c A ls H locs hC hr hlk hin hA hP hl _
  have hC : CX p m c cX10_holed 3 s ([.ref q0] : List Value).toArray RX10 (dC, dI) (ts cc) := hC
  have hx := hC.1.1
  have hb := hC.1.2
  have h := hu
  have hu0 := hu
  unfold f_X10_holed at h
  have hl : lv_has ls 3 [(0, .ref q0)] := hl
  refine W_abs (fun Z eZ => ?_)
  refine lv_iconst (v := 0) hx hb dX10_holed_0 (by decide) ?_
  refine lv_istore_n (lv' := [(1, .int 0), (0, .ref q0)]) hx hb dX10_holed_1 rfl hl (by decide) rfl (fun ls hl => ?_)
  refine lv_iconst (v := 0) hx hb dX10_holed_2 (by decide) ?_
  refine lv_istore_n (lv' := [(2, .int 0), (1, .int 0), (0, .ref q0)]) hx hb dX10_holed_3 rfl hl (by decide) rfl (fun ls hl => ?_)
  obtain ⟨⟨j1x, j2x⟩, hlp, h⟩ := bnd_h h
  have L1 : ∀ (n : Nat) (j1 : Int32) (j2 : Int32) (j1x : Int32) (j2x : Int32), lp (u2 (b_X10_holed_1 st)) n (j1, j2) = some (j1x, j2x) → ∀ (H : Heap) (locs : List Loc) (ls : Array Slot), PD (dC, dI) A s.heap [(q0, .inr (10, [.int feetMany, .ref q1, .int log_, .int block, .ref q2, .int stocking, .ref q3, .int acts, .ref q4, .int keeps, .ref q5, .int hears, .ref q6, .ref q7, .int texted, .int at_, .ref q8, .ref q9, .int readFeetMany, .ref q10, .int readLog, .int readBlock, .ref q11, .int readStocking, .ref q12, .int lefts_, .int rights_, .ref q13, .ref q14, .ref q15, .ref q16, .ref q17])), (q3, .inl (cc 0, 52, .inl st))] H locs → lv_has ls 3 [(0, .ref q0), (1, .int j1), (2, .int j2)] → (∀ (H : Heap) (locs : List Loc) (ls : Array Slot), PD (dC, dI) A s.heap [(q0, .inr (10, [.int feetMany, .ref q1, .int log_, .int block, .ref q2, .int stocking, .ref q3, .int acts, .ref q4, .int keeps, .ref q5, .int hears, .ref q6, .ref q7, .int texted, .int at_, .ref q8, .ref q9, .int readFeetMany, .ref q10, .int readLog, .int readBlock, .ref q11, .int readStocking, .ref q12, .int lefts_, .int rights_, .ref q13, .ref q14, .ref q15, .ref q16, .ref q17])), (q3, .inl (cc 0, 52, .inl st))] H locs → lv_has ls 3 [(0, .ref q0), (1, .int j1x), (2, .int j2x)] → W p l e ({ frames := 0, cells := 0, slots := 0, locals := 0 } : Room) s m ([.ref q0] : List Value).toArray below meth c H locs 0 0 Z (F0 m 42 ls [])) → W p l e ({ frames := 0, cells := 0, slots := 0, locals := 0 } : Room) s m ([.ref q0] : List Value).toArray below meth c H locs 0 0 Z (F0 m 4 ls []) := by
    intro n
    induction n with
    | zero => intro j1 j2 j1x j2x h; exact (lp_0 h).elim
    | succ n ih =>
      intro j1 j2 j1x j2x h H locs ls hP hl KK
      obtain ⟨y, h, hz⟩ := lp_h h
      refine lv_iload_n hx hb dX10_holed_4 rfl (lv_at hl 2 rfl) ?_
      refine lv_aload_n hx hb dX10_holed_5 rfl (lv_at hl 0 rfl) ?_
      refine g_get hC hP fg_X10_17 0 rfl rfl dX10_holed_6 ?_
      refine lv_iconst (v := 1) hx hb dX10_holed_9 (by decide) ?_
      obtain ⟨hin, h⟩ := rd_h h
      refine g_iald hC hP 1 0 rfl rfl hin dX10_holed_10 (fun v3 ev => ?_)
      have h := h v3 ev
      refine lv_icmp_ge (tgt := 42) hx hb dX10_holed_11 (by decide) (fun c4 => ?_) (fun c4 => ?_)
      · have h := if_t c4 h
        cases lp_e h hz
        exact KK H locs ls hP (lv_sub hl [0, 1, 2] rfl)
      · have h := if_f c4 h
        refine lv_iload_n hx hb dX10_holed_14 rfl (lv_at hl 1 rfl) ?_
        refine lv_aload_n hx hb dX10_holed_15 rfl (lv_at hl 0 rfl) ?_
        refine g_get hC hP fg_X10_17 0 rfl rfl dX10_holed_16 ?_
        refine lv_iconst (v := 2) hx hb dX10_holed_19 (by decide) ?_
        refine lv_iconst (v := 5) hx hb dX10_holed_20 (by decide) ?_
        refine lv_iload_n hx hb dX10_holed_21 rfl (lv_at hl 2 rfl) ?_
        refine lv_imul hx hb dX10_holed_22 ?_
        refine lv_iadd hx hb dX10_holed_23 ?_
        obtain ⟨hin, h⟩ := rd_h h
        refine g_iald hC hP 1 0 rfl rfl hin dX10_holed_24 (fun v5 ev => ?_)
        have h := h v5 ev
        refine lv_iconst (v := 2) hx hb dX10_holed_25 (by decide) ?_
        refine lv_icmp_ne (tgt := 33) hx hb dX10_holed_26 (by decide) (fun c6 => ?_) (fun c6 => ?_)
        · have h := if_f c6 h
          refine lv_iconst (v := 0) hx hb dX10_holed_33 (by decide) ?_
          refine lv_iadd hx hb dX10_holed_34 ?_
          refine lv_istore_n (lv' := [(1, .int (j1 + 0)), (0, .ref q0), (2, .int j2)]) hx hb dX10_holed_35 rfl hl (by decide) rfl (fun ls hl => ?_)
          refine lv_iinc (v := (j2 + 1)) (lv' := [(2, .int (j2 + 1)), (1, .int (j1 + 0)), (0, .ref q0)]) hx hb dX10_holed_36 hl (k := 2) rfl rfl (by decide) rfl (fun ls hl => ?_)
          refine lv_goto (tgt := 4) hx hb dX10_holed_39 (by decide) ?_
          exact ih _ _ _ _ (lp_n h hz) H locs ls hP (lv_sub hl [2, 1, 0] rfl) KK
        · have h := if_t c6 h
          refine lv_iconst (v := 1) hx hb dX10_holed_29 (by decide) ?_
          refine lv_goto (tgt := 34) hx hb dX10_holed_30 (by decide) ?_
          refine lv_iadd hx hb dX10_holed_34 ?_
          refine lv_istore_n (lv' := [(1, .int (j1 + 1)), (0, .ref q0), (2, .int j2)]) hx hb dX10_holed_35 rfl hl (by decide) rfl (fun ls hl => ?_)
          refine lv_iinc (v := (j2 + 1)) (lv' := [(2, .int (j2 + 1)), (1, .int (j1 + 1)), (0, .ref q0)]) hx hb dX10_holed_36 hl (k := 2) rfl rfl (by decide) rfl (fun ls hl => ?_)
          refine lv_goto (tgt := 4) hx hb dX10_holed_39 (by decide) ?_
          exact ih _ _ _ _ (lp_n h hz) H locs ls hP (lv_sub hl [2, 1, 0] rfl) KK
  refine L1 FU _ _ j1x j2x hlp H locs ls hP (lv_sub hl [2, 1, 0] rfl) (fun H locs ls hP hl => ?_)
  refine lv_iload_n hx hb dX10_holed_42 rfl (lv_at hl 1 rfl) ?_
  rw [eZ]
  exact ret_i hC hr hlk hP dX10_holed_43 () (⟨Option.some.inj h, rfl⟩) rfl
set_option maxHeartbeats 8000000 in
set_option maxRecDepth 100000 in
theorem c_X10_count (l : Launch) (dC : Nat → ClassId) (dI : Nat → Nat → Nat) (cc : Nat → ClassId) (q0 q1 q2 q3 q4 q5 q6 q7 q8 q9 q10 q11 q12 q13 q14 q15 q16 q17 : Nat) (feetMany : Int32) (log_ : Int32) (block : Int32) (stocking : Int32) (acts : Int32) (keeps : Int32) (hears : Int32) (texted : Int32) (at_ : Int32) (readFeetMany : Int32) (readLog : Int32) (readBlock : Int32) (readStocking : Int32) (lefts_ : Int32) (rights_ : Int32) (knot : (Nat → Int32)) (st : (Nat → Int32)) (x1 : Int32) (sz : Nat) (ret : Int32) (hu : f_X10_count x1 feetMany log_ stocking acts keeps hears texted knot st = some ret) : Met l yX10_count (mw yX10_count cX10_count 2 (some .int)) ({ frames := 1, cells := 0, slots := 0, locals := 22 } : Room) (va_Pc [.ref q0, .int x1] (mP (dC, dI) (ts cc) sz [(q0, .inr (10, [.int feetMany, .ref q1, .int log_, .int block, .ref q2, .int stocking, .ref q3, .int acts, .ref q4, .int keeps, .ref q5, .int hears, .ref q6, .ref q7, .int texted, .int at_, .ref q8, .ref q9, .int readFeetMany, .ref q10, .int readLog, .int readBlock, .ref q11, .int readStocking, .ref q12, .int lefts_, .int rights_, .ref q13, .ref q14, .ref q15, .ref q16, .ref q17])), (q2, .inl (cc 2, 40, .inl knot)), (q3, .inl (cc 0, 52, .inl st))])) ((fun A => va_Qi (fun (r : Int32) (w : Unit) => r = ret ∧ w = ()) (fun (w : Unit) t => va_P (dC, dI) classes [(q0, .inr (10, [.int feetMany, .ref q1, .int log_, .int block, .ref q2, .int stocking, .ref q3, .int acts, .ref q4, .int keeps, .ref q5, .int hears, .ref q6, .ref q7, .int texted, .int at_, .ref q8, .ref q9, .int readFeetMany, .ref q10, .int readLog, .int readBlock, .ref q11, .int readStocking, .ref q12, .int lefts_, .int rights_, .ref q13, .ref q14, .ref q15, .ref q16, .ref q17])), (q2, .inl (cc 2, 40, .inl knot)), (q3, .inl (cc 0, 52, .inl st))] t.heap) A) (va_A [(q0, .inr (10, [.int feetMany, .ref q1, .int log_, .int block, .ref q2, .int stocking, .ref q3, .int acts, .ref q4, .int keeps, .ref q5, .int hears, .ref q6, .ref q7, .int texted, .int at_, .ref q8, .ref q9, .int readFeetMany, .ref q10, .int readLog, .int readBlock, .ref q11, .int readStocking, .ref q12, .int lefts_, .int rights_, .ref q13, .ref q14, .ref q15, .ref q16, .ref q17])), (q2, .inl (cc 2, 40, .inl knot)), (q3, .inl (cc 0, 52, .inl st))] sz)) 0 0 (va_A [(q0, .inr (10, [.int feetMany, .ref q1, .int log_, .int block, .ref q2, .int stocking, .ref q3, .int acts, .ref q4, .int keeps, .ref q5, .int hears, .ref q6, .ref q7, .int texted, .int at_, .ref q8, .ref q9, .int readFeetMany, .ref q10, .int readLog, .int readBlock, .ref q11, .int readStocking, .ref q12, .int lefts_, .int rights_, .ref q13, .ref q14, .ref q15, .ref q16, .ref q17])), (q2, .inl (cc 2, 40, .inl knot)), (q3, .inl (cc 0, 52, .inl st))] sz) := by
  refine met_go (Qc := fun A => va_Qi (fun (r : Int32) (w : Unit) => r = ret ∧ w = ()) (fun (w : Unit) t => va_P (dC, dI) classes [(q0, .inr (10, [.int feetMany, .ref q1, .int log_, .int block, .ref q2, .int stocking, .ref q3, .int acts, .ref q4, .int keeps, .ref q5, .int hears, .ref q6, .ref q7, .int texted, .int at_, .ref q8, .ref q9, .int readFeetMany, .ref q10, .int readLog, .int readBlock, .ref q11, .int readStocking, .ref q12, .int lefts_, .int rights_, .ref q13, .ref q14, .ref q15, .ref q16, .ref q17])), (q2, .inl (cc 2, 40, .inl knot)), (q3, .inl (cc 0, 52, .inl st))] t.heap) A) (by decide) (Nat.le_of_ble_eq_true rfl) ?_
  intro p e s m below meth c A ls H locs hC hr hlk hin hA hP hl _
  have hC : CX p m c cX10_count 2 s ([.ref q0, .int x1] : List Value).toArray RX10 (dC, dI) (ts cc) := hC
  have hx := hC.1.1
  have hb := hC.1.2
  have h := hu
  have hu0 := hu
  unfold f_X10_count at h
  have hl : lv_has ls 2 [(0, .ref q0), (1, .int x1)] := hl
  refine lv_iload_n hx hb dX10_count_0 rfl (lv_at hl 1 rfl) ?_
  by_cases c1 : x1 = 0
  · have h := if_t c1 h
    refine lv_tableIn (tgt := 56) hx hb dX10_count_1 (by rw [c1]; decide) (by rw [c1]; decide) (by first | (rw [c1]; done) | (rw [c1]; rfl)) (by decide) ?_
    refine lv_aload_n hx hb dX10_count_56 rfl (lv_at hl 0 rfl) ?_
    refine g_get hC hP fg_X10_17 0 rfl rfl dX10_count_57 ?_
    refine lv_iconst (v := 1) hx hb dX10_count_60 (by decide) ?_
    obtain ⟨hin, h⟩ := rd_h h
    refine g_iald hC hP 2 0 rfl rfl hin dX10_count_61 (fun v2 ev => ?_)
    have h := h v2 ev
    exact ret_i hC hr hlk hP dX10_count_62 () (⟨Option.some.inj h, rfl⟩) rfl
  · have h := if_f c1 h
    by_cases c3 : x1 = 1
    · have h := if_t c3 h
      refine lv_tableIn (tgt := 63) hx hb dX10_count_1 (by rw [c3]; decide) (by rw [c3]; decide) (by first | (rw [c3]; done) | (rw [c3]; rfl)) (by decide) ?_
      refine lv_aload_n hx hb dX10_count_63 rfl (lv_at hl 0 rfl) ?_
      refine g_get hC hP fg_X10_148 0 rfl rfl dX10_count_64 ?_
      exact ret_i hC hr hlk hP dX10_count_67 () (⟨Option.some.inj h, rfl⟩) rfl
    · have h := if_f c3 h
      by_cases c4 : x1 = 2
      · have h := if_t c4 h
        refine lv_tableIn (tgt := 68) hx hb dX10_count_1 (by rw [c4]; decide) (by rw [c4]; decide) (by first | (rw [c4]; done) | (rw [c4]; rfl)) (by decide) ?_
        refine lv_aload_n hx hb dX10_count_68 rfl (lv_at hl 0 rfl) ?_
        refine g_get hC hP fg_X10_17 0 rfl rfl dX10_count_69 ?_
        refine lv_iconst (v := 0) hx hb dX10_count_72 (by decide) ?_
        obtain ⟨hin, h⟩ := rd_h h
        refine g_iald hC hP 2 0 rfl rfl hin dX10_count_73 (fun v5 ev => ?_)
        have h := h v5 ev
        exact ret_i hC hr hlk hP dX10_count_74 () (⟨Option.some.inj h, rfl⟩) rfl
      · have h := if_f c4 h
        by_cases c6 : x1 = 3
        · have h := if_t c6 h
          refine lv_tableIn (tgt := 75) hx hb dX10_count_1 (by rw [c6]; decide) (by rw [c6]; decide) (by first | (rw [c6]; done) | (rw [c6]; rfl)) (by decide) ?_
          refine lv_aload_n hx hb dX10_count_75 rfl (lv_at hl 0 rfl) ?_
          obtain ⟨r7, hu, h⟩ := bnd_h h
          refine kc_i (kV hC (c_X10_knots l dC dI cc q0 q1 q2 q3 q4 q5 q6 q7 q8 q9 q10 q11 q12 q13 q14 q15 q16 q17 feetMany log_ block stocking acts keeps hears texted at_ readFeetMany readLog readBlock readStocking lefts_ rights_ knot H.size r7 hu) cv_X10_252 kw1155 rfl rfl ⟨(Nat.le_of_ble_eq_true rfl), (Nat.le_of_ble_eq_true rfl)⟩ hP [0, 1] rfl rfl rfl (q0 := 0) rfl (As := []) (rest := []) rfl rfl hl.1 (Nat.le_of_ble_eq_true rfl) dX10_count_76 ⟨Nat.zero_le _, Nat.zero_le _⟩) hP hA [0, 1] rfl rfl (fun H locs hP => ?_)
          have hP : PD (dC, dI) A s.heap [(q0, .inr (10, [.int feetMany, .ref q1, .int log_, .int block, .ref q2, .int stocking, .ref q3, .int acts, .ref q4, .int keeps, .ref q5, .int hears, .ref q6, .ref q7, .int texted, .int at_, .ref q8, .ref q9, .int readFeetMany, .ref q10, .int readLog, .int readBlock, .ref q11, .int readStocking, .ref q12, .int lefts_, .int rights_, .ref q13, .ref q14, .ref q15, .ref q16, .ref q17])), (q2, .inl (cc 2, 40, .inl knot)), (q3, .inl (cc 0, 52, .inl st))] H locs := hP
          exact ret_i hC hr hlk hP dX10_count_79 () (⟨Option.some.inj h, rfl⟩) rfl
        · have h := if_f c6 h
          by_cases c8 : x1 = 4
          · have h := if_t c8 h
            refine lv_tableIn (tgt := 80) hx hb dX10_count_1 (by rw [c8]; decide) (by rw [c8]; decide) (by first | (rw [c8]; done) | (rw [c8]; rfl)) (by decide) ?_
            refine lv_aload_n hx hb dX10_count_80 rfl (lv_at hl 0 rfl) ?_
            obtain ⟨r9, hu, h⟩ := bnd_h h
            refine kc_i (kV hC (c_X10_holed l dC dI cc q0 q1 q2 q3 q4 q5 q6 q7 q8 q9 q10 q11 q12 q13 q14 q15 q16 q17 feetMany log_ block stocking acts keeps hears texted at_ readFeetMany readLog readBlock readStocking lefts_ rights_ st H.size r9 hu) cv_X10_255 kw1159 rfl rfl ⟨(Nat.le_of_ble_eq_true rfl), (Nat.le_of_ble_eq_true rfl)⟩ hP [0, 2] rfl rfl rfl (q0 := 0) rfl (As := []) (rest := []) rfl rfl hl.1 (Nat.le_of_ble_eq_true rfl) dX10_count_81 ⟨Nat.zero_le _, Nat.zero_le _⟩) hP hA [0, 2] rfl rfl (fun H locs hP => ?_)
            have hP : PD (dC, dI) A s.heap [(q0, .inr (10, [.int feetMany, .ref q1, .int log_, .int block, .ref q2, .int stocking, .ref q3, .int acts, .ref q4, .int keeps, .ref q5, .int hears, .ref q6, .ref q7, .int texted, .int at_, .ref q8, .ref q9, .int readFeetMany, .ref q10, .int readLog, .int readBlock, .ref q11, .int readStocking, .ref q12, .int lefts_, .int rights_, .ref q13, .ref q14, .ref q15, .ref q16, .ref q17])), (q2, .inl (cc 2, 40, .inl knot)), (q3, .inl (cc 0, 52, .inl st))] H locs := hP
            exact ret_i hC hr hlk hP dX10_count_84 () (⟨Option.some.inj h, rfl⟩) rfl
          · have h := if_f c8 h
            by_cases c10 : x1 = 5
            · have h := if_t c10 h
              refine lv_tableIn (tgt := 85) hx hb dX10_count_1 (by rw [c10]; decide) (by rw [c10]; decide) (by first | (rw [c10]; done) | (rw [c10]; rfl)) (by decide) ?_
              refine lv_aload_n hx hb dX10_count_85 rfl (lv_at hl 0 rfl) ?_
              refine g_get hC hP fg_X10_166 0 rfl rfl dX10_count_86 ?_
              exact ret_i hC hr hlk hP dX10_count_89 () (⟨Option.some.inj h, rfl⟩) rfl
            · have h := if_f c10 h
              by_cases c11 : x1 = 6
              · have h := if_t c11 h
                refine lv_tableIn (tgt := 90) hx hb dX10_count_1 (by rw [c11]; decide) (by rw [c11]; decide) (by first | (rw [c11]; done) | (rw [c11]; rfl)) (by decide) ?_
                refine lv_aload_n hx hb dX10_count_90 rfl (lv_at hl 0 rfl) ?_
                refine g_get hC hP fg_X10_160 0 rfl rfl dX10_count_91 ?_
                exact ret_i hC hr hlk hP dX10_count_94 () (⟨Option.some.inj h, rfl⟩) rfl
              · have h := if_f c11 h
                by_cases c12 : x1 = 7
                · have h := if_t c12 h
                  refine lv_tableIn (tgt := 95) hx hb dX10_count_1 (by rw [c12]; decide) (by rw [c12]; decide) (by first | (rw [c12]; done) | (rw [c12]; rfl)) (by decide) ?_
                  refine lv_aload_n hx hb dX10_count_95 rfl (lv_at hl 0 rfl) ?_
                  refine g_get hC hP fg_X10_163 0 rfl rfl dX10_count_96 ?_
                  exact ret_i hC hr hlk hP dX10_count_99 () (⟨Option.some.inj h, rfl⟩) rfl
                · have h := if_f c12 h
                  by_cases c13 : x1 = 8
                  · have h := if_t c13 h
                    refine lv_tableIn (tgt := 100) hx hb dX10_count_1 (by rw [c13]; decide) (by rw [c13]; decide) (by first | (rw [c13]; done) | (rw [c13]; rfl)) (by decide) ?_
                    refine lv_aload_n hx hb dX10_count_100 rfl (lv_at hl 0 rfl) ?_
                    refine g_get hC hP fg_X10_94 0 rfl rfl dX10_count_101 ?_
                    exact ret_i hC hr hlk hP dX10_count_104 () (⟨Option.some.inj h, rfl⟩) rfl
                  · have h := if_f c13 h
                    by_cases c14 : x1 = 9
                    · have h := if_t c14 h
                      refine lv_tableIn (tgt := 105) hx hb dX10_count_1 (by rw [c14]; decide) (by rw [c14]; decide) (by first | (rw [c14]; done) | (rw [c14]; rfl)) (by decide) ?_
                      refine lv_aload_n hx hb dX10_count_105 rfl (lv_at hl 0 rfl) ?_
                      refine g_get hC hP fg_X10_157 0 rfl rfl dX10_count_106 ?_
                      exact ret_i hC hr hlk hP dX10_count_109 () (⟨Option.some.inj h, rfl⟩) rfl
                    · have h := if_f c14 h
                      refine lv_tableOut (tgt := 110) hx hb dX10_count_1 (sw_out_X10_count_1 c1 c3 c4 c6 c8 c10 c11 c12 c13 c14) (by decide) ?_
                      refine lv_iconst (v := -1) hx hb dX10_count_110 (by decide) ?_
                      exact ret_i hC hr hlk hP dX10_count_111 () (⟨Option.some.inj h, rfl⟩) rfl
