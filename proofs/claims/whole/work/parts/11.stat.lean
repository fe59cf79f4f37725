set_option maxHeartbeats 8000000 in
set_option maxRecDepth 100000 in
theorem c_X9_within (l : Launch) (dC : Nat → ClassId) (dI : Nat → Nat → Nat) (cc : Nat → ClassId) (x1 : Int32) (x2 : Int32) (x3 : Int32) (sz : Nat) (ret : Int32) (hu : f_X9_within x1 x2 x3 = some ret) : Met l yX9_within (mw yX9_within cX9_within 3 (some .boolean)) ({ frames := 0, cells := 0, slots := 0, locals := 0 } : Room) (va_Pc [.int x1, .int x2, .int x3] (mP (dC, dI) (ts cc) sz [])) ((fun A => va_Qi (fun (r : Int32) (w : Unit) => narrow .boolean (.int r) = .int r ∧ (r = ret ∧ w = ())) (fun (w : Unit) t => va_P (dC, dI) classes [] t.heap) A) (va_A [] sz)) 0 0 (va_A [] sz) := by
  refine met_go (Qc := fun A => va_Qi (fun (r : Int32) (w : Unit) => narrow .boolean (.int r) = .int r ∧ (r = ret ∧ w = ())) (fun (w : Unit) t => va_P (dC, dI) classes [] t.heap) A) (by decide) (Nat.le_of_ble_eq_true rfl) ?_
  intro p e s m below meth c A ls H locs hC hr hlk hin hA hP hl _
  have hC : CX p m c cX9_within 3 s ([.int x1, .int x2, .int x3] : List Value).toArray RX9 (dC, dI) (ts cc) := hC
  have hx := hC.1.1
  have hb := hC.1.2
  have h := hu
  have hu0 := hu
  unfold f_X9_within at h
  have hl : lv_has ls 3 [(0, .int x1), (1, .int x2), (2, .int x3)] := hl
  refine lv_iload_n hx hb dX9_within_0 rfl (lv_at hl 0 rfl) ?_
  refine lv_iload_n hx hb dX9_within_1 rfl (lv_at hl 1 rfl) ?_
  refine lv_icmp_lt (tgt := 14) hx hb dX9_within_2 (by decide) (fun c1 => ?_) (fun c1 => ?_)
  · have h := if_t c1 h
    refine lv_iconst (v := 0) hx hb dX9_within_14 (by decide) ?_
    exact ret_z hC hr rfl hlk hP dX9_within_15 () (⟨Option.some.inj h, rfl⟩) rfl
  · have h := if_f c1 h
    refine lv_iload_n hx hb dX9_within_5 rfl (lv_at hl 0 rfl) ?_
    refine lv_iload_n hx hb dX9_within_6 rfl (lv_at hl 2 rfl) ?_
    refine lv_icmp_gt (tgt := 14) hx hb dX9_within_7 (by decide) (fun c2 => ?_) (fun c2 => ?_)
    · have h := if_t c2 h
      refine lv_iconst (v := 0) hx hb dX9_within_14 (by decide) ?_
      exact ret_z hC hr rfl hlk hP dX9_within_15 () (⟨Option.some.inj h, rfl⟩) rfl
    · have h := if_f c2 h
      refine lv_iconst (v := 1) hx hb dX9_within_10 (by decide) ?_
      refine lv_goto (tgt := 15) hx hb dX9_within_11 (by decide) ?_
      exact ret_z hC hr rfl hlk hP dX9_within_15 () (⟨Option.some.inj h, rfl⟩) rfl
set_option maxHeartbeats 8000000 in
set_option maxRecDepth 100000 in
theorem c_X9_isSide (l : Launch) (dC : Nat → ClassId) (dI : Nat → Nat → Nat) (cc : Nat → ClassId) (x1 : Int32) (sz : Nat) (ret : Int32) (hu : f_X9_isSide x1 = some ret) : Met l yX9_isSide (mw yX9_isSide cX9_isSide 1 (some .boolean)) ({ frames := 0, cells := 0, slots := 0, locals := 0 } : Room) (va_Pc [.int x1] (mP (dC, dI) (ts cc) sz [])) ((fun A => va_Qi (fun (r : Int32) (w : Unit) => narrow .boolean (.int r) = .int r ∧ (r = ret ∧ w = ())) (fun (w : Unit) t => va_P (dC, dI) classes [] t.heap) A) (va_A [] sz)) 0 0 (va_A [] sz) := by
  refine met_go (Qc := fun A => va_Qi (fun (r : Int32) (w : Unit) => narrow .boolean (.int r) = .int r ∧ (r = ret ∧ w = ())) (fun (w : Unit) t => va_P (dC, dI) classes [] t.heap) A) (by decide) (Nat.le_of_ble_eq_true rfl) ?_
  intro p e s m below meth c A ls H locs hC hr hlk hin hA hP hl _
  have hC : CX p m c cX9_isSide 1 s ([.int x1] : List Value).toArray RX9 (dC, dI) (ts cc) := hC
  have hx := hC.1.1
  have hb := hC.1.2
  have h := hu
  have hu0 := hu
  unfold f_X9_isSide at h
  have hl : lv_has ls 1 [(0, .int x1)] := hl
  refine lv_iload_n hx hb dX9_isSide_0 rfl (lv_at hl 0 rfl) ?_
  refine lv_if_eq (tgt := 9) hx hb dX9_isSide_1 (by decide) (fun c1 => ?_) (fun c1 => ?_)
  · have h := if_t c1 h
    refine lv_iconst (v := 1) hx hb dX9_isSide_9 (by decide) ?_
    refine lv_goto (tgt := 14) hx hb dX9_isSide_10 (by decide) ?_
    exact ret_z hC hr rfl hlk hP dX9_isSide_14 () (⟨Option.some.inj h, rfl⟩) rfl
  · have h := if_f c1 h
    refine lv_iload_n hx hb dX9_isSide_4 rfl (lv_at hl 0 rfl) ?_
    refine lv_iconst (v := 1) hx hb dX9_isSide_5 (by decide) ?_
    refine lv_icmp_ne (tgt := 13) hx hb dX9_isSide_6 (by decide) (fun c2 => ?_) (fun c2 => ?_)
    · have h := if_f c2 h
      refine lv_iconst (v := 0) hx hb dX9_isSide_13 (by decide) ?_
      exact ret_z hC hr rfl hlk hP dX9_isSide_14 () (⟨Option.some.inj h, rfl⟩) rfl
    · have h := if_t c2 h
      refine lv_iconst (v := 1) hx hb dX9_isSide_9 (by decide) ?_
      refine lv_goto (tgt := 14) hx hb dX9_isSide_10 (by decide) ?_
      exact ret_z hC hr rfl hlk hP dX9_isSide_14 () (⟨Option.some.inj h, rfl⟩) rfl
set_option maxHeartbeats 8000000 in
set_option maxRecDepth 100000 in
theorem c_X9_isClog (l : Launch) (dC : Nat → ClassId) (dI : Nat → Nat → Nat) (cc : Nat → ClassId) (x1 : Int32) (x2 : Int32) (x3 : Int32) (x4 : Int32) (sz : Nat) (ret : Int32) (hu : f_X9_isClog x1 x2 x3 x4 = some ret) : Met l yX9_isClog (mw yX9_isClog cX9_isClog 4 (some .boolean)) ({ frames := 1, cells := 0, slots := 0, locals := 22 } : Room) (va_Pc [.int x1, .int x2, .int x3, .int x4] (mP (dC, dI) (ts cc) sz [])) ((fun A => va_Qi (fun (r : Int32) (w : Unit) => narrow .boolean (.int r) = .int r ∧ (r = ret ∧ w = ())) (fun (w : Unit) t => va_P (dC, dI) classes [] t.heap) A) (va_A [] sz)) 0 0 (va_A [] sz) := by
  refine met_go (Qc := fun A => va_Qi (fun (r : Int32) (w : Unit) => narrow .boolean (.int r) = .int r ∧ (r = ret ∧ w = ())) (fun (w : Unit) t => va_P (dC, dI) classes [] t.heap) A) (by decide) (Nat.le_of_ble_eq_true rfl) ?_
  intro p e s m below meth c A ls H locs hC hr hlk hin hA hP hl _
  have hC : CX p m c cX9_isClog 4 s ([.int x1, .int x2, .int x3, .int x4] : List Value).toArray RX9 (dC, dI) (ts cc) := hC
  have hx := hC.1.1
  have hb := hC.1.2
  have h := hu
  have hu0 := hu
  unfold f_X9_isClog at h
  have hl : lv_has ls 4 [(0, .int x1), (1, .int x2), (2, .int x3), (3, .int x4)] := hl
  refine lv_iload_n hx hb dX9_isClog_0 rfl (lv_at hl 0 rfl) ?_
  refine lv_iconst (v := 0) hx hb dX9_isClog_1 (by decide) ?_
  refine lv_iconst (v := 3) hx hb dX9_isClog_2 (by decide) ?_
  obtain ⟨r1, hu, h⟩ := bnd_h h
  refine kc_z (kS hC (c_X9_within l dC dI cc x1 0 3 H.size r1 hu) cs_X9_99 kw338 rfl rfl ⟨(Nat.le_of_ble_eq_true rfl), (Nat.le_of_ble_eq_true rfl)⟩ hP [] rfl rfl (As := [.int x1, .int 0, .int 3]) (rest := []) rfl rfl hl.1 (Nat.le_of_ble_eq_true rfl) dX9_isClog_3 ⟨Nat.zero_le _, Nat.zero_le _⟩) hP hA [] rfl rfl (fun hz_r1 H locs hP => ?_)
  have hP : PD (dC, dI) A s.heap [] H locs := hP
  refine lv_if_eq (tgt := 41) hx hb dX9_isClog_6 (by decide) (fun c2 => ?_) (fun c2 => ?_)
  · have h := if_t c2 h
    refine lv_iconst (v := 0) hx hb dX9_isClog_41 (by decide) ?_
    exact ret_z hC hr rfl hlk hP dX9_isClog_42 () (⟨Option.some.inj h, rfl⟩) rfl
  · have h := if_f c2 h
    refine lv_iload_n hx hb dX9_isClog_9 rfl (lv_at hl 1 rfl) ?_
    obtain ⟨r3, hu, h⟩ := bnd_h h
    refine kc_z (kS hC (c_X9_isSide l dC dI cc x2 H.size r3 hu) cs_X9_133 kw341 rfl rfl ⟨(Nat.le_of_ble_eq_true rfl), (Nat.le_of_ble_eq_true rfl)⟩ hP [] rfl rfl (As := [.int x2]) (rest := []) rfl rfl hl.1 (Nat.le_of_ble_eq_true rfl) dX9_isClog_10 ⟨Nat.zero_le _, Nat.zero_le _⟩) hP hA [] rfl rfl (fun hz_r3 H locs hP => ?_)
    have hP : PD (dC, dI) A s.heap [] H locs := hP
    refine lv_if_eq (tgt := 41) hx hb dX9_isClog_13 (by decide) (fun c4 => ?_) (fun c4 => ?_)
    · have h := if_t c4 h
      refine lv_iconst (v := 0) hx hb dX9_isClog_41 (by decide) ?_
      exact ret_z hC hr rfl hlk hP dX9_isClog_42 () (⟨Option.some.inj h, rfl⟩) rfl
    · have h := if_f c4 h
      refine lv_iload_n hx hb dX9_isClog_16 rfl (lv_at hl 2 rfl) ?_
      refine lv_bipush (v := 12) hx hb dX9_isClog_17 (by decide) ?_
      refine lv_bipush (v := 72) hx hb dX9_isClog_19 (by decide) ?_
      obtain ⟨r5, hu, h⟩ := bnd_h h
      refine kc_z (kS hC (c_X9_within l dC dI cc x3 12 72 H.size r5 hu) cs_X9_99 kw338 rfl rfl ⟨(Nat.le_of_ble_eq_true rfl), (Nat.le_of_ble_eq_true rfl)⟩ hP [] rfl rfl (As := [.int x3, .int 12, .int 72]) (rest := []) rfl rfl hl.1 (Nat.le_of_ble_eq_true rfl) dX9_isClog_21 ⟨Nat.zero_le _, Nat.zero_le _⟩) hP hA [] rfl rfl (fun hz_r5 H locs hP => ?_)
      have hP : PD (dC, dI) A s.heap [] H locs := hP
      refine lv_if_eq (tgt := 41) hx hb dX9_isClog_24 (by decide) (fun c6 => ?_) (fun c6 => ?_)
      · have h := if_t c6 h
        refine lv_iconst (v := 0) hx hb dX9_isClog_41 (by decide) ?_
        exact ret_z hC hr rfl hlk hP dX9_isClog_42 () (⟨Option.some.inj h, rfl⟩) rfl
      · have h := if_f c6 h
        refine lv_iload_n hx hb dX9_isClog_27 rfl (lv_at hl 3 rfl) ?_
        refine lv_iconst (v := 1) hx hb dX9_isClog_28 (by decide) ?_
        refine lv_bipush (v := 40) hx hb dX9_isClog_29 (by decide) ?_
        obtain ⟨r7, hu, h⟩ := bnd_h h
        refine kc_z (kS hC (c_X9_within l dC dI cc x4 1 40 H.size r7 hu) cs_X9_99 kw338 rfl rfl ⟨(Nat.le_of_ble_eq_true rfl), (Nat.le_of_ble_eq_true rfl)⟩ hP [] rfl rfl (As := [.int x4, .int 1, .int 40]) (rest := []) rfl rfl hl.1 (Nat.le_of_ble_eq_true rfl) dX9_isClog_31 ⟨Nat.zero_le _, Nat.zero_le _⟩) hP hA [] rfl rfl (fun hz_r7 H locs hP => ?_)
        have hP : PD (dC, dI) A s.heap [] H locs := hP
        refine lv_if_eq (tgt := 41) hx hb dX9_isClog_34 (by decide) (fun c8 => ?_) (fun c8 => ?_)
        · have h := if_t c8 h
          refine lv_iconst (v := 0) hx hb dX9_isClog_41 (by decide) ?_
          exact ret_z hC hr rfl hlk hP dX9_isClog_42 () (⟨Option.some.inj h, rfl⟩) rfl
        · have h := if_f c8 h
          refine lv_iconst (v := 1) hx hb dX9_isClog_37 (by decide) ?_
          refine lv_goto (tgt := 42) hx hb dX9_isClog_38 (by decide) ?_
          exact ret_z hC hr rfl hlk hP dX9_isClog_42 () (⟨Option.some.inj h, rfl⟩) rfl
set_option maxHeartbeats 8000000 in
set_option maxRecDepth 100000 in
theorem c_X9_at (l : Launch) (dC : Nat → ClassId) (dI : Nat → Nat → Nat) (cc : Nat → ClassId) (q0 : Nat) (n1 : Nat) (f1 : (Nat → Int32)) (x2 : Int32) (sz : Nat) (ret : Int32) (hu : f_X9_at x2 n1 f1 = some ret) : Met l yX9_at (mw yX9_at cX9_at 2 (some .int)) ({ frames := 0, cells := 0, slots := 0, locals := 0 } : Room) (va_Pc [.ref q0, .int x2] (mP (dC, dI) (ts cc) sz [(q0, .inl (cc 0, n1, .inl f1))])) ((fun A => va_Qi (fun (r : Int32) (w : Unit) => r = ret ∧ w = ()) (fun (w : Unit) t => va_P (dC, dI) classes [(q0, .inl (cc 0, n1, .inl f1))] t.heap) A) (va_A [(q0, .inl (cc 0, n1, .inl f1))] sz)) 0 0 (va_A [(q0, .inl (cc 0, n1, .inl f1))] sz) := by
  refine met_go (Qc := fun A => va_Qi (fun (r : Int32) (w : Unit) => r = ret ∧ w = ()) (fun (w : Unit) t => va_P (dC, dI) classes [(q0, .inl (cc 0, n1, .inl f1))] t.heap) A) (by decide) (Nat.le_of_ble_eq_true rfl) ?_
  intro p e s m below meth c A ls H locs hC hr hlk hin hA hP hl _
  have hC : CX p m c cX9_at 2 s ([.ref q0, .int x2] : List Value).toArray RX9 (dC, dI) (ts cc) := hC
  have hx := hC.1.1
  have hb := hC.1.2
  have h := hu
  have hu0 := hu
  unfold f_X9_at at h
  have hl : lv_has ls 2 [(0, .ref q0), (1, .int x2)] := hl
  refine lv_aload_n hx hb dX9_at_0 rfl (lv_at hl 0 rfl) ?_
  refine lv_ifnull hx hb dX9_at_1 ?_
  refine lv_iload_n hx hb dX9_at_4 rfl (lv_at hl 1 rfl) ?_
  refine lv_if_lt (tgt := 14) hx hb dX9_at_5 (by decide) (fun c1 => ?_) (fun c1 => ?_)
  · have h := if_t c1 h
    refine lv_iconst (v := 0) hx hb dX9_at_14 (by decide) ?_
    refine lv_goto (tgt := 21) hx hb dX9_at_15 (by decide) ?_
    exact ret_i hC hr hlk hP dX9_at_21 () (⟨Option.some.inj h, rfl⟩) rfl
  · have h := if_f c1 h
    refine lv_iload_n hx hb dX9_at_8 rfl (lv_at hl 1 rfl) ?_
    refine lv_aload_n hx hb dX9_at_9 rfl (lv_at hl 0 rfl) ?_
    refine g_alen hC hP 0 0 rfl rfl (v := (nI n1)) rfl dX9_at_10 ?_
    refine lv_icmp_lt (tgt := 18) hx hb dX9_at_11 (by decide) (fun c2 => ?_) (fun c2 => ?_)
    · have h := if_t c2 h
      refine lv_aload_n hx hb dX9_at_18 rfl (lv_at hl 0 rfl) ?_
      refine lv_iload_n hx hb dX9_at_19 rfl (lv_at hl 1 rfl) ?_
      obtain ⟨hin, h⟩ := rd_h h
      refine g_iald hC hP 0 0 rfl rfl hin dX9_at_20 (fun v3 ev => ?_)
      have h := h v3 ev
      exact ret_i hC hr hlk hP dX9_at_21 () (⟨Option.some.inj h, rfl⟩) rfl
    · have h := if_f c2 h
      refine lv_iconst (v := 0) hx hb dX9_at_14 (by decide) ?_
      refine lv_goto (tgt := 21) hx hb dX9_at_15 (by decide) ?_
      exact ret_i hC hr hlk hP dX9_at_21 () (⟨Option.some.inj h, rfl⟩) rfl
set_option maxHeartbeats 8000000 in
set_option maxRecDepth 100000 in
theorem c_X9_put (l : Launch) (dC : Nat → ClassId) (dI : Nat → Nat → Nat) (cc : Nat → ClassId) (q0 : Nat) (n1 : Nat) (f1 : (Nat → Int32)) (x2 : Int32) (x3 : Int32) (sz : Nat) (o_f1 : (Nat → Int32)) (hu : f_X9_put x2 x3 n1 f1 = some o_f1) : Met l yX9_put (mw yX9_put cX9_put 3 none) ({ frames := 0, cells := 0, slots := 0, locals := 0 } : Room) (va_Pc [.ref q0, .int x2, .int x3] (mP (dC, dI) (ts cc) sz [(q0, .inl (cc 0, n1, .inl f1))])) ((fun A => va_Qv (fun (w : (Nat → Int32)) => w = o_f1) (fun (w : (Nat → Int32)) t => va_P (dC, dI) classes [(q0, .inl (cc 0, n1, .inl w))] t.heap) A) (va_A [(q0, .inl (cc 0, n1, .inl f1))] sz)) 0 0 (va_A [(q0, .inl (cc 0, n1, .inl f1))] sz) := by
  refine met_go (Qc := fun A => va_Qv (fun (w : (Nat → Int32)) => w = o_f1) (fun (w : (Nat → Int32)) t => va_P (dC, dI) classes [(q0, .inl (cc 0, n1, .inl w))] t.heap) A) (by decide) (Nat.le_of_ble_eq_true rfl) ?_
  intro p e s m below meth c A ls H locs hC hr hlk hin hA hP hl _
  have hC : CX p m c cX9_put 3 s ([.ref q0, .int x2, .int x3] : List Value).toArray RX9 (dC, dI) (ts cc) := hC
  have hx := hC.1.1
  have hb := hC.1.2
  have h := hu
  have hu0 := hu
  unfold f_X9_put at h
  have hl : lv_has ls 3 [(0, .ref q0), (1, .int x2), (2, .int x3)] := hl
  refine lv_aload_n hx hb dX9_put_0 rfl (lv_at hl 0 rfl) ?_
  refine lv_ifnull hx hb dX9_put_1 ?_
  refine lv_iload_n hx hb dX9_put_4 rfl (lv_at hl 1 rfl) ?_
  refine lv_if_lt (tgt := 18) hx hb dX9_put_5 (by decide) (fun c1 => ?_) (fun c1 => ?_)
  · have h := if_t c1 h
    exact ret_v hC hr hlk hP dX9_put_18 f1 (Option.some.inj h) rfl
  · have h := if_f c1 h
    refine lv_iload_n hx hb dX9_put_8 rfl (lv_at hl 1 rfl) ?_
    refine lv_aload_n hx hb dX9_put_9 rfl (lv_at hl 0 rfl) ?_
    refine g_alen hC hP 0 0 rfl rfl (v := (nI n1)) rfl dX9_put_10 ?_
    refine lv_icmp_ge (tgt := 18) hx hb dX9_put_11 (by decide) (fun c2 => ?_) (fun c2 => ?_)
    · have h := if_t c2 h
      exact ret_v hC hr hlk hP dX9_put_18 f1 (Option.some.inj h) rfl
    · have h := if_f c2 h
      refine lv_aload_n hx hb dX9_put_14 rfl (lv_at hl 0 rfl) ?_
      refine lv_iload_n hx hb dX9_put_15 rfl (lv_at hl 1 rfl) ?_
      refine lv_iload_n hx hb dX9_put_16 rfl (lv_at hl 2 rfl) ?_
      obtain ⟨hin, h⟩ := wr_h h
      refine g_iast hC hP 0 0 rfl rfl hin dX9_put_17 (fun a3 ev H locs hP => ?_)
      have hP : PD (dC, dI) A s.heap [(q0, .inl (cc 0, n1, .inl a3))] H locs := hP
      have h := h a3 ev
      exact ret_v hC hr hlk hP dX9_put_18 a3 (Option.some.inj h) rfl
set_option maxHeartbeats 8000000 in
set_option maxRecDepth 100000 in
theorem c_X9_copyRow (l : Launch) (dC : Nat → ClassId) (dI : Nat → Nat → Nat) (cc : Nat → ClassId) (q0 q1 : Nat) (n1 : Nat) (n2 : Nat) (f1 : (Nat → Int32)) (f2 : (Nat → Int32)) (sz : Nat) (o_f2 : (Nat → Int32)) (hu : f_X9_copyRow n1 n2 f1 f2 = some o_f2) : Met l yX9_copyRow (mw yX9_copyRow cX9_copyRow 2 none) ({ frames := 1, cells := 0, slots := 0, locals := 40 } : Room) (va_Pc [.ref q0, .ref q1] (mP (dC, dI) (ts cc) sz [(q0, .inl (cc 0, n1, .inl f1)), (q1, .inl (cc 0, n2, .inl f2))])) ((fun A => va_Qv (fun (w : (Nat → Int32)) => w = o_f2) (fun (w : (Nat → Int32)) t => va_P (dC, dI) classes [(q0, .inl (cc 0, n1, .inl f1)), (q1, .inl (cc 0, n2, .inl w))] t.heap) A) (va_A [(q0, .inl (cc 0, n1, .inl f1)), (q1, .inl (cc 0, n2, .inl f2))] sz)) 0 0 (va_A [(q0, .inl (cc 0, n1, .inl f1)), (q1, .inl (cc 0, n2, .inl f2))] sz) := by
  refine met_go (Qc := fun A => va_Qv (fun (w : (Nat → Int32)) => w = o_f2) (fun (w : (Nat → Int32)) t => va_P (dC, dI) classes [(q0, .inl (cc 0, n1, .inl f1)), (q1, .inl (cc 0, n2, .inl w))] t.heap) A) (by decide) (Nat.le_of_ble_eq_true rfl) ?_
  intro p e s m below meth c A ls H locs hC hr hlk hin hA hP hl _
  have hC : CX p m c cX9_copyRow 2 s ([.ref q0, .ref q1] : List Value).toArray RX9 (dC, dI) (ts cc) := hC
  have hx := hC.1.1
  have hb := hC.1.2
  have h := hu
  have hu0 := hu
  unfold f_X9_copyRow at h
  have hl : lv_has ls 2 [(0, .ref q0), (1, .ref q1)] := hl
  refine lv_aload_n hx hb dX9_copyRow_0 rfl (lv_at hl 0 rfl) ?_
  refine lv_ifnull hx hb dX9_copyRow_1 ?_
  refine lv_aload_n hx hb dX9_copyRow_4 rfl (lv_at hl 1 rfl) ?_
  refine lv_ifnull hx hb dX9_copyRow_5 ?_
  refine lv_aload_n hx hb dX9_copyRow_8 rfl (lv_at hl 0 rfl) ?_
  refine lv_iconst (v := 0) hx hb dX9_copyRow_9 (by decide) ?_
  refine lv_aload_n hx hb dX9_copyRow_10 rfl (lv_at hl 1 rfl) ?_
  refine lv_iconst (v := 0) hx hb dX9_copyRow_11 (by decide) ?_
  refine lv_aload_n hx hb dX9_copyRow_12 rfl (lv_at hl 0 rfl) ?_
  refine g_alen hC hP 0 0 rfl rfl (v := (nI n1)) rfl dX9_copyRow_13 ?_
  refine lv_aload_n hx hb dX9_copyRow_14 rfl (lv_at hl 1 rfl) ?_
  refine g_alen hC hP 1 0 rfl rfl (v := (nI n2)) rfl dX9_copyRow_15 ?_
  refine g_min hC hl.1 mh_X9_274 (Nat.le_of_ble_eq_true rfl) (Nat.le_of_ble_eq_true rfl) (Nat.zero_le _) (Nat.zero_le _) dX9_copyRow_16 ?_
  refine lv_topi (fun v1 ev => ?_)
  have h := nm_h ev h
  obtain ⟨hin, h⟩ := acp_h h
  refine g_copy hC hP hl.1 kw379 kw381 kw380 kw16 0 1 0 rfl rfl rfl rfl hin (Nat.le_of_ble_eq_true rfl) (Nat.le_of_ble_eq_true rfl) dX9_copyRow_19 (fun a2 ev H locs hP => ?_)
  have hP : PD (dC, dI) A s.heap [(q0, .inl (cc 0, n1, .inl f1)), (q1, .inl (cc 0, n2, .inl a2))] H locs := hP
  have h := h a2 ev
  exact ret_v hC hr hlk hP dX9_copyRow_22 a2 (Option.some.inj h) rfl
set_option maxHeartbeats 8000000 in
set_option maxRecDepth 100000 in
theorem c_X9_hasBit (l : Launch) (dC : Nat → ClassId) (dI : Nat → Nat → Nat) (cc : Nat → ClassId) (x1 : Int32) (x2 : Int32) (sz : Nat) (ret : Int32) (hu : f_X9_hasBit x1 x2 = some ret) : Met l yX9_hasBit (mw yX9_hasBit cX9_hasBit 2 (some .boolean)) ({ frames := 0, cells := 0, slots := 0, locals := 0 } : Room) (va_Pc [.int x1, .int x2] (mP (dC, dI) (ts cc) sz [])) ((fun A => va_Qi (fun (r : Int32) (w : Unit) => narrow .boolean (.int r) = .int r ∧ (r = ret ∧ w = ())) (fun (w : Unit) t => va_P (dC, dI) classes [] t.heap) A) (va_A [] sz)) 0 0 (va_A [] sz) := by
  refine met_go (Qc := fun A => va_Qi (fun (r : Int32) (w : Unit) => narrow .boolean (.int r) = .int r ∧ (r = ret ∧ w = ())) (fun (w : Unit) t => va_P (dC, dI) classes [] t.heap) A) (by decide) (Nat.le_of_ble_eq_true rfl) ?_
  intro p e s m below meth c A ls H locs hC hr hlk hin hA hP hl _
  have hC : CX p m c cX9_hasBit 2 s ([.int x1, .int x2] : List Value).toArray RX9 (dC, dI) (ts cc) := hC
  have hx := hC.1.1
  have hb := hC.1.2
  have h := hu
  have hu0 := hu
  unfold f_X9_hasBit at h
  have hl : lv_has ls 2 [(0, .int x1), (1, .int x2)] := hl
  refine lv_iload_n hx hb dX9_hasBit_0 rfl (lv_at hl 1 rfl) ?_
  refine lv_if_lt (tgt := 22) hx hb dX9_hasBit_1 (by decide) (fun c1 => ?_) (fun c1 => ?_)
  · have h := if_t c1 h
    refine lv_iconst (v := 0) hx hb dX9_hasBit_22 (by decide) ?_
    exact ret_z hC hr rfl hlk hP dX9_hasBit_23 () (⟨Option.some.inj h, rfl⟩) rfl
  · have h := if_f c1 h
    refine lv_iload_n hx hb dX9_hasBit_4 rfl (lv_at hl 1 rfl) ?_
    refine lv_bipush (v := 31) hx hb dX9_hasBit_5 (by decide) ?_
    refine lv_icmp_ge (tgt := 22) hx hb dX9_hasBit_7 (by decide) (fun c2 => ?_) (fun c2 => ?_)
    · have h := if_t c2 h
      refine lv_iconst (v := 0) hx hb dX9_hasBit_22 (by decide) ?_
      exact ret_z hC hr rfl hlk hP dX9_hasBit_23 () (⟨Option.some.inj h, rfl⟩) rfl
    · have h := if_f c2 h
      refine lv_iload_n hx hb dX9_hasBit_10 rfl (lv_at hl 0 rfl) ?_
      refine lv_iload_n hx hb dX9_hasBit_11 rfl (lv_at hl 1 rfl) ?_
      refine lv_ishr hx hb dX9_hasBit_12 ?_
      refine lv_iconst (v := 1) hx hb dX9_hasBit_13 (by decide) ?_
      refine lv_iand hx hb dX9_hasBit_14 ?_
      refine lv_if_eq (tgt := 22) hx hb dX9_hasBit_15 (by decide) (fun c3 => ?_) (fun c3 => ?_)
      · have h := if_t c3 h
        refine lv_iconst (v := 0) hx hb dX9_hasBit_22 (by decide) ?_
        exact ret_z hC hr rfl hlk hP dX9_hasBit_23 () (⟨Option.some.inj h, rfl⟩) rfl
      · have h := if_f c3 h
        refine lv_iconst (v := 1) hx hb dX9_hasBit_18 (by decide) ?_
        refine lv_goto (tgt := 23) hx hb dX9_hasBit_19 (by decide) ?_
        exact ret_z hC hr rfl hlk hP dX9_hasBit_23 () (⟨Option.some.inj h, rfl⟩) rfl
set_option maxHeartbeats 8000000 in
set_option maxRecDepth 100000 in
theorem c_X9_power (l : Launch) (dC : Nat → ClassId) (dI : Nat → Nat → Nat) (cc : Nat → ClassId) (x1 : Int32) (x2 : Int32) (sz : Nat) (ret : Int64) (hu : f_X9_power x1 x2 = some ret) : Met l yX9_power (mw yX9_power cX9_power 5 (some .long)) ({ frames := 0, cells := 0, slots := 0, locals := 0 } : Room) (va_Pc [.int x1, .int x2] (mP (dC, dI) (ts cc) sz [])) ((fun A => va_Ql (fun (r : Int64) (w : Unit) => r = ret ∧ w = ()) (fun (w : Unit) t => va_P (dC, dI) classes [] t.heap) A) (va_A [] sz)) 0 0 (va_A [] sz) := by
  refine met_go (Qc := fun A => va_Ql (fun (r : Int64) (w : Unit) => r = ret ∧ w = ()) (fun (w : Unit) t => va_P (dC, dI) classes [] t.heap) A) (by decide) (Nat.le_of_ble_eq_true rfl) ?_
  intro p e s m below meth c A ls H locs hC hr hlk hin hA hP hl _
  have hC : CX p m c cX9_power 5 s ([.int x1, .int x2] : List Value).toArray RX9 (dC, dI) (ts cc) := hC
  have hx := hC.1.1
  have hb := hC.1.2
  have h := hu
  have hu0 := hu
  unfold f_X9_power at h
  have hl : lv_has ls 5 [(0, .int x1), (1, .int x2)] := hl
  refine W_abs (fun Z eZ => ?_)
  refine lv_lconst (v := 1) hx hb dX9_power_0 (by decide) ?_
  refine lv_lstore_n (lv' := [(2, .long 1), (0, .int x1), (1, .int x2)]) hx hb dX9_power_1 rfl hl (by decide) rfl (fun ls hl => ?_)
  refine lv_iconst (v := 0) hx hb dX9_power_2 (by decide) ?_
  refine lv_istore (lv' := [(4, .int 0), (2, .long 1), (0, .int x1), (1, .int x2)]) hx hb dX9_power_3 hl (by decide) rfl (fun ls hl => ?_)
  obtain ⟨⟨j1x, j2x⟩, hlp, h⟩ := bnd_h h
  have L1 : ∀ (n : Nat) (j1 : Int64) (j2 : Int32) (j1x : Int64) (j2x : Int32), lp (u2 (b_X9_power_1 x1 x2)) n (j1, j2) = some (j1x, j2x) → ∀ (H : Heap) (locs : List Loc) (ls : Array Slot), PD (dC, dI) A s.heap [] H locs → lv_has ls 5 [(0, .int x1), (1, .int x2), (2, .long j1), (4, .int j2)] → (∀ (H : Heap) (locs : List Loc) (ls : Array Slot), PD (dC, dI) A s.heap [] H locs → lv_has ls 5 [(0, .int x1), (1, .int x2), (2, .long j1x), (4, .int j2x)] → W p l e ({ frames := 0, cells := 0, slots := 0, locals := 0 } : Room) s m ([.int x1, .int x2] : List Value).toArray below meth c H locs 0 0 Z (F0 m 22 ls [])) → W p l e ({ frames := 0, cells := 0, slots := 0, locals := 0 } : Room) s m ([.int x1, .int x2] : List Value).toArray below meth c H locs 0 0 Z (F0 m 5 ls []) := by
    intro n
    induction n with
    | zero => intro j1 j2 j1x j2x h; exact (lp_0 h).elim
    | succ n ih =>
      intro j1 j2 j1x j2x h H locs ls hP hl KK
      obtain ⟨y, h, hz⟩ := lp_h h
      refine lv_iload hx hb dX9_power_5 (lv_at hl 3 rfl) ?_
      refine lv_iload_n hx hb dX9_power_7 rfl (lv_at hl 1 rfl) ?_
      refine lv_icmp_ge (tgt := 22) hx hb dX9_power_8 (by decide) (fun c3 => ?_) (fun c3 => ?_)
      · have h := if_t c3 h
        cases lp_e h hz
        exact KK H locs ls hP (lv_sub hl [0, 1, 2, 3] rfl)
      · have h := if_f c3 h
        refine lv_lload_n hx hb dX9_power_11 rfl (lv_at hl 2 rfl) ?_
        refine lv_iload_n hx hb dX9_power_12 rfl (lv_at hl 0 rfl) ?_
        refine lv_i2l hx hb dX9_power_13 rfl ?_
        refine lv_lmul hx hb dX9_power_14 ?_
        refine lv_lstore_n (lv' := [(2, .long (j1 * (Int32.toInt64 x1))), (0, .int x1), (1, .int x2), (4, .int j2)]) hx hb dX9_power_15 rfl hl (by decide) rfl (fun ls hl => ?_)
        refine lv_iinc (v := (j2 + 1)) (lv' := [(4, .int (j2 + 1)), (2, .long (j1 * (Int32.toInt64 x1))), (0, .int x1), (1, .int x2)]) hx hb dX9_power_16 hl (k := 3) rfl rfl (by decide) rfl (fun ls hl => ?_)
        refine lv_goto (tgt := 5) hx hb dX9_power_19 (by decide) ?_
        exact ih _ _ _ _ (lp_n h hz) H locs ls hP (lv_sub hl [2, 3, 1, 0] rfl) KK
  refine L1 FU _ _ j1x j2x hlp H locs ls hP (lv_sub hl [2, 3, 1, 0] rfl) (fun H locs ls hP hl => ?_)
  refine lv_lload_n hx hb dX9_power_22 rfl (lv_at hl 2 rfl) ?_
  rw [eZ]
  exact ret_l hC hr hlk hP dX9_power_23 () (⟨Option.some.inj h, rfl⟩) rfl
set_option maxHeartbeats 8000000 in
set_option maxRecDepth 100000 in
theorem c_X9_commonDivisorWithTen (l : Launch) (dC : Nat → ClassId) (dI : Nat → Nat → Nat) (cc : Nat → ClassId) (x1 : Int32) (sz : Nat) (ret : Int32) (hu : f_X9_commonDivisorWithTen x1 = some ret) : Met l yX9_commonDivisorWithTen (mw yX9_commonDivisorWithTen cX9_commonDivisorWithTen 2 (some .int)) ({ frames := 0, cells := 0, slots := 0, locals := 0 } : Room) (va_Pc [.int x1] (mP (dC, dI) (ts cc) sz [])) ((fun A => va_Qi (fun (r : Int32) (w : Unit) => r = ret ∧ w = ()) (fun (w : Unit) t => va_P (dC, dI) classes [] t.heap) A) (va_A [] sz)) 0 0 (va_A [] sz) := by
  refine met_go (Qc := fun A => va_Qi (fun (r : Int32) (w : Unit) => r = ret ∧ w = ()) (fun (w : Unit) t => va_P (dC, dI) classes [] t.heap) A) (by decide) (Nat.le_of_ble_eq_true rfl) ?_
  intro p e s m below meth c A ls H locs hC hr hlk hin hA hP hl _
  have hC : CX p m c cX9_commonDivisorWithTen 2 s ([.int x1] : List Value).toArray RX9 (dC, dI) (ts cc) := hC
  have hx := hC.1.1
  have hb := hC.1.2
  have h := hu
  have hu0 := hu
  unfold f_X9_commonDivisorWithTen at h
  have hl : lv_has ls 2 [(0, .int x1)] := hl
  refine W_abs (fun Z eZ => ?_)
  refine lv_bipush (v := 10) hx hb dX9_commonDivisorWithTen_0 (by decide) ?_
  refine lv_istore_n (lv' := [(1, .int 10), (0, .int x1)]) hx hb dX9_commonDivisorWithTen_2 rfl hl (by decide) rfl (fun ls hl => ?_)
  obtain ⟨z, hlp, hk, hj⟩ := bndE_h h
  have L1 : ∀ (n : Nat) (j1 : Int32) (z : ((Int32) ⊕ (Int32))), lp ((b_X9_commonDivisorWithTen_1 x1)) n j1 = some z → ∀ (H : Heap) (locs : List Loc) (ls : Array Slot), PD (dC, dI) A s.heap [] H locs → lv_has ls 2 [(0, .int x1), (1, .int j1)] → (∀ (j1x : Int32), z = .inl j1x → ∀ (H : Heap) (locs : List Loc) (ls : Array Slot), PD (dC, dI) A s.heap [] H locs → lv_has ls 2 [(0, .int x1), (1, .int j1x)] → W p l e ({ frames := 0, cells := 0, slots := 0, locals := 0 } : Room) s m ([.int x1] : List Value).toArray below meth c H locs 0 0 Z (F0 m 29 ls [])) → (∀ q, z = .inr q → q = ret) → W p l e ({ frames := 0, cells := 0, slots := 0, locals := 0 } : Room) s m ([.int x1] : List Value).toArray below meth c H locs 0 0 Z (F0 m 3 ls []) := by
    intro n
    induction n with
    | zero => intro j1 z h; exact (lp_0 h).elim
    | succ n ih =>
      intro j1 z h H locs ls hP hl KK KR
      obtain ⟨y, h, hz⟩ := lp_h h
      refine lv_iload_n hx hb dX9_commonDivisorWithTen_3 rfl (lv_at hl 1 rfl) ?_
      refine lv_iconst (v := 1) hx hb dX9_commonDivisorWithTen_4 (by decide) ?_
      refine lv_icmp_le (tgt := 29) hx hb dX9_commonDivisorWithTen_5 (by decide) (fun c2 => ?_) (fun c2 => ?_)
      · have h := if_t c2 h
        exact KK j1 (lp_e h hz).symm H locs ls hP (lv_sub hl [0, 1] rfl)
      · have h := if_f c2 h
        refine lv_iload_n hx hb dX9_commonDivisorWithTen_8 rfl (lv_at hl 0 rfl) ?_
        refine lv_iload_n hx hb dX9_commonDivisorWithTen_9 rfl (lv_at hl 1 rfl) ?_
        obtain ⟨hne, h⟩ := rmI_h h
        refine lv_irem hx hb dX9_commonDivisorWithTen_10 hne ?_
        refine lv_topi (fun v3 ev => ?_)
        have h := h v3 ev
        refine lv_if_ne (tgt := 23) hx hb dX9_commonDivisorWithTen_11 (by decide) (fun c4 => ?_) (fun c4 => ?_)
        · have h := if_f c4 h
          refine lv_iinc (v := (j1 + (-1))) (lv' := [(1, .int (j1 + (-1))), (0, .int x1)]) hx hb dX9_commonDivisorWithTen_23 hl (k := 1) rfl rfl (by decide) rfl (fun ls hl => ?_)
          refine lv_goto (tgt := 3) hx hb dX9_commonDivisorWithTen_26 (by decide) ?_
          exact ih _ _ (lp_n h hz) H locs ls hP (lv_sub hl [1, 0] rfl) KK KR
        · have h := if_t c4 h
          refine lv_bipush (v := 10) hx hb dX9_commonDivisorWithTen_14 (by decide) ?_
          refine lv_iload_n hx hb dX9_commonDivisorWithTen_16 rfl (lv_at hl 1 rfl) ?_
          obtain ⟨hne, h⟩ := rmI_h h
          refine lv_irem hx hb dX9_commonDivisorWithTen_17 hne ?_
          refine lv_topi (fun v5 ev => ?_)
          have h := h v5 ev
          refine lv_if_ne (tgt := 23) hx hb dX9_commonDivisorWithTen_18 (by decide) (fun c6 => ?_) (fun c6 => ?_)
          · have h := if_f c6 h
            refine lv_iinc (v := (j1 + (-1))) (lv' := [(1, .int (j1 + (-1))), (0, .int x1)]) hx hb dX9_commonDivisorWithTen_23 hl (k := 1) rfl rfl (by decide) rfl (fun ls hl => ?_)
            refine lv_goto (tgt := 3) hx hb dX9_commonDivisorWithTen_26 (by decide) ?_
            exact ih _ _ (lp_n h hz) H locs ls hP (lv_sub hl [1, 0] rfl) KK KR
          · have h := if_t c6 h
            refine lv_iload_n hx hb dX9_commonDivisorWithTen_21 rfl (lv_at hl 1 rfl) ?_
            rw [eZ]
            exact ret_i hC hr hlk hP dX9_commonDivisorWithTen_22 () (⟨KR _ (lp_e h hz).symm, rfl⟩) rfl
  refine L1 FU _ z hlp H locs ls hP (lv_sub hl [1, 0] rfl) (fun j1x e H locs ls hP hl => ?_) (fun q e => Option.some.inj (hj q e))
  have h := hk _ e
  refine lv_iconst (v := 1) hx hb dX9_commonDivisorWithTen_29 (by decide) ?_
  rw [eZ]
  exact ret_i hC hr hlk hP dX9_commonDivisorWithTen_30 () (⟨Option.some.inj h, rfl⟩) rfl
set_option maxHeartbeats 8000000 in
set_option maxRecDepth 100000 in
theorem c_X9_cutsInTheMean (l : Launch) (dC : Nat → ClassId) (dI : Nat → Nat → Nat) (cc : Nat → ClassId) (x1 : Int32) (x2 : Int32) (x3 : Int32) (sz : Nat) (ret : Int64) (hu : f_X9_cutsInTheMean x1 x2 x3 = some ret) : Met l yX9_cutsInTheMean (mw yX9_cutsInTheMean cX9_cutsInTheMean 9 (some .long)) ({ frames := 0, cells := 0, slots := 0, locals := 0 } : Room) (va_Pc [.int x1, .int x2, .int x3] (mP (dC, dI) (ts cc) sz [])) ((fun A => va_Ql (fun (r : Int64) (w : Unit) => r = ret ∧ w = ()) (fun (w : Unit) t => va_P (dC, dI) classes [] t.heap) A) (va_A [] sz)) 0 0 (va_A [] sz) := by
  refine met_go (Qc := fun A => va_Ql (fun (r : Int64) (w : Unit) => r = ret ∧ w = ()) (fun (w : Unit) t => va_P (dC, dI) classes [] t.heap) A) (by decide) (Nat.le_of_ble_eq_true rfl) ?_
  intro p e s m below meth c A ls H locs hC hr hlk hin hA hP hl _
  have hC : CX p m c cX9_cutsInTheMean 9 s ([.int x1, .int x2, .int x3] : List Value).toArray RX9 (dC, dI) (ts cc) := hC
  have hx := hC.1.1
  have hb := hC.1.2
  have h := hu
  have hu0 := hu
  unfold f_X9_cutsInTheMean at h
  have hl : lv_has ls 9 [(0, .int x1), (1, .int x2), (2, .int x3)] := hl
  refine W_abs (fun Z eZ => ?_)
  refine lv_lconst (v := 0) hx hb dX9_cutsInTheMean_0 (by decide) ?_
  refine lv_lstore_n (lv' := [(3, .long 0), (0, .int x1), (1, .int x2), (2, .int x3)]) hx hb dX9_cutsInTheMean_1 rfl hl (by decide) rfl (fun ls hl => ?_)
  refine lv_lconst (v := 1) hx hb dX9_cutsInTheMean_2 (by decide) ?_
  refine lv_lstore (lv' := [(5, .long 1), (3, .long 0), (0, .int x1), (1, .int x2), (2, .int x3)]) hx hb dX9_cutsInTheMean_3 hl (by decide) rfl (fun ls hl => ?_)
  refine lv_iconst (v := 0) hx hb dX9_cutsInTheMean_5 (by decide) ?_
  refine lv_istore (lv' := [(7, .int 0), (5, .long 1), (3, .long 0), (0, .int x1), (1, .int x2), (2, .int x3)]) hx hb dX9_cutsInTheMean_6 hl (by decide) rfl (fun ls hl => ?_)
  obtain ⟨⟨j1x, j2x, j3x⟩, hlp, h⟩ := bnd_h h
  have L1 : ∀ (n : Nat) (j1 : Int64) (j2 : Int64) (j3 : Int32) (j1x : Int64) (j2x : Int64) (j3x : Int32), lp (u3 (b_X9_cutsInTheMean_1 x1 x2 x3)) n (j1, j2, j3) = some (j1x, j2x, j3x) → ∀ (H : Heap) (locs : List Loc) (ls : Array Slot), PD (dC, dI) A s.heap [] H locs → lv_has ls 9 [(0, .int x1), (1, .int x2), (2, .int x3), (3, .long j1), (5, .long j2), (7, .int j3)] → (∀ (H : Heap) (locs : List Loc) (ls : Array Slot), PD (dC, dI) A s.heap [] H locs → lv_has ls 9 [(0, .int x1), (1, .int x2), (2, .int x3), (3, .long j1x), (5, .long j2x), (7, .int j3x)] → W p l e ({ frames := 0, cells := 0, slots := 0, locals := 0 } : Room) s m ([.int x1, .int x2, .int x3] : List Value).toArray below meth c H locs 0 0 Z (F0 m 76 ls [])) → W p l e ({ frames := 0, cells := 0, slots := 0, locals := 0 } : Room) s m ([.int x1, .int x2, .int x3] : List Value).toArray below meth c H locs 0 0 Z (F0 m 8 ls []) := by
    intro n
    induction n with
    | zero => intro j1 j2 j3 j1x j2x j3x h; exact (lp_0 h).elim
    | succ n ih =>
      intro j1 j2 j3 j1x j2x j3x h H locs ls hP hl KK
      obtain ⟨y, h, hz⟩ := lp_h h
      refine lv_iload hx hb dX9_cutsInTheMean_8 (lv_at hl 5 rfl) ?_
      refine lv_iconst (v := 2) hx hb dX9_cutsInTheMean_10 (by decide) ?_
      refine lv_iload_n hx hb dX9_cutsInTheMean_11 rfl (lv_at hl 0 rfl) ?_
      refine lv_imul hx hb dX9_cutsInTheMean_12 ?_
      refine lv_icmp_ge (tgt := 76) hx hb dX9_cutsInTheMean_13 (by decide) (fun c4 => ?_) (fun c4 => ?_)
      · have h := if_t c4 h
        cases lp_e h hz
        exact KK H locs ls hP (lv_sub hl [0, 1, 2, 3, 4, 5] rfl)
      · have h := if_f c4 h
        refine lv_lload_n hx hb dX9_cutsInTheMean_16 rfl (lv_at hl 3 rfl) ?_
        refine lv_ldc2 (v := 100) hx hb hC.2.2.1 (hC.2.2.2.1 _ kw725) dX9_cutsInTheMean_17 ?_
        refine lv_lmul hx hb dX9_cutsInTheMean_20 ?_
        refine lv_lload hx hb dX9_cutsInTheMean_21 (lv_at hl 4 rfl) ?_
        refine lv_ladd hx hb dX9_cutsInTheMean_23 ?_
        refine lv_lstore_n (lv' := [(3, .long ((j1 * 100) + j2)), (0, .int x1), (1, .int x2), (2, .int x3), (5, .long j2), (7, .int j3)]) hx hb dX9_cutsInTheMean_24 rfl hl (by decide) rfl (fun ls hl => ?_)
        refine lv_iload_n hx hb dX9_cutsInTheMean_25 rfl (lv_at hl 3 rfl) ?_
        refine lv_if_eq (tgt := 38) hx hb dX9_cutsInTheMean_26 (by decide) (fun c5 => ?_) (fun c5 => ?_)
        · have h := if_t c5 h
          refine lv_iload hx hb dX9_cutsInTheMean_38 (lv_at hl 5 rfl) ?_
          refine lv_iload_n hx hb dX9_cutsInTheMean_40 rfl (lv_at hl 1 rfl) ?_
          refine lv_icmp_ge (tgt := 49) hx hb dX9_cutsInTheMean_41 (by decide) (fun c6 => ?_) (fun c6 => ?_)
          · have h := if_t c6 h
            refine lv_iload hx hb dX9_cutsInTheMean_49 (lv_at hl 5 rfl) ?_
            refine lv_iload_n hx hb dX9_cutsInTheMean_51 rfl (lv_at hl 1 rfl) ?_
            refine lv_isub hx hb dX9_cutsInTheMean_52 ?_
            refine lv_iconst (v := 1) hx hb dX9_cutsInTheMean_53 (by decide) ?_
            refine lv_iadd hx hb dX9_cutsInTheMean_54 ?_
            refine lv_istore (lv' := [(8, .int ((j3 - x1) + 1)), (3, .long ((j1 * 100) + j2)), (0, .int x1), (1, .int x2), (2, .int x3), (5, .long j2), (7, .int j3)]) hx hb dX9_cutsInTheMean_55 hl (by decide) rfl (fun ls hl => ?_)
            refine lv_lload hx hb dX9_cutsInTheMean_57 (lv_at hl 5 rfl) ?_
            refine lv_bipush (v := 100) hx hb dX9_cutsInTheMean_59 (by decide) ?_
            refine lv_iload hx hb dX9_cutsInTheMean_61 (lv_at hl 0 rfl) ?_
            refine lv_iload_n hx hb dX9_cutsInTheMean_63 rfl (lv_at hl 3 rfl) ?_
            refine lv_imul hx hb dX9_cutsInTheMean_64 ?_
            refine lv_isub hx hb dX9_cutsInTheMean_65 ?_
            refine lv_i2l hx hb dX9_cutsInTheMean_66 rfl ?_
            refine lv_lmul hx hb dX9_cutsInTheMean_67 ?_
            refine lv_topl (fun v7 ev => ?_)
            have h := nm_h ev h
            refine lv_lstore (lv' := [(5, .long v7), (8, .int ((j3 - x1) + 1)), (3, .long ((j1 * 100) + j2)), (0, .int x1), (1, .int x2), (2, .int x3), (7, .int j3)]) hx hb dX9_cutsInTheMean_68 hl (by decide) rfl (fun ls hl => ?_)
            refine lv_iinc (v := (j3 + 1)) (lv' := [(7, .int (j3 + 1)), (5, .long v7), (8, .int ((j3 - x1) + 1)), (3, .long ((j1 * 100) + j2)), (0, .int x1), (1, .int x2), (2, .int x3)]) hx hb dX9_cutsInTheMean_70 hl (k := 6) rfl rfl (by decide) rfl (fun ls hl => ?_)
            refine lv_goto (tgt := 8) hx hb dX9_cutsInTheMean_73 (by decide) ?_
            exact ih _ _ _ _ _ _ (lp_n h hz) H locs ls hP (lv_sub hl [4, 5, 6, 3, 1, 0] rfl) KK
          · have h := if_f c6 h
            refine lv_iload hx hb dX9_cutsInTheMean_44 (lv_at hl 5 rfl) ?_
            refine lv_goto (tgt := 53) hx hb dX9_cutsInTheMean_46 (by decide) ?_
            refine lv_iconst (v := 1) hx hb dX9_cutsInTheMean_53 (by decide) ?_
            refine lv_iadd hx hb dX9_cutsInTheMean_54 ?_
            refine lv_istore (lv' := [(8, .int (j3 + 1)), (3, .long ((j1 * 100) + j2)), (0, .int x1), (1, .int x2), (2, .int x3), (5, .long j2), (7, .int j3)]) hx hb dX9_cutsInTheMean_55 hl (by decide) rfl (fun ls hl => ?_)
            refine lv_lload hx hb dX9_cutsInTheMean_57 (lv_at hl 5 rfl) ?_
            refine lv_bipush (v := 100) hx hb dX9_cutsInTheMean_59 (by decide) ?_
            refine lv_iload hx hb dX9_cutsInTheMean_61 (lv_at hl 0 rfl) ?_
            refine lv_iload_n hx hb dX9_cutsInTheMean_63 rfl (lv_at hl 3 rfl) ?_
            refine lv_imul hx hb dX9_cutsInTheMean_64 ?_
            refine lv_isub hx hb dX9_cutsInTheMean_65 ?_
            refine lv_i2l hx hb dX9_cutsInTheMean_66 rfl ?_
            refine lv_lmul hx hb dX9_cutsInTheMean_67 ?_
            refine lv_topl (fun v8 ev => ?_)
            have h := nm_h ev h
            refine lv_lstore (lv' := [(5, .long v8), (8, .int (j3 + 1)), (3, .long ((j1 * 100) + j2)), (0, .int x1), (1, .int x2), (2, .int x3), (7, .int j3)]) hx hb dX9_cutsInTheMean_68 hl (by decide) rfl (fun ls hl => ?_)
            refine lv_iinc (v := (j3 + 1)) (lv' := [(7, .int (j3 + 1)), (5, .long v8), (8, .int (j3 + 1)), (3, .long ((j1 * 100) + j2)), (0, .int x1), (1, .int x2), (2, .int x3)]) hx hb dX9_cutsInTheMean_70 hl (k := 6) rfl rfl (by decide) rfl (fun ls hl => ?_)
            refine lv_goto (tgt := 8) hx hb dX9_cutsInTheMean_73 (by decide) ?_
            exact ih _ _ _ _ _ _ (lp_n h hz) H locs ls hP (lv_sub hl [4, 5, 6, 3, 1, 0] rfl) KK
        · have h := if_f c5 h
          refine lv_iload hx hb dX9_cutsInTheMean_29 (lv_at hl 5 rfl) ?_
          refine lv_iconst (v := 2) hx hb dX9_cutsInTheMean_31 (by decide) ?_
          refine lv_idiv hx hb dX9_cutsInTheMean_32 (by decide) ?_
          refine lv_iconst (v := 1) hx hb dX9_cutsInTheMean_33 (by decide) ?_
          refine lv_iadd hx hb dX9_cutsInTheMean_34 ?_
          refine lv_goto (tgt := 55) hx hb dX9_cutsInTheMean_35 (by decide) ?_
          refine lv_istore (lv' := [(8, .int ((j3 / 2) + 1)), (3, .long ((j1 * 100) + j2)), (0, .int x1), (1, .int x2), (2, .int x3), (5, .long j2), (7, .int j3)]) hx hb dX9_cutsInTheMean_55 hl (by decide) rfl (fun ls hl => ?_)
          refine lv_lload hx hb dX9_cutsInTheMean_57 (lv_at hl 5 rfl) ?_
          refine lv_bipush (v := 100) hx hb dX9_cutsInTheMean_59 (by decide) ?_
          refine lv_iload hx hb dX9_cutsInTheMean_61 (lv_at hl 0 rfl) ?_
          refine lv_iload_n hx hb dX9_cutsInTheMean_63 rfl (lv_at hl 3 rfl) ?_
          refine lv_imul hx hb dX9_cutsInTheMean_64 ?_
          refine lv_isub hx hb dX9_cutsInTheMean_65 ?_
          refine lv_i2l hx hb dX9_cutsInTheMean_66 rfl ?_
          refine lv_lmul hx hb dX9_cutsInTheMean_67 ?_
          refine lv_topl (fun v9 ev => ?_)
          have h := nm_h ev h
          refine lv_lstore (lv' := [(5, .long v9), (8, .int ((j3 / 2) + 1)), (3, .long ((j1 * 100) + j2)), (0, .int x1), (1, .int x2), (2, .int x3), (7, .int j3)]) hx hb dX9_cutsInTheMean_68 hl (by decide) rfl (fun ls hl => ?_)
          refine lv_iinc (v := (j3 + 1)) (lv' := [(7, .int (j3 + 1)), (5, .long v9), (8, .int ((j3 / 2) + 1)), (3, .long ((j1 * 100) + j2)), (0, .int x1), (1, .int x2), (2, .int x3)]) hx hb dX9_cutsInTheMean_70 hl (k := 6) rfl rfl (by decide) rfl (fun ls hl => ?_)
          refine lv_goto (tgt := 8) hx hb dX9_cutsInTheMean_73 (by decide) ?_
          exact ih _ _ _ _ _ _ (lp_n h hz) H locs ls hP (lv_sub hl [4, 5, 6, 3, 1, 0] rfl) KK
  refine L1 FU _ _ _ j1x j2x j3x hlp H locs ls hP (lv_sub hl [3, 4, 5, 2, 1, 0] rfl) (fun H locs ls hP hl => ?_)
  refine lv_lload_n hx hb dX9_cutsInTheMean_76 rfl (lv_at hl 3 rfl) ?_
  rw [eZ]
  exact ret_l hC hr hlk hP dX9_cutsInTheMean_77 () (⟨Option.some.inj h, rfl⟩) rfl
