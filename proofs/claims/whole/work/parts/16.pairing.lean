set_option maxHeartbeats 8000000 in
set_option maxRecDepth 100000 in
theorem c_X1_look (l : Launch) (dC : Nat → ClassId) (dI : Nat → Nat → Nat) (cc : Nat → ClassId) (q0 q1 q2 q3 q4 q5 q6 : Nat) (lefts_ : Int32) (clogs : Int32) (number : Int32) (apart : Int32) (mates : (Nat → Int32)) (sizes : (Nat → Int32)) (o1_clogs : Int32) (o1_day : Int32) (o1_cells : (Nat → Int32)) (sz : Nat) (o_mates : (Nat → Int32)) (o_sizes : (Nat → Int32)) (o_lefts_ : Int32) (o_clogs : Int32) (hu : f_X1_look mates sizes o1_clogs o1_day o1_cells = some (o_mates, o_sizes, o_lefts_, o_clogs)) : Met l yX1_look (mw yX1_look cX1_look 3 none) ({ frames := 5, cells := 0, slots := 0, locals := 115 } : Room) (va_Pc [.ref q0, .ref q5] (mP (dC, dI) (ts cc) sz [(q0, .inr (1, [.ref q1, .ref q2, .ref q3, .ref q4, .int lefts_, .int clogs, .int number, .int apart])), (q2, .inl (cc 0, 10, .inl mates)), (q3, .inl (cc 0, 10, .inl sizes)), (q5, .inr (4, [.ref q6, .int o1_clogs, .int o1_day])), (q6, .inl (cc 0, 50, .inl o1_cells))])) ((fun A => va_Qv (fun (w : (Nat → Int32) × (Nat → Int32) × Int32 × Int32) => w = (o_mates, o_sizes, o_lefts_, o_clogs)) (fun (w : (Nat → Int32) × (Nat → Int32) × Int32 × Int32) t => va_P (dC, dI) classes [(q0, .inr (1, [.ref q1, .ref q2, .ref q3, .ref q4, .int w.2.2.1, .int w.2.2.2, .int number, .int apart])), (q2, .inl (cc 0, 10, .inl w.1)), (q3, .inl (cc 0, 10, .inl w.2.1)), (q5, .inr (4, [.ref q6, .int o1_clogs, .int o1_day])), (q6, .inl (cc 0, 50, .inl o1_cells))] t.heap) A) (va_A [(q0, .inr (1, [.ref q1, .ref q2, .ref q3, .ref q4, .int lefts_, .int clogs, .int number, .int apart])), (q2, .inl (cc 0, 10, .inl mates)), (q3, .inl (cc 0, 10, .inl sizes)), (q5, .inr (4, [.ref q6, .int o1_clogs, .int o1_day])), (q6, .inl (cc 0, 50, .inl o1_cells))] sz)) 0 0 (va_A [(q0, .inr (1, [.ref q1, .ref q2, .ref q3, .ref q4, .int lefts_, .int clogs, .int number, .int apart])), (q2, .inl (cc 0, 10, .inl mates)), (q3, .inl (cc 0, 10, .inl sizes)), (q5, .inr (4, [.ref q6, .int o1_clogs, .int o1_day])), (q6, .inl (cc 0, 50, .inl o1_cells))] sz) := by
  refine met_go (Qc := fun A => va_Qv (fun (w : (Nat → Int32) × (Nat → Int32) × Int32 × Int32) => w = (o_mates, o_sizes, o_lefts_, o_clogs)) (fun (w : (Nat → Int32) × (Nat → Int32) × Int32 × Int32) t => va_P (dC, dI) classes [(q0, .inr (1, [.ref q1, .ref q2, .ref q3, .ref q4, .int w.2.2.1, .int w.2.2.2, .int number, .int apart])), (q2, .inl (cc 0, 10, .inl w.1)), (q3, .inl (cc 0, 10, .inl w.2.1)), (q5, .inr (4, [.ref q6, .int o1_clogs, .int o1_day])), (q6, .inl (cc 0, 50, .inl o1_cells))] t.heap) A) (by decide) (Nat.le_of_ble_eq_true rfl) ?_
  intro p e s m below meth c A ls H locs hC hr hlk hin hA hP hl _
  have hC : CX p m c cX1_look 3 s ([.ref q0, .ref q5] : List Value).toArray RX1 (dC, dI) (ts cc) := hC
  have hx := hC.1.1
  have hb := hC.1.2
  have h := hu
  have hu0 := hu
  unfold f_X1_look at h
  have hl : lv_has ls 3 [(0, .ref q0), (1, .ref q5)] := hl
  refine W_abs (fun Z eZ => ?_)
  refine lv_aload_n hx hb dX1_look_0 rfl (lv_at hl 1 rfl) ?_
  refine lv_ifnonnull (tgt := 5) hx hb dX1_look_1 (by decide) ?_
  refine lv_aload_n hx hb dX1_look_5 rfl (lv_at hl 0 rfl) ?_
  refine lv_iconst (v := 0) hx hb dX1_look_6 (by decide) ?_
  refine lv_bipush (v := 10) hx hb dX1_look_7 (by decide) ?_
  refine lv_aload_n hx hb dX1_look_9 rfl (lv_at hl 1 rfl) ?_
  refine g_get hC hP fg_X1_24 3 rfl rfl dX1_look_10 ?_
  refine g_min hC hl.1 mh_X1_30 (Nat.le_of_ble_eq_true rfl) (Nat.le_of_ble_eq_true rfl) (Nat.zero_le _) (Nat.zero_le _) dX1_look_13 ?_
  refine lv_topi (fun v1 ev => ?_)
  have h := nm_h ev h
  refine g_max hC hl.1 mh_X1_36 (Nat.le_of_ble_eq_true rfl) (Nat.le_of_ble_eq_true rfl) (Nat.zero_le _) (Nat.zero_le _) dX1_look_16 ?_
  refine lv_topi (fun v2 ev => ?_)
  have h := nm_h ev h
  refine g_put hC hP fg_X1_39 0 rfl rfl rfl (Nat.le_of_ble_eq_true rfl) dX1_look_19 (fun H locs hP => ?_)
  have hP : PD (dC, dI) A s.heap [(q0, .inr (1, [.ref q1, .ref q2, .ref q3, .ref q4, .int lefts_, .int v2, .int number, .int apart])), (q2, .inl (cc 0, 10, .inl mates)), (q3, .inl (cc 0, 10, .inl sizes)), (q5, .inr (4, [.ref q6, .int o1_clogs, .int o1_day])), (q6, .inl (cc 0, 50, .inl o1_cells))] H locs := hP
  refine lv_aload_n hx hb dX1_look_22 rfl (lv_at hl 0 rfl) ?_
  refine lv_aload_n hx hb dX1_look_23 rfl (lv_at hl 1 rfl) ?_
  refine lv_iconst (v := 0) hx hb dX1_look_24 (by decide) ?_
  obtain ⟨r3, hu, h⟩ := bnd_h h
  refine kc_i (kV hC (c_X4_ofSide l dC dI cc q5 q6 o1_clogs o1_day o1_cells 0 H.size r3 hu) cv_X1_40 kw572 rfl rfl ⟨(Nat.le_of_ble_eq_true rfl), (Nat.le_of_ble_eq_true rfl)⟩ hP [3, 4] rfl rfl rfl (q0 := 3) rfl (As := [.int 0]) (rest := [.ref q0]) rfl rfl hl.1 (Nat.le_of_ble_eq_true rfl) dX1_look_25 ⟨Nat.zero_le _, Nat.zero_le _⟩) hP hA [3, 4] rfl rfl (fun H locs hP => ?_)
  have hP : PD (dC, dI) A s.heap [(q0, .inr (1, [.ref q1, .ref q2, .ref q3, .ref q4, .int lefts_, .int v2, .int number, .int apart])), (q2, .inl (cc 0, 10, .inl mates)), (q3, .inl (cc 0, 10, .inl sizes)), (q5, .inr (4, [.ref q6, .int o1_clogs, .int o1_day])), (q6, .inl (cc 0, 50, .inl o1_cells))] H locs := hP
  refine g_put hC hP fg_X1_44 0 rfl rfl rfl (Nat.le_of_ble_eq_true rfl) dX1_look_28 (fun H locs hP => ?_)
  have hP : PD (dC, dI) A s.heap [(q0, .inr (1, [.ref q1, .ref q2, .ref q3, .ref q4, .int r3, .int v2, .int number, .int apart])), (q2, .inl (cc 0, 10, .inl mates)), (q3, .inl (cc 0, 10, .inl sizes)), (q5, .inr (4, [.ref q6, .int o1_clogs, .int o1_day])), (q6, .inl (cc 0, 50, .inl o1_cells))] H locs := hP
  refine lv_iconst (v := 0) hx hb dX1_look_31 (by decide) ?_
  refine lv_istore_n (lv' := [(2, .int 0), (0, .ref q0), (1, .ref q5)]) hx hb dX1_look_32 rfl hl (by decide) rfl (fun ls hl => ?_)
  obtain ⟨⟨j4x, w5x, w6x⟩, hlp, h⟩ := bnd_h h
  have L1 : ∀ (n : Nat) (j4 : Int32) (w5 : (Nat → Int32)) (w6 : (Nat → Int32)) (j4x : Int32) (w5x : (Nat → Int32)) (w6x : (Nat → Int32)), lp (u3 (b_X1_look_1 o1_cells o1_clogs o1_day v2)) n (j4, w5, w6) = some (j4x, w5x, w6x) → ∀ (H : Heap) (locs : List Loc) (ls : Array Slot), PD (dC, dI) A s.heap [(q0, .inr (1, [.ref q1, .ref q2, .ref q3, .ref q4, .int r3, .int v2, .int number, .int apart])), (q2, .inl (cc 0, 10, .inl w5)), (q3, .inl (cc 0, 10, .inl w6)), (q5, .inr (4, [.ref q6, .int o1_clogs, .int o1_day])), (q6, .inl (cc 0, 50, .inl o1_cells))] H locs → lv_has ls 3 [(0, .ref q0), (1, .ref q5), (2, .int j4)] → (∀ (H : Heap) (locs : List Loc) (ls : Array Slot), PD (dC, dI) A s.heap [(q0, .inr (1, [.ref q1, .ref q2, .ref q3, .ref q4, .int r3, .int v2, .int number, .int apart])), (q2, .inl (cc 0, 10, .inl w5x)), (q3, .inl (cc 0, 10, .inl w6x)), (q5, .inr (4, [.ref q6, .int o1_clogs, .int o1_day])), (q6, .inl (cc 0, 50, .inl o1_cells))] H locs → lv_has ls 3 [(0, .ref q0), (1, .ref q5), (2, .int j4x)] → W p l e ({ frames := 5, cells := 0, slots := 0, locals := 115 } : Room) s m ([.ref q0, .ref q5] : List Value).toArray below meth c H locs 0 0 Z (F0 m 77 ls [])) → W p l e ({ frames := 5, cells := 0, slots := 0, locals := 115 } : Room) s m ([.ref q0, .ref q5] : List Value).toArray below meth c H locs 0 0 Z (F0 m 33 ls []) := by
    intro n
    induction n with
    | zero => intro j4 w5 w6 j4x w5x w6x h; exact (lp_0 h).elim
    | succ n ih =>
      intro j4 w5 w6 j4x w5x w6x h H locs ls hP hl KK
      obtain ⟨y, h, hz⟩ := lp_h h
      refine lv_iload_n hx hb dX1_look_33 rfl (lv_at hl 2 rfl) ?_
      refine lv_aload_n hx hb dX1_look_34 rfl (lv_at hl 0 rfl) ?_
      refine g_get hC hP fg_X1_39 0 rfl rfl dX1_look_35 ?_
      refine lv_icmp_ge (tgt := 77) hx hb dX1_look_38 (by decide) (fun c7 => ?_) (fun c7 => ?_)
      · have h := if_t c7 h
        cases lp_e h hz
        exact KK H locs ls hP (lv_sub hl [0, 1, 2] rfl)
      · have h := if_f c7 h
        refine lv_aload_n hx hb dX1_look_41 rfl (lv_at hl 0 rfl) ?_
        refine g_get hC hP fg_X1_15 0 rfl rfl dX1_look_42 ?_
        refine lv_iload_n hx hb dX1_look_45 rfl (lv_at hl 2 rfl) ?_
        refine lv_aload_n hx hb dX1_look_46 rfl (lv_at hl 1 rfl) ?_
        refine lv_iload_n hx hb dX1_look_47 rfl (lv_at hl 2 rfl) ?_
        obtain ⟨r8, hu, h⟩ := bnd_h h
        refine kc_i (kV hC (c_X4_matesOf l dC dI cc q5 q6 o1_clogs o1_day o1_cells j4 H.size r8 hu) cv_X1_47 kw557 rfl rfl ⟨(Nat.le_of_ble_eq_true rfl), (Nat.le_of_ble_eq_true rfl)⟩ hP [3, 4] rfl rfl rfl (q0 := 3) rfl (As := [.int j4]) (rest := [.int j4, .ref q2]) rfl rfl hl.1 (Nat.le_of_ble_eq_true rfl) dX1_look_48 ⟨Nat.zero_le _, Nat.zero_le _⟩) hP hA [3, 4] rfl rfl (fun H locs hP => ?_)
        have hP : PD (dC, dI) A s.heap [(q0, .inr (1, [.ref q1, .ref q2, .ref q3, .ref q4, .int r3, .int v2, .int number, .int apart])), (q2, .inl (cc 0, 10, .inl w5)), (q3, .inl (cc 0, 10, .inl w6)), (q5, .inr (4, [.ref q6, .int o1_clogs, .int o1_day])), (q6, .inl (cc 0, 50, .inl o1_cells))] H locs := hP
        obtain ⟨w9, hu, h⟩ := bnd_h h
        refine kc_v (kN hC (c_X9_put l dC dI cc q2 10 w5 j4 r8 H.size w9 hu) cn_X1_50 kw320 rfl rfl ⟨(Nat.le_of_ble_eq_true rfl), (Nat.le_of_ble_eq_true rfl)⟩ hP [1] rfl rfl (As := [.ref q2, .int j4, .int r8]) (rest := []) rfl rfl hl.1 (Nat.le_of_ble_eq_true rfl) dX1_look_51 ⟨Nat.zero_le _, Nat.zero_le _⟩) hP hA [1] rfl rfl (fun H locs hP => ?_)
        have hP : PD (dC, dI) A s.heap [(q0, .inr (1, [.ref q1, .ref q2, .ref q3, .ref q4, .int r3, .int v2, .int number, .int apart])), (q2, .inl (cc 0, 10, .inl w9)), (q3, .inl (cc 0, 10, .inl w6)), (q5, .inr (4, [.ref q6, .int o1_clogs, .int o1_day])), (q6, .inl (cc 0, 50, .inl o1_cells))] H locs := hP
        refine lv_aload_n hx hb dX1_look_54 rfl (lv_at hl 0 rfl) ?_
        refine g_get hC hP fg_X1_18 0 rfl rfl dX1_look_55 ?_
        refine lv_iload_n hx hb dX1_look_58 rfl (lv_at hl 2 rfl) ?_
        refine lv_aload_n hx hb dX1_look_59 rfl (lv_at hl 1 rfl) ?_
        refine lv_iload_n hx hb dX1_look_60 rfl (lv_at hl 2 rfl) ?_
        refine lv_aload_n hx hb dX1_look_61 rfl (lv_at hl 1 rfl) ?_
        refine g_get hC hP fg_X1_54 3 rfl rfl dX1_look_62 ?_
        obtain ⟨r10, hu, h⟩ := bnd_h h
        refine kc_i (kV hC (c_X4_sizeOn l dC dI cc q5 q6 o1_clogs o1_day o1_cells j4 o1_day H.size r10 hu) cv_X1_57 kw459 rfl rfl ⟨(Nat.le_of_ble_eq_true rfl), (Nat.le_of_ble_eq_true rfl)⟩ hP [3, 4] rfl rfl rfl (q0 := 3) rfl (As := [.int j4, .int o1_day]) (rest := [.int j4, .ref q3]) rfl rfl hl.1 (Nat.le_of_ble_eq_true rfl) dX1_look_65 ⟨Nat.zero_le _, Nat.zero_le _⟩) hP hA [3, 4] rfl rfl (fun H locs hP => ?_)
        have hP : PD (dC, dI) A s.heap [(q0, .inr (1, [.ref q1, .ref q2, .ref q3, .ref q4, .int r3, .int v2, .int number, .int apart])), (q2, .inl (cc 0, 10, .inl w9)), (q3, .inl (cc 0, 10, .inl w6)), (q5, .inr (4, [.ref q6, .int o1_clogs, .int o1_day])), (q6, .inl (cc 0, 50, .inl o1_cells))] H locs := hP
        obtain ⟨w11, hu, h⟩ := bnd_h h
        refine kc_v (kN hC (c_X9_put l dC dI cc q3 10 w6 j4 r10 H.size w11 hu) cn_X1_50 kw320 rfl rfl ⟨(Nat.le_of_ble_eq_true rfl), (Nat.le_of_ble_eq_true rfl)⟩ hP [2] rfl rfl (As := [.ref q3, .int j4, .int r10]) (rest := []) rfl rfl hl.1 (Nat.le_of_ble_eq_true rfl) dX1_look_68 ⟨Nat.zero_le _, Nat.zero_le _⟩) hP hA [2] rfl rfl (fun H locs hP => ?_)
        have hP : PD (dC, dI) A s.heap [(q0, .inr (1, [.ref q1, .ref q2, .ref q3, .ref q4, .int r3, .int v2, .int number, .int apart])), (q2, .inl (cc 0, 10, .inl w9)), (q3, .inl (cc 0, 10, .inl w11)), (q5, .inr (4, [.ref q6, .int o1_clogs, .int o1_day])), (q6, .inl (cc 0, 50, .inl o1_cells))] H locs := hP
        refine lv_iinc (v := (j4 + 1)) (lv' := [(2, .int (j4 + 1)), (0, .ref q0), (1, .ref q5)]) hx hb dX1_look_71 hl (k := 2) rfl rfl (by decide) rfl (fun ls hl => ?_)
        refine lv_goto (tgt := 33) hx hb dX1_look_74 (by decide) ?_
        exact ih _ _ _ _ _ _ (lp_n h hz) H locs ls hP (lv_sub hl [1, 2, 0] rfl) KK
  refine L1 FU _ _ _ j4x w5x w6x hlp H locs ls hP (lv_sub hl [1, 2, 0] rfl) (fun H locs ls hP hl => ?_)
  rw [eZ]
  exact ret_v hC hr hlk hP dX1_look_77 (w5x, w6x, r3, v2) (Option.some.inj h) rfl
set_option maxHeartbeats 8000000 in
set_option maxRecDepth 100000 in
theorem c_X1_distance (l : Launch) (dC : Nat → ClassId) (dI : Nat → Nat → Nat) (cc : Nat → ClassId) (q0 q1 q2 q3 q4 : Nat) (lefts_ : Int32) (clogs : Int32) (number : Int32) (apart : Int32) (sizes : (Nat → Int32)) (x1 : Int32) (x2 : Int32) (sz : Nat) (ret : Int32) (hu : f_X1_distance x1 x2 sizes = some ret) : Met l yX1_distance (mw yX1_distance cX1_distance 3 (some .int)) ({ frames := 1, cells := 0, slots := 0, locals := 21 } : Room) (va_Pc [.ref q0, .int x1, .int x2] (mP (dC, dI) (ts cc) sz [(q0, .inr (1, [.ref q1, .ref q2, .ref q3, .ref q4, .int lefts_, .int clogs, .int number, .int apart])), (q3, .inl (cc 0, 10, .inl sizes))])) ((fun A => va_Qi (fun (r : Int32) (w : Unit) => r = ret ∧ w = ()) (fun (w : Unit) t => va_P (dC, dI) classes [(q0, .inr (1, [.ref q1, .ref q2, .ref q3, .ref q4, .int lefts_, .int clogs, .int number, .int apart])), (q3, .inl (cc 0, 10, .inl sizes))] t.heap) A) (va_A [(q0, .inr (1, [.ref q1, .ref q2, .ref q3, .ref q4, .int lefts_, .int clogs, .int number, .int apart])), (q3, .inl (cc 0, 10, .inl sizes))] sz)) 0 0 (va_A [(q0, .inr (1, [.ref q1, .ref q2, .ref q3, .ref q4, .int lefts_, .int clogs, .int number, .int apart])), (q3, .inl (cc 0, 10, .inl sizes))] sz) := by
  refine met_go (Qc := fun A => va_Qi (fun (r : Int32) (w : Unit) => r = ret ∧ w = ()) (fun (w : Unit) t => va_P (dC, dI) classes [(q0, .inr (1, [.ref q1, .ref q2, .ref q3, .ref q4, .int lefts_, .int clogs, .int number, .int apart])), (q3, .inl (cc 0, 10, .inl sizes))] t.heap) A) (by decide) (Nat.le_of_ble_eq_true rfl) ?_
  intro p e s m below meth c A ls H locs hC hr hlk hin hA hP hl _
  have hC : CX p m c cX1_distance 3 s ([.ref q0, .int x1, .int x2] : List Value).toArray RX1 (dC, dI) (ts cc) := hC
  have hx := hC.1.1
  have hb := hC.1.2
  have h := hu
  have hu0 := hu
  unfold f_X1_distance at h
  have hl : lv_has ls 3 [(0, .ref q0), (1, .int x1), (2, .int x2)] := hl
  refine lv_aload_n hx hb dX1_distance_0 rfl (lv_at hl 0 rfl) ?_
  refine g_get hC hP fg_X1_18 0 rfl rfl dX1_distance_1 ?_
  refine lv_iload_n hx hb dX1_distance_4 rfl (lv_at hl 1 rfl) ?_
  obtain ⟨r1, hu, h⟩ := bnd_h h
  refine kc_i (kN hC (c_X9_at l dC dI cc q3 10 sizes x1 H.size r1 hu) cn_X1_86 kw332 rfl rfl ⟨(Nat.le_of_ble_eq_true rfl), (Nat.le_of_ble_eq_true rfl)⟩ hP [1] rfl rfl (As := [.ref q3, .int x1]) (rest := []) rfl rfl hl.1 (Nat.le_of_ble_eq_true rfl) dX1_distance_5 ⟨Nat.zero_le _, Nat.zero_le _⟩) hP hA [1] rfl rfl (fun H locs hP => ?_)
  have hP : PD (dC, dI) A s.heap [(q0, .inr (1, [.ref q1, .ref q2, .ref q3, .ref q4, .int lefts_, .int clogs, .int number, .int apart])), (q3, .inl (cc 0, 10, .inl sizes))] H locs := hP
  refine lv_aload_n hx hb dX1_distance_8 rfl (lv_at hl 0 rfl) ?_
  refine g_get hC hP fg_X1_18 0 rfl rfl dX1_distance_9 ?_
  refine lv_iload_n hx hb dX1_distance_12 rfl (lv_at hl 2 rfl) ?_
  obtain ⟨r2, hu, h⟩ := bnd_h h
  refine kc_i (kN hC (c_X9_at l dC dI cc q3 10 sizes x2 H.size r2 hu) cn_X1_86 kw332 rfl rfl ⟨(Nat.le_of_ble_eq_true rfl), (Nat.le_of_ble_eq_true rfl)⟩ hP [1] rfl rfl (As := [.ref q3, .int x2]) (rest := [.int r1]) rfl rfl hl.1 (Nat.le_of_ble_eq_true rfl) dX1_distance_13 ⟨Nat.zero_le _, Nat.zero_le _⟩) hP hA [1] rfl rfl (fun H locs hP => ?_)
  have hP : PD (dC, dI) A s.heap [(q0, .inr (1, [.ref q1, .ref q2, .ref q3, .ref q4, .int lefts_, .int clogs, .int number, .int apart])), (q3, .inl (cc 0, 10, .inl sizes))] H locs := hP
  refine lv_isub hx hb dX1_distance_16 ?_
  refine g_abs hC hl.1 mh_X1_97 (Nat.le_of_ble_eq_true rfl) (Nat.le_of_ble_eq_true rfl) (Nat.zero_le _) (Nat.zero_le _) dX1_distance_17 ?_
  refine lv_topi (fun v3 ev => ?_)
  have h := nm_h ev h
  exact ret_i hC hr hlk hP dX1_distance_20 () (⟨Option.some.inj h, rfl⟩) rfl
set_option maxHeartbeats 8000000 in
set_option maxRecDepth 100000 in
theorem c_X1_worthOf (l : Launch) (dC : Nat → ClassId) (dI : Nat → Nat → Nat) (cc : Nat → ClassId) (q0 q1 q2 q3 q4 : Nat) (lefts_ : Int32) (clogs : Int32) (number : Int32) (apart : Int32) (sets : (Nat → Int32)) (sizes : (Nat → Int32)) (x1 : Int32) (x2 : Int32) (x3 : Int32) (sz : Nat) (ret : Int32) (hu : f_X1_worthOf x1 x2 x3 sets sizes = some ret) : Met l yX1_worthOf (mw yX1_worthOf cX1_worthOf 4 (some .int)) ({ frames := 2, cells := 0, slots := 0, locals := 43 } : Room) (va_Pc [.ref q0, .int x1, .int x2, .int x3] (mP (dC, dI) (ts cc) sz [(q0, .inr (1, [.ref q1, .ref q2, .ref q3, .ref q4, .int lefts_, .int clogs, .int number, .int apart])), (q1, .inl (cc 0, 1024, .inl sets)), (q3, .inl (cc 0, 10, .inl sizes))])) ((fun A => va_Qi (fun (r : Int32) (w : Unit) => r = ret ∧ w = ()) (fun (w : Unit) t => va_P (dC, dI) classes [(q0, .inr (1, [.ref q1, .ref q2, .ref q3, .ref q4, .int lefts_, .int clogs, .int number, .int apart])), (q1, .inl (cc 0, 1024, .inl sets)), (q3, .inl (cc 0, 10, .inl sizes))] t.heap) A) (va_A [(q0, .inr (1, [.ref q1, .ref q2, .ref q3, .ref q4, .int lefts_, .int clogs, .int number, .int apart])), (q1, .inl (cc 0, 1024, .inl sets)), (q3, .inl (cc 0, 10, .inl sizes))] sz)) 0 0 (va_A [(q0, .inr (1, [.ref q1, .ref q2, .ref q3, .ref q4, .int lefts_, .int clogs, .int number, .int apart])), (q1, .inl (cc 0, 1024, .inl sets)), (q3, .inl (cc 0, 10, .inl sizes))] sz) := by
  refine met_go (Qc := fun A => va_Qi (fun (r : Int32) (w : Unit) => r = ret ∧ w = ()) (fun (w : Unit) t => va_P (dC, dI) classes [(q0, .inr (1, [.ref q1, .ref q2, .ref q3, .ref q4, .int lefts_, .int clogs, .int number, .int apart])), (q1, .inl (cc 0, 1024, .inl sets)), (q3, .inl (cc 0, 10, .inl sizes))] t.heap) A) (by decide) (Nat.le_of_ble_eq_true rfl) ?_
  intro p e s m below meth c A ls H locs hC hr hlk hin hA hP hl _
  have hC : CX p m c cX1_worthOf 4 s ([.ref q0, .int x1, .int x2, .int x3] : List Value).toArray RX1 (dC, dI) (ts cc) := hC
  have hx := hC.1.1
  have hb := hC.1.2
  have h := hu
  have hu0 := hu
  unfold f_X1_worthOf at h
  have hl : lv_has ls 4 [(0, .ref q0), (1, .int x1), (2, .int x2), (3, .int x3)] := hl
  refine lv_aload_n hx hb dX1_worthOf_0 rfl (lv_at hl 0 rfl) ?_
  refine g_get hC hP fg_X1_9 0 rfl rfl dX1_worthOf_1 ?_
  refine lv_iload_n hx hb dX1_worthOf_4 rfl (lv_at hl 1 rfl) ?_
  refine lv_iconst (v := 1) hx hb dX1_worthOf_5 (by decide) ?_
  refine lv_iload_n hx hb dX1_worthOf_6 rfl (lv_at hl 2 rfl) ?_
  refine lv_ishl hx hb dX1_worthOf_7 ?_
  refine lv_ior hx hb dX1_worthOf_8 ?_
  refine lv_iconst (v := 1) hx hb dX1_worthOf_9 (by decide) ?_
  refine lv_iload_n hx hb dX1_worthOf_10 rfl (lv_at hl 3 rfl) ?_
  refine lv_ishl hx hb dX1_worthOf_11 ?_
  refine lv_ior hx hb dX1_worthOf_12 ?_
  obtain ⟨r1, hu, h⟩ := bnd_h h
  refine kc_i (kN hC (c_X9_at l dC dI cc q1 1024 sets ((x1 ||| (1 <<< (x2 &&& 31))) ||| (1 <<< (x3 &&& 31))) H.size r1 hu) cn_X1_86 kw332 rfl rfl ⟨(Nat.le_of_ble_eq_true rfl), (Nat.le_of_ble_eq_true rfl)⟩ hP [1] rfl rfl (As := [.ref q1, .int ((x1 ||| (1 <<< (x2 &&& 31))) ||| (1 <<< (x3 &&& 31)))]) (rest := []) rfl rfl hl.1 (Nat.le_of_ble_eq_true rfl) dX1_worthOf_13 ⟨Nat.zero_le _, Nat.zero_le _⟩) hP hA [1] rfl rfl (fun H locs hP => ?_)
  have hP : PD (dC, dI) A s.heap [(q0, .inr (1, [.ref q1, .ref q2, .ref q3, .ref q4, .int lefts_, .int clogs, .int number, .int apart])), (q1, .inl (cc 0, 1024, .inl sets)), (q3, .inl (cc 0, 10, .inl sizes))] H locs := hP
  refine lv_sipush (v := 1000) hx hb dX1_worthOf_16 (by decide) ?_
  refine lv_iadd hx hb dX1_worthOf_19 ?_
  refine lv_aload_n hx hb dX1_worthOf_20 rfl (lv_at hl 0 rfl) ?_
  refine lv_iload_n hx hb dX1_worthOf_21 rfl (lv_at hl 2 rfl) ?_
  refine lv_iload_n hx hb dX1_worthOf_22 rfl (lv_at hl 3 rfl) ?_
  obtain ⟨r2, hu, h⟩ := bnd_h h
  refine kc_i (kV hC (c_X1_distance l dC dI cc q0 q1 q2 q3 q4 lefts_ clogs number apart sizes x2 x3 H.size r2 hu) cv_X1_94 kw595 rfl rfl ⟨(Nat.le_of_ble_eq_true rfl), (Nat.le_of_ble_eq_true rfl)⟩ hP [0, 2] rfl rfl rfl (q0 := 0) rfl (As := [.int x2, .int x3]) (rest := [.int (r1 + 1000)]) rfl rfl hl.1 (Nat.le_of_ble_eq_true rfl) dX1_worthOf_23 ⟨Nat.zero_le _, Nat.zero_le _⟩) hP hA [0, 2] rfl rfl (fun H locs hP => ?_)
  have hP : PD (dC, dI) A s.heap [(q0, .inr (1, [.ref q1, .ref q2, .ref q3, .ref q4, .int lefts_, .int clogs, .int number, .int apart])), (q1, .inl (cc 0, 1024, .inl sets)), (q3, .inl (cc 0, 10, .inl sizes))] H locs := hP
  refine lv_isub hx hb dX1_worthOf_26 ?_
  exact ret_i hC hr hlk hP dX1_worthOf_27 () (⟨Option.some.inj h, rfl⟩) rfl
set_option maxHeartbeats 8000000 in
set_option maxRecDepth 100000 in
theorem c_X1_bestWithout (l : Launch) (dC : Nat → ClassId) (dI : Nat → Nat → Nat) (cc : Nat → ClassId) (q0 q1 q2 q3 q4 : Nat) (lefts_ : Int32) (clogs : Int32) (number : Int32) (apart : Int32) (sets : (Nat → Int32)) (mates : (Nat → Int32)) (sizes : (Nat → Int32)) (x1 : Int32) (sz : Nat) (ret : Int32) (hu : f_X1_bestWithout x1 lefts_ clogs sets mates sizes = some ret) : Met l yX1_bestWithout (mw yX1_bestWithout cX1_bestWithout 5 (some .int)) ({ frames := 3, cells := 0, slots := 0, locals := 66 } : Room) (va_Pc [.ref q0, .int x1] (mP (dC, dI) (ts cc) sz [(q0, .inr (1, [.ref q1, .ref q2, .ref q3, .ref q4, .int lefts_, .int clogs, .int number, .int apart])), (q1, .inl (cc 0, 1024, .inl sets)), (q2, .inl (cc 0, 10, .inl mates)), (q3, .inl (cc 0, 10, .inl sizes))])) ((fun A => va_Qi (fun (r : Int32) (w : Unit) => r = ret ∧ w = ()) (fun (w : Unit) t => va_P (dC, dI) classes [(q0, .inr (1, [.ref q1, .ref q2, .ref q3, .ref q4, .int lefts_, .int clogs, .int number, .int apart])), (q1, .inl (cc 0, 1024, .inl sets)), (q2, .inl (cc 0, 10, .inl mates)), (q3, .inl (cc 0, 10, .inl sizes))] t.heap) A) (va_A [(q0, .inr (1, [.ref q1, .ref q2, .ref q3, .ref q4, .int lefts_, .int clogs, .int number, .int apart])), (q1, .inl (cc 0, 1024, .inl sets)), (q2, .inl (cc 0, 10, .inl mates)), (q3, .inl (cc 0, 10, .inl sizes))] sz)) 0 0 (va_A [(q0, .inr (1, [.ref q1, .ref q2, .ref q3, .ref q4, .int lefts_, .int clogs, .int number, .int apart])), (q1, .inl (cc 0, 1024, .inl sets)), (q2, .inl (cc 0, 10, .inl mates)), (q3, .inl (cc 0, 10, .inl sizes))] sz) := by
  refine met_go (Qc := fun A => va_Qi (fun (r : Int32) (w : Unit) => r = ret ∧ w = ()) (fun (w : Unit) t => va_P (dC, dI) classes [(q0, .inr (1, [.ref q1, .ref q2, .ref q3, .ref q4, .int lefts_, .int clogs, .int number, .int apart])), (q1, .inl (cc 0, 1024, .inl sets)), (q2, .inl (cc 0, 10, .inl mates)), (q3, .inl (cc 0, 10, .inl sizes))] t.heap) A) (by decide) (Nat.le_of_ble_eq_true rfl) ?_
  intro p e s m below meth c A ls H locs hC hr hlk hin hA hP hl _
  have hC : CX p m c cX1_bestWithout 5 s ([.ref q0, .int x1] : List Value).toArray RX1 (dC, dI) (ts cc) := hC
  have hx := hC.1.1
  have hb := hC.1.2
  have h := hu
  have hu0 := hu
  unfold f_X1_bestWithout at h
  have hl : lv_has ls 5 [(0, .ref q0), (1, .int x1)] := hl
  refine W_abs (fun Z eZ => ?_)
  refine lv_iconst (v := 0) hx hb dX1_bestWithout_0 (by decide) ?_
  refine lv_istore_n (lv' := [(2, .int 0), (0, .ref q0), (1, .int x1)]) hx hb dX1_bestWithout_1 rfl hl (by decide) rfl (fun ls hl => ?_)
  obtain ⟨j1x, hlp, h⟩ := bnd_h h
  have L1 : ∀ (n : Nat) (j1 : Int32) (j1x : Int32), lp ((b_X1_bestWithout_1 clogs lefts_ x1)) n j1 = some j1x → ∀ (H : Heap) (locs : List Loc) (ls : Array Slot), PD (dC, dI) A s.heap [(q0, .inr (1, [.ref q1, .ref q2, .ref q3, .ref q4, .int lefts_, .int clogs, .int number, .int apart])), (q1, .inl (cc 0, 1024, .inl sets)), (q2, .inl (cc 0, 10, .inl mates)), (q3, .inl (cc 0, 10, .inl sizes))] H locs → lv_has ls 5 [(0, .ref q0), (1, .int x1), (2, .int j1)] → (∀ (H : Heap) (locs : List Loc) (ls : Array Slot), PD (dC, dI) A s.heap [(q0, .inr (1, [.ref q1, .ref q2, .ref q3, .ref q4, .int lefts_, .int clogs, .int number, .int apart])), (q1, .inl (cc 0, 1024, .inl sets)), (q2, .inl (cc 0, 10, .inl mates)), (q3, .inl (cc 0, 10, .inl sizes))] H locs → lv_has ls 5 [(0, .ref q0), (1, .int x1), (2, .int j1x)] → W p l e ({ frames := 3, cells := 0, slots := 0, locals := 66 } : Room) s m ([.ref q0, .int x1] : List Value).toArray below meth c H locs 0 0 Z (F0 m 31 ls [])) → W p l e ({ frames := 3, cells := 0, slots := 0, locals := 66 } : Room) s m ([.ref q0, .int x1] : List Value).toArray below meth c H locs 0 0 Z (F0 m 2 ls []) := by
    intro n
    induction n with
    | zero => intro j1 j1x h; exact (lp_0 h).elim
    | succ n ih =>
      intro j1 j1x h H locs ls hP hl KK
      obtain ⟨y, h, hz⟩ := lp_h h
      refine lv_iload_n hx hb dX1_bestWithout_2 rfl (lv_at hl 2 rfl) ?_
      refine lv_aload_n hx hb dX1_bestWithout_3 rfl (lv_at hl 0 rfl) ?_
      refine g_get hC hP fg_X1_39 0 rfl rfl dX1_bestWithout_4 ?_
      refine lv_icmp_ge (tgt := 31) hx hb dX1_bestWithout_7 (by decide) (fun c2 => ?_) (fun c2 => ?_)
      · have h := if_t c2 h
        cases lp_e h hz
        exact KK H locs ls hP (lv_sub hl [0, 1, 2] rfl)
      · have h := if_f c2 h
        refine lv_aload_n hx hb dX1_bestWithout_10 rfl (lv_at hl 0 rfl) ?_
        refine g_get hC hP fg_X1_44 0 rfl rfl dX1_bestWithout_11 ?_
        refine lv_iload_n hx hb dX1_bestWithout_14 rfl (lv_at hl 1 rfl) ?_
        refine lv_iconst (v := -1) hx hb dX1_bestWithout_15 (by decide) ?_
        refine lv_ixor hx hb dX1_bestWithout_16 ?_
        refine lv_iand hx hb dX1_bestWithout_17 ?_
        refine lv_iload_n hx hb dX1_bestWithout_18 rfl (lv_at hl 2 rfl) ?_
        obtain ⟨r3, hu, h⟩ := bnd_h h
        refine kc_z (kN hC (c_X9_hasBit l dC dI cc (lefts_ &&& (x1 ^^^ (-1))) j1 H.size r3 hu) cn_X1_75 kw586 rfl rfl ⟨(Nat.le_of_ble_eq_true rfl), (Nat.le_of_ble_eq_true rfl)⟩ hP [] rfl rfl (As := [.int (lefts_ &&& (x1 ^^^ (-1))), .int j1]) (rest := []) rfl rfl hl.1 (Nat.le_of_ble_eq_true rfl) dX1_bestWithout_19 ⟨Nat.zero_le _, Nat.zero_le _⟩) hP hA [] rfl rfl (fun hz_r3 H locs hP => ?_)
        have hP : PD (dC, dI) A s.heap [(q0, .inr (1, [.ref q1, .ref q2, .ref q3, .ref q4, .int lefts_, .int clogs, .int number, .int apart])), (q1, .inl (cc 0, 1024, .inl sets)), (q2, .inl (cc 0, 10, .inl mates)), (q3, .inl (cc 0, 10, .inl sizes))] H locs := hP
        refine lv_if_ne (tgt := 31) hx hb dX1_bestWithout_22 (by decide) (fun c4 => ?_) (fun c4 => ?_)
        · have h := if_f c4 h
          cases lp_e h hz
          exact KK H locs ls hP (lv_sub hl [0, 1, 2] rfl)
        · have h := if_t c4 h
          refine lv_iinc (v := (j1 + 1)) (lv' := [(2, .int (j1 + 1)), (0, .ref q0), (1, .int x1)]) hx hb dX1_bestWithout_25 hl (k := 2) rfl rfl (by decide) rfl (fun ls hl => ?_)
          refine lv_goto (tgt := 2) hx hb dX1_bestWithout_28 (by decide) ?_
          exact ih _ _ (lp_n h hz) H locs ls hP (lv_sub hl [1, 2, 0] rfl) KK
  refine L1 FU _ j1x hlp H locs ls hP (lv_sub hl [1, 2, 0] rfl) (fun H locs ls hP hl => ?_)
  refine lv_iload_n hx hb dX1_bestWithout_31 rfl (lv_at hl 2 rfl) ?_
  refine lv_aload_n hx hb dX1_bestWithout_32 rfl (lv_at hl 0 rfl) ?_
  refine g_get hC hP fg_X1_39 0 rfl rfl dX1_bestWithout_33 ?_
  refine lv_icmp_ge (tgt := 50) hx hb dX1_bestWithout_36 (by decide) (fun c5 => ?_) (fun c5 => ?_)
  · have h := if_t c5 h
    refine lv_iconst (v := 0) hx hb dX1_bestWithout_50 (by decide) ?_
    rw [eZ]
    exact ret_i hC hr hlk hP dX1_bestWithout_51 () (⟨Option.some.inj h, rfl⟩) rfl
  · have h := if_f c5 h
    refine lv_aload_n hx hb dX1_bestWithout_39 rfl (lv_at hl 0 rfl) ?_
    refine g_get hC hP fg_X1_44 0 rfl rfl dX1_bestWithout_40 ?_
    refine lv_iload_n hx hb dX1_bestWithout_43 rfl (lv_at hl 1 rfl) ?_
    refine lv_iand hx hb dX1_bestWithout_44 ?_
    refine lv_iload_n hx hb dX1_bestWithout_45 rfl (lv_at hl 2 rfl) ?_
    refine lv_ishr hx hb dX1_bestWithout_46 ?_
    refine lv_if_eq (tgt := 52) hx hb dX1_bestWithout_47 (by decide) (fun c6 => ?_) (fun c6 => ?_)
    · have h := if_t c6 h
      refine lv_aload_n hx hb dX1_bestWithout_52 rfl (lv_at hl 0 rfl) ?_
      refine g_get hC hP fg_X1_9 0 rfl rfl dX1_bestWithout_53 ?_
      refine lv_iload_n hx hb dX1_bestWithout_56 rfl (lv_at hl 1 rfl) ?_
      refine lv_iconst (v := 1) hx hb dX1_bestWithout_57 (by decide) ?_
      refine lv_iload_n hx hb dX1_bestWithout_58 rfl (lv_at hl 2 rfl) ?_
      refine lv_ishl hx hb dX1_bestWithout_59 ?_
      refine lv_ior hx hb dX1_bestWithout_60 ?_
      obtain ⟨r7, hu, h⟩ := bnd_h h
      refine kc_i (kN hC (c_X9_at l dC dI cc q1 1024 sets (x1 ||| (1 <<< (j1x &&& 31))) H.size r7 hu) cn_X1_86 kw332 rfl rfl ⟨(Nat.le_of_ble_eq_true rfl), (Nat.le_of_ble_eq_true rfl)⟩ hP [1] rfl rfl (As := [.ref q1, .int (x1 ||| (1 <<< (j1x &&& 31)))]) (rest := []) rfl rfl hl.1 (Nat.le_of_ble_eq_true rfl) dX1_bestWithout_61 ⟨Nat.zero_le _, Nat.zero_le _⟩) hP hA [1] rfl rfl (fun H locs hP => ?_)
      have hP : PD (dC, dI) A s.heap [(q0, .inr (1, [.ref q1, .ref q2, .ref q3, .ref q4, .int lefts_, .int clogs, .int number, .int apart])), (q1, .inl (cc 0, 1024, .inl sets)), (q2, .inl (cc 0, 10, .inl mates)), (q3, .inl (cc 0, 10, .inl sizes))] H locs := hP
      refine lv_istore_n (lv' := [(3, .int r7), (0, .ref q0), (1, .int x1), (2, .int j1x)]) hx hb dX1_bestWithout_64 rfl hl (by decide) rfl (fun ls hl => ?_)
      refine lv_iconst (v := 0) hx hb dX1_bestWithout_65 (by decide) ?_
      refine lv_istore (lv' := [(4, .int 0), (3, .int r7), (0, .ref q0), (1, .int x1), (2, .int j1x)]) hx hb dX1_bestWithout_66 hl (by decide) rfl (fun ls hl => ?_)
      obtain ⟨⟨j8x, j9x⟩, hlp, h⟩ := bnd_h h
      have L2 : ∀ (n : Nat) (j8 : Int32) (j9 : Int32) (j8x : Int32) (j9x : Int32), lp (u2 (b_X1_bestWithout_2 clogs j1x mates sets sizes x1)) n (j8, j9) = some (j8x, j9x) → ∀ (H : Heap) (locs : List Loc) (ls : Array Slot), PD (dC, dI) A s.heap [(q0, .inr (1, [.ref q1, .ref q2, .ref q3, .ref q4, .int lefts_, .int clogs, .int number, .int apart])), (q1, .inl (cc 0, 1024, .inl sets)), (q2, .inl (cc 0, 10, .inl mates)), (q3, .inl (cc 0, 10, .inl sizes))] H locs → lv_has ls 5 [(0, .ref q0), (1, .int x1), (2, .int j1x), (3, .int j8), (4, .int j9)] → (∀ (H : Heap) (locs : List Loc) (ls : Array Slot), PD (dC, dI) A s.heap [(q0, .inr (1, [.ref q1, .ref q2, .ref q3, .ref q4, .int lefts_, .int clogs, .int number, .int apart])), (q1, .inl (cc 0, 1024, .inl sets)), (q2, .inl (cc 0, 10, .inl mates)), (q3, .inl (cc 0, 10, .inl sizes))] H locs → lv_has ls 5 [(0, .ref q0), (1, .int x1), (2, .int j1x), (3, .int j8x), (4, .int j9x)] → W p l e ({ frames := 3, cells := 0, slots := 0, locals := 66 } : Room) s m ([.ref q0, .int x1] : List Value).toArray below meth c H locs 0 0 Z (F0 m 116 ls [])) → W p l e ({ frames := 3, cells := 0, slots := 0, locals := 66 } : Room) s m ([.ref q0, .int x1] : List Value).toArray below meth c H locs 0 0 Z (F0 m 68 ls []) := by
        intro n
        induction n with
        | zero => intro j8 j9 j8x j9x h; exact (lp_0 h).elim
        | succ n ih =>
          intro j8 j9 j8x j9x h H locs ls hP hl KK
          obtain ⟨y, h, hz⟩ := lp_h h
          refine lv_iload hx hb dX1_bestWithout_68 (lv_at hl 4 rfl) ?_
          refine lv_aload_n hx hb dX1_bestWithout_70 rfl (lv_at hl 0 rfl) ?_
          refine g_get hC hP fg_X1_39 0 rfl rfl dX1_bestWithout_71 ?_
          refine lv_icmp_ge (tgt := 116) hx hb dX1_bestWithout_74 (by decide) (fun c10 => ?_) (fun c10 => ?_)
          · have h := if_t c10 h
            cases lp_e h hz
            exact KK H locs ls hP (lv_sub hl [0, 1, 2, 3, 4] rfl)
          · have h := if_f c10 h
            refine lv_aload_n hx hb dX1_bestWithout_77 rfl (lv_at hl 0 rfl) ?_
            refine g_get hC hP fg_X1_15 0 rfl rfl dX1_bestWithout_78 ?_
            refine lv_iload_n hx hb dX1_bestWithout_81 rfl (lv_at hl 2 rfl) ?_
            obtain ⟨r11, hu, h⟩ := bnd_h h
            refine kc_i (kN hC (c_X9_at l dC dI cc q2 10 mates j1x H.size r11 hu) cn_X1_86 kw332 rfl rfl ⟨(Nat.le_of_ble_eq_true rfl), (Nat.le_of_ble_eq_true rfl)⟩ hP [2] rfl rfl (As := [.ref q2, .int j1x]) (rest := []) rfl rfl hl.1 (Nat.le_of_ble_eq_true rfl) dX1_bestWithout_82 ⟨Nat.zero_le _, Nat.zero_le _⟩) hP hA [2] rfl rfl (fun H locs hP => ?_)
            have hP : PD (dC, dI) A s.heap [(q0, .inr (1, [.ref q1, .ref q2, .ref q3, .ref q4, .int lefts_, .int clogs, .int number, .int apart])), (q1, .inl (cc 0, 1024, .inl sets)), (q2, .inl (cc 0, 10, .inl mates)), (q3, .inl (cc 0, 10, .inl sizes))] H locs := hP
            refine lv_iload_n hx hb dX1_bestWithout_85 rfl (lv_at hl 1 rfl) ?_
            refine lv_iconst (v := -1) hx hb dX1_bestWithout_86 (by decide) ?_
            refine lv_ixor hx hb dX1_bestWithout_87 ?_
            refine lv_iand hx hb dX1_bestWithout_88 ?_
            refine lv_iload hx hb dX1_bestWithout_89 (lv_at hl 4 rfl) ?_
            obtain ⟨r12, hu, h⟩ := bnd_h h
            refine kc_z (kN hC (c_X9_hasBit l dC dI cc (r11 &&& (x1 ^^^ (-1))) j9 H.size r12 hu) cn_X1_75 kw586 rfl rfl ⟨(Nat.le_of_ble_eq_true rfl), (Nat.le_of_ble_eq_true rfl)⟩ hP [] rfl rfl (As := [.int (r11 &&& (x1 ^^^ (-1))), .int j9]) (rest := []) rfl rfl hl.1 (Nat.le_of_ble_eq_true rfl) dX1_bestWithout_91 ⟨Nat.zero_le _, Nat.zero_le _⟩) hP hA [] rfl rfl (fun hz_r12 H locs hP => ?_)
            have hP : PD (dC, dI) A s.heap [(q0, .inr (1, [.ref q1, .ref q2, .ref q3, .ref q4, .int lefts_, .int clogs, .int number, .int apart])), (q1, .inl (cc 0, 1024, .inl sets)), (q2, .inl (cc 0, 10, .inl mates)), (q3, .inl (cc 0, 10, .inl sizes))] H locs := hP
            refine lv_if_eq (tgt := 110) hx hb dX1_bestWithout_94 (by decide) (fun c13 => ?_) (fun c13 => ?_)
            · have h := if_t c13 h
              refine lv_iinc (v := (j9 + 1)) (lv' := [(4, .int (j9 + 1)), (0, .ref q0), (1, .int x1), (2, .int j1x), (3, .int j8)]) hx hb dX1_bestWithout_110 hl (k := 4) rfl rfl (by decide) rfl (fun ls hl => ?_)
              refine lv_goto (tgt := 68) hx hb dX1_bestWithout_113 (by decide) ?_
              exact ih _ _ _ _ (lp_n h hz) H locs ls hP (lv_sub hl [1, 2, 3, 4, 0] rfl) KK
            · have h := if_f c13 h
              refine lv_iload_n hx hb dX1_bestWithout_97 rfl (lv_at hl 3 rfl) ?_
              refine lv_aload_n hx hb dX1_bestWithout_98 rfl (lv_at hl 0 rfl) ?_
              refine lv_iload_n hx hb dX1_bestWithout_99 rfl (lv_at hl 1 rfl) ?_
              refine lv_iload_n hx hb dX1_bestWithout_100 rfl (lv_at hl 2 rfl) ?_
              refine lv_iload hx hb dX1_bestWithout_101 (lv_at hl 4 rfl) ?_
              obtain ⟨r14, hu, h⟩ := bnd_h h
              refine kc_i (kV hC (c_X1_worthOf l dC dI cc q0 q1 q2 q3 q4 lefts_ clogs number apart sets sizes x1 j1x j9 H.size r14 hu) cv_X1_90 kw591 rfl rfl ⟨(Nat.le_of_ble_eq_true rfl), (Nat.le_of_ble_eq_true rfl)⟩ hP [0, 1, 3] rfl rfl rfl (q0 := 0) rfl (As := [.int x1, .int j1x, .int j9]) (rest := [.int j8]) rfl rfl hl.1 (Nat.le_of_ble_eq_true rfl) dX1_bestWithout_103 ⟨Nat.zero_le _, Nat.zero_le _⟩) hP hA [0, 1, 3] rfl rfl (fun H locs hP => ?_)
              have hP : PD (dC, dI) A s.heap [(q0, .inr (1, [.ref q1, .ref q2, .ref q3, .ref q4, .int lefts_, .int clogs, .int number, .int apart])), (q1, .inl (cc 0, 1024, .inl sets)), (q2, .inl (cc 0, 10, .inl mates)), (q3, .inl (cc 0, 10, .inl sizes))] H locs := hP
              refine g_max hC hl.1 mh_X1_36 (Nat.le_of_ble_eq_true rfl) (Nat.le_of_ble_eq_true rfl) (Nat.zero_le _) (Nat.zero_le _) dX1_bestWithout_106 ?_
              refine lv_topi (fun v15 ev => ?_)
              have h := nm_h ev h
              refine lv_istore_n (lv' := [(3, .int v15), (0, .ref q0), (1, .int x1), (2, .int j1x), (4, .int j9)]) hx hb dX1_bestWithout_109 rfl hl (by decide) rfl (fun ls hl => ?_)
              refine lv_iinc (v := (j9 + 1)) (lv' := [(4, .int (j9 + 1)), (3, .int v15), (0, .ref q0), (1, .int x1), (2, .int j1x)]) hx hb dX1_bestWithout_110 hl (k := 4) rfl rfl (by decide) rfl (fun ls hl => ?_)
              refine lv_goto (tgt := 68) hx hb dX1_bestWithout_113 (by decide) ?_
              exact ih _ _ _ _ (lp_n h hz) H locs ls hP (lv_sub hl [2, 3, 4, 1, 0] rfl) KK
      refine L2 FU _ _ j8x j9x hlp H locs ls hP (lv_sub hl [2, 3, 4, 1, 0] rfl) (fun H locs ls hP hl => ?_)
      refine lv_iload_n hx hb dX1_bestWithout_116 rfl (lv_at hl 3 rfl) ?_
      rw [eZ]
      exact ret_i hC hr hlk hP dX1_bestWithout_117 () (⟨Option.some.inj h, rfl⟩) rfl
    · have h := if_f c6 h
      refine lv_iconst (v := 0) hx hb dX1_bestWithout_50 (by decide) ?_
      rw [eZ]
      exact ret_i hC hr hlk hP dX1_bestWithout_51 () (⟨Option.some.inj h, rfl⟩) rfl
set_option maxHeartbeats 8000000 in
set_option maxRecDepth 100000 in
theorem c_X1_firstBest (l : Launch) (dC : Nat → ClassId) (dI : Nat → Nat → Nat) (cc : Nat → ClassId) (q0 q1 q2 q3 q4 : Nat) (lefts_ : Int32) (clogs : Int32) (number : Int32) (apart : Int32) (sets : (Nat → Int32)) (mates : (Nat → Int32)) (sizes : (Nat → Int32)) (x1 : Int32) (x2 : Int32) (sz : Nat) (ret : Int32) (hu : f_X1_firstBest x1 x2 clogs sets mates sizes = some ret) : Met l yX1_firstBest (mw yX1_firstBest cX1_firstBest 4 (some .int)) ({ frames := 3, cells := 0, slots := 0, locals := 66 } : Room) (va_Pc [.ref q0, .int x1, .int x2] (mP (dC, dI) (ts cc) sz [(q0, .inr (1, [.ref q1, .ref q2, .ref q3, .ref q4, .int lefts_, .int clogs, .int number, .int apart])), (q1, .inl (cc 0, 1024, .inl sets)), (q2, .inl (cc 0, 10, .inl mates)), (q3, .inl (cc 0, 10, .inl sizes))])) ((fun A => va_Qi (fun (r : Int32) (w : Unit) => r = ret ∧ w = ()) (fun (w : Unit) t => va_P (dC, dI) classes [(q0, .inr (1, [.ref q1, .ref q2, .ref q3, .ref q4, .int lefts_, .int clogs, .int number, .int apart])), (q1, .inl (cc 0, 1024, .inl sets)), (q2, .inl (cc 0, 10, .inl mates)), (q3, .inl (cc 0, 10, .inl sizes))] t.heap) A) (va_A [(q0, .inr (1, [.ref q1, .ref q2, .ref q3, .ref q4, .int lefts_, .int clogs, .int number, .int apart])), (q1, .inl (cc 0, 1024, .inl sets)), (q2, .inl (cc 0, 10, .inl mates)), (q3, .inl (cc 0, 10, .inl sizes))] sz)) 0 0 (va_A [(q0, .inr (1, [.ref q1, .ref q2, .ref q3, .ref q4, .int lefts_, .int clogs, .int number, .int apart])), (q1, .inl (cc 0, 1024, .inl sets)), (q2, .inl (cc 0, 10, .inl mates)), (q3, .inl (cc 0, 10, .inl sizes))] sz) := by
  refine met_go (Qc := fun A => va_Qi (fun (r : Int32) (w : Unit) => r = ret ∧ w = ()) (fun (w : Unit) t => va_P (dC, dI) classes [(q0, .inr (1, [.ref q1, .ref q2, .ref q3, .ref q4, .int lefts_, .int clogs, .int number, .int apart])), (q1, .inl (cc 0, 1024, .inl sets)), (q2, .inl (cc 0, 10, .inl mates)), (q3, .inl (cc 0, 10, .inl sizes))] t.heap) A) (by decide) (Nat.le_of_ble_eq_true rfl) ?_
  intro p e s m below meth c A ls H locs hC hr hlk hin hA hP hl _
  have hC : CX p m c cX1_firstBest 4 s ([.ref q0, .int x1, .int x2] : List Value).toArray RX1 (dC, dI) (ts cc) := hC
  have hx := hC.1.1
  have hb := hC.1.2
  have h := hu
  have hu0 := hu
  unfold f_X1_firstBest at h
  have hl : lv_has ls 4 [(0, .ref q0), (1, .int x1), (2, .int x2)] := hl
  refine W_abs (fun Z eZ => ?_)
  refine lv_iconst (v := 0) hx hb dX1_firstBest_0 (by decide) ?_
  refine lv_istore_n (lv' := [(3, .int 0), (0, .ref q0), (1, .int x1), (2, .int x2)]) hx hb dX1_firstBest_1 rfl hl (by decide) rfl (fun ls hl => ?_)
  obtain ⟨z, hlp, hk, hj⟩ := bndE_h h
  have L1 : ∀ (n : Nat) (j1 : Int32) (z : ((Int32) ⊕ (Int32))), lp ((b_X1_firstBest_1 clogs mates sets sizes x1 x2)) n j1 = some z → ∀ (H : Heap) (locs : List Loc) (ls : Array Slot), PD (dC, dI) A s.heap [(q0, .inr (1, [.ref q1, .ref q2, .ref q3, .ref q4, .int lefts_, .int clogs, .int number, .int apart])), (q1, .inl (cc 0, 1024, .inl sets)), (q2, .inl (cc 0, 10, .inl mates)), (q3, .inl (cc 0, 10, .inl sizes))] H locs → lv_has ls 4 [(0, .ref q0), (1, .int x1), (2, .int x2), (3, .int j1)] → (∀ (j1x : Int32), z = .inl j1x → ∀ (H : Heap) (locs : List Loc) (ls : Array Slot), PD (dC, dI) A s.heap [(q0, .inr (1, [.ref q1, .ref q2, .ref q3, .ref q4, .int lefts_, .int clogs, .int number, .int apart])), (q1, .inl (cc 0, 1024, .inl sets)), (q2, .inl (cc 0, 10, .inl mates)), (q3, .inl (cc 0, 10, .inl sizes))] H locs → lv_has ls 4 [(0, .ref q0), (1, .int x1), (2, .int x2), (3, .int j1x)] → W p l e ({ frames := 3, cells := 0, slots := 0, locals := 66 } : Room) s m ([.ref q0, .int x1, .int x2] : List Value).toArray below meth c H locs 0 0 Z (F0 m 55 ls [])) → (∀ q, z = .inr q → q = ret) → W p l e ({ frames := 3, cells := 0, slots := 0, locals := 66 } : Room) s m ([.ref q0, .int x1, .int x2] : List Value).toArray below meth c H locs 0 0 Z (F0 m 2 ls []) := by
    intro n
    induction n with
    | zero => intro j1 z h; exact (lp_0 h).elim
    | succ n ih =>
      intro j1 z h H locs ls hP hl KK KR
      obtain ⟨y, h, hz⟩ := lp_h h
      refine lv_iload_n hx hb dX1_firstBest_2 rfl (lv_at hl 3 rfl) ?_
      refine lv_aload_n hx hb dX1_firstBest_3 rfl (lv_at hl 0 rfl) ?_
      refine g_get hC hP fg_X1_39 0 rfl rfl dX1_firstBest_4 ?_
      refine lv_icmp_ge (tgt := 55) hx hb dX1_firstBest_7 (by decide) (fun c2 => ?_) (fun c2 => ?_)
      · have h := if_t c2 h
        exact KK j1 (lp_e h hz).symm H locs ls hP (lv_sub hl [0, 1, 2, 3] rfl)
      · have h := if_f c2 h
        refine lv_aload_n hx hb dX1_firstBest_10 rfl (lv_at hl 0 rfl) ?_
        refine g_get hC hP fg_X1_15 0 rfl rfl dX1_firstBest_11 ?_
        refine lv_iload_n hx hb dX1_firstBest_14 rfl (lv_at hl 2 rfl) ?_
        obtain ⟨r3, hu, h⟩ := bnd_h h
        refine kc_i (kN hC (c_X9_at l dC dI cc q2 10 mates x2 H.size r3 hu) cn_X1_86 kw332 rfl rfl ⟨(Nat.le_of_ble_eq_true rfl), (Nat.le_of_ble_eq_true rfl)⟩ hP [2] rfl rfl (As := [.ref q2, .int x2]) (rest := []) rfl rfl hl.1 (Nat.le_of_ble_eq_true rfl) dX1_firstBest_15 ⟨Nat.zero_le _, Nat.zero_le _⟩) hP hA [2] rfl rfl (fun H locs hP => ?_)
        have hP : PD (dC, dI) A s.heap [(q0, .inr (1, [.ref q1, .ref q2, .ref q3, .ref q4, .int lefts_, .int clogs, .int number, .int apart])), (q1, .inl (cc 0, 1024, .inl sets)), (q2, .inl (cc 0, 10, .inl mates)), (q3, .inl (cc 0, 10, .inl sizes))] H locs := hP
        refine lv_iload_n hx hb dX1_firstBest_18 rfl (lv_at hl 1 rfl) ?_
        refine lv_iconst (v := -1) hx hb dX1_firstBest_19 (by decide) ?_
        refine lv_ixor hx hb dX1_firstBest_20 ?_
        refine lv_iand hx hb dX1_firstBest_21 ?_
        refine lv_iload_n hx hb dX1_firstBest_22 rfl (lv_at hl 3 rfl) ?_
        obtain ⟨r4, hu, h⟩ := bnd_h h
        refine kc_z (kN hC (c_X9_hasBit l dC dI cc (r3 &&& (x1 ^^^ (-1))) j1 H.size r4 hu) cn_X1_75 kw586 rfl rfl ⟨(Nat.le_of_ble_eq_true rfl), (Nat.le_of_ble_eq_true rfl)⟩ hP [] rfl rfl (As := [.int (r3 &&& (x1 ^^^ (-1))), .int j1]) (rest := []) rfl rfl hl.1 (Nat.le_of_ble_eq_true rfl) dX1_firstBest_23 ⟨Nat.zero_le _, Nat.zero_le _⟩) hP hA [] rfl rfl (fun hz_r4 H locs hP => ?_)
        have hP : PD (dC, dI) A s.heap [(q0, .inr (1, [.ref q1, .ref q2, .ref q3, .ref q4, .int lefts_, .int clogs, .int number, .int apart])), (q1, .inl (cc 0, 1024, .inl sets)), (q2, .inl (cc 0, 10, .inl mates)), (q3, .inl (cc 0, 10, .inl sizes))] H locs := hP
        refine lv_if_eq (tgt := 49) hx hb dX1_firstBest_26 (by decide) (fun c5 => ?_) (fun c5 => ?_)
        · have h := if_t c5 h
          refine lv_iinc (v := (j1 + 1)) (lv' := [(3, .int (j1 + 1)), (0, .ref q0), (1, .int x1), (2, .int x2)]) hx hb dX1_firstBest_49 hl (k := 3) rfl rfl (by decide) rfl (fun ls hl => ?_)
          refine lv_goto (tgt := 2) hx hb dX1_firstBest_52 (by decide) ?_
          exact ih _ _ (lp_n h hz) H locs ls hP (lv_sub hl [1, 2, 3, 0] rfl) KK KR
        · have h := if_f c5 h
          refine lv_aload_n hx hb dX1_firstBest_29 rfl (lv_at hl 0 rfl) ?_
          refine lv_iload_n hx hb dX1_firstBest_30 rfl (lv_at hl 1 rfl) ?_
          refine lv_iload_n hx hb dX1_firstBest_31 rfl (lv_at hl 2 rfl) ?_
          refine lv_iload_n hx hb dX1_firstBest_32 rfl (lv_at hl 3 rfl) ?_
          obtain ⟨r6, hu, h⟩ := bnd_h h
          refine kc_i (kV hC (c_X1_worthOf l dC dI cc q0 q1 q2 q3 q4 lefts_ clogs number apart sets sizes x1 x2 j1 H.size r6 hu) cv_X1_90 kw591 rfl rfl ⟨(Nat.le_of_ble_eq_true rfl), (Nat.le_of_ble_eq_true rfl)⟩ hP [0, 1, 3] rfl rfl rfl (q0 := 0) rfl (As := [.int x1, .int x2, .int j1]) (rest := []) rfl rfl hl.1 (Nat.le_of_ble_eq_true rfl) dX1_firstBest_33 ⟨Nat.zero_le _, Nat.zero_le _⟩) hP hA [0, 1, 3] rfl rfl (fun H locs hP => ?_)
          have hP : PD (dC, dI) A s.heap [(q0, .inr (1, [.ref q1, .ref q2, .ref q3, .ref q4, .int lefts_, .int clogs, .int number, .int apart])), (q1, .inl (cc 0, 1024, .inl sets)), (q2, .inl (cc 0, 10, .inl mates)), (q3, .inl (cc 0, 10, .inl sizes))] H locs := hP
          refine lv_aload_n hx hb dX1_firstBest_36 rfl (lv_at hl 0 rfl) ?_
          refine g_get hC hP fg_X1_9 0 rfl rfl dX1_firstBest_37 ?_
          refine lv_iload_n hx hb dX1_firstBest_40 rfl (lv_at hl 1 rfl) ?_
          obtain ⟨r7, hu, h⟩ := bnd_h h
          refine kc_i (kN hC (c_X9_at l dC dI cc q1 1024 sets x1 H.size r7 hu) cn_X1_86 kw332 rfl rfl ⟨(Nat.le_of_ble_eq_true rfl), (Nat.le_of_ble_eq_true rfl)⟩ hP [1] rfl rfl (As := [.ref q1, .int x1]) (rest := [.int r6]) rfl rfl hl.1 (Nat.le_of_ble_eq_true rfl) dX1_firstBest_41 ⟨Nat.zero_le _, Nat.zero_le _⟩) hP hA [1] rfl rfl (fun H locs hP => ?_)
          have hP : PD (dC, dI) A s.heap [(q0, .inr (1, [.ref q1, .ref q2, .ref q3, .ref q4, .int lefts_, .int clogs, .int number, .int apart])), (q1, .inl (cc 0, 1024, .inl sets)), (q2, .inl (cc 0, 10, .inl mates)), (q3, .inl (cc 0, 10, .inl sizes))] H locs := hP
          refine lv_icmp_ne (tgt := 49) hx hb dX1_firstBest_44 (by decide) (fun c8 => ?_) (fun c8 => ?_)
          · have h := if_f c8 h
            refine lv_iinc (v := (j1 + 1)) (lv' := [(3, .int (j1 + 1)), (0, .ref q0), (1, .int x1), (2, .int x2)]) hx hb dX1_firstBest_49 hl (k := 3) rfl rfl (by decide) rfl (fun ls hl => ?_)
            refine lv_goto (tgt := 2) hx hb dX1_firstBest_52 (by decide) ?_
            exact ih _ _ (lp_n h hz) H locs ls hP (lv_sub hl [1, 2, 3, 0] rfl) KK KR
          · have h := if_t c8 h
            refine lv_iload_n hx hb dX1_firstBest_47 rfl (lv_at hl 3 rfl) ?_
            rw [eZ]
            exact ret_i hC hr hlk hP dX1_firstBest_48 () (⟨KR _ (lp_e h hz).symm, rfl⟩) rfl
  refine L1 FU _ z hlp H locs ls hP (lv_sub hl [1, 2, 3, 0] rfl) (fun j1x e H locs ls hP hl => ?_) (fun q e => Option.some.inj (hj q e))
  have h := hk _ e
  refine lv_bipush (v := -4) hx hb dX1_firstBest_55 (by decide) ?_
  rw [eZ]
  exact ret_i hC hr hlk hP dX1_firstBest_57 () (⟨Option.some.inj h, rfl⟩) rfl
set_option maxHeartbeats 8000000 in
set_option maxRecDepth 100000 in
theorem c_X1_join (l : Launch) (dC : Nat → ClassId) (dI : Nat → Nat → Nat) (cc : Nat → ClassId) (q0 q1 q2 q3 q4 : Nat) (lefts_ : Int32) (clogs : Int32) (number : Int32) (apart : Int32) (sizes : (Nat → Int32)) (partners : (Nat → Int32)) (x1 : Int32) (x2 : Int32) (sz : Nat) (o_partners : (Nat → Int32)) (o_number : Int32) (o_apart : Int32) (hu : f_X1_join x1 x2 number apart sizes partners = some (o_partners, o_number, o_apart)) : Met l yX1_join (mw yX1_join cX1_join 3 none) ({ frames := 2, cells := 0, slots := 0, locals := 43 } : Room) (va_Pc [.ref q0, .int x1, .int x2] (mP (dC, dI) (ts cc) sz [(q0, .inr (1, [.ref q1, .ref q2, .ref q3, .ref q4, .int lefts_, .int clogs, .int number, .int apart])), (q3, .inl (cc 0, 10, .inl sizes)), (q4, .inl (cc 0, 10, .inl partners))])) ((fun A => va_Qv (fun (w : (Nat → Int32) × Int32 × Int32) => w = (o_partners, o_number, o_apart)) (fun (w : (Nat → Int32) × Int32 × Int32) t => va_P (dC, dI) classes [(q0, .inr (1, [.ref q1, .ref q2, .ref q3, .ref q4, .int lefts_, .int clogs, .int w.2.1, .int w.2.2])), (q3, .inl (cc 0, 10, .inl sizes)), (q4, .inl (cc 0, 10, .inl w.1))] t.heap) A) (va_A [(q0, .inr (1, [.ref q1, .ref q2, .ref q3, .ref q4, .int lefts_, .int clogs, .int number, .int apart])), (q3, .inl (cc 0, 10, .inl sizes)), (q4, .inl (cc 0, 10, .inl partners))] sz)) 0 0 (va_A [(q0, .inr (1, [.ref q1, .ref q2, .ref q3, .ref q4, .int lefts_, .int clogs, .int number, .int apart])), (q3, .inl (cc 0, 10, .inl sizes)), (q4, .inl (cc 0, 10, .inl partners))] sz) := by
  refine met_go (Qc := fun A => va_Qv (fun (w : (Nat → Int32) × Int32 × Int32) => w = (o_partners, o_number, o_apart)) (fun (w : (Nat → Int32) × Int32 × Int32) t => va_P (dC, dI) classes [(q0, .inr (1, [.ref q1, .ref q2, .ref q3, .ref q4, .int lefts_, .int clogs, .int w.2.1, .int w.2.2])), (q3, .inl (cc 0, 10, .inl sizes)), (q4, .inl (cc 0, 10, .inl w.1))] t.heap) A) (by decide) (Nat.le_of_ble_eq_true rfl) ?_
  intro p e s m below meth c A ls H locs hC hr hlk hin hA hP hl _
  have hC : CX p m c cX1_join 3 s ([.ref q0, .int x1, .int x2] : List Value).toArray RX1 (dC, dI) (ts cc) := hC
  have hx := hC.1.1
  have hb := hC.1.2
  have h := hu
  have hu0 := hu
  unfold f_X1_join at h
  have hl : lv_has ls 3 [(0, .ref q0), (1, .int x1), (2, .int x2)] := hl
  refine lv_aload_n hx hb dX1_join_0 rfl (lv_at hl 0 rfl) ?_
  refine g_get hC hP fg_X1_21 0 rfl rfl dX1_join_1 ?_
  refine lv_iload_n hx hb dX1_join_4 rfl (lv_at hl 1 rfl) ?_
  refine lv_iload_n hx hb dX1_join_5 rfl (lv_at hl 2 rfl) ?_
  obtain ⟨w1, hu, h⟩ := bnd_h h
  refine kc_v (kN hC (c_X9_put l dC dI cc q4 10 partners x1 x2 H.size w1 hu) cn_X1_50 kw320 rfl rfl ⟨(Nat.le_of_ble_eq_true rfl), (Nat.le_of_ble_eq_true rfl)⟩ hP [2] rfl rfl (As := [.ref q4, .int x1, .int x2]) (rest := []) rfl rfl hl.1 (Nat.le_of_ble_eq_true rfl) dX1_join_6 ⟨Nat.zero_le _, Nat.zero_le _⟩) hP hA [2] rfl rfl (fun H locs hP => ?_)
  have hP : PD (dC, dI) A s.heap [(q0, .inr (1, [.ref q1, .ref q2, .ref q3, .ref q4, .int lefts_, .int clogs, .int number, .int apart])), (q3, .inl (cc 0, 10, .inl sizes)), (q4, .inl (cc 0, 10, .inl w1))] H locs := hP
  refine lv_aload_n hx hb dX1_join_9 rfl (lv_at hl 0 rfl) ?_
  refine g_get hC hP fg_X1_21 0 rfl rfl dX1_join_10 ?_
  refine lv_iload_n hx hb dX1_join_13 rfl (lv_at hl 2 rfl) ?_
  refine lv_iload_n hx hb dX1_join_14 rfl (lv_at hl 1 rfl) ?_
  obtain ⟨w2, hu, h⟩ := bnd_h h
  refine kc_v (kN hC (c_X9_put l dC dI cc q4 10 w1 x2 x1 H.size w2 hu) cn_X1_50 kw320 rfl rfl ⟨(Nat.le_of_ble_eq_true rfl), (Nat.le_of_ble_eq_true rfl)⟩ hP [2] rfl rfl (As := [.ref q4, .int x2, .int x1]) (rest := []) rfl rfl hl.1 (Nat.le_of_ble_eq_true rfl) dX1_join_15 ⟨Nat.zero_le _, Nat.zero_le _⟩) hP hA [2] rfl rfl (fun H locs hP => ?_)
  have hP : PD (dC, dI) A s.heap [(q0, .inr (1, [.ref q1, .ref q2, .ref q3, .ref q4, .int lefts_, .int clogs, .int number, .int apart])), (q3, .inl (cc 0, 10, .inl sizes)), (q4, .inl (cc 0, 10, .inl w2))] H locs := hP
  refine lv_aload_n hx hb dX1_join_18 rfl (lv_at hl 0 rfl) ?_
  refine lv_dup hx hb dX1_join_19 rfl ?_
  refine g_get hC hP fg_X1_69 0 rfl rfl dX1_join_20 ?_
  refine lv_iconst (v := 1) hx hb dX1_join_23 (by decide) ?_
  refine lv_iadd hx hb dX1_join_24 ?_
  refine g_put hC hP fg_X1_69 0 rfl rfl rfl (Nat.le_of_ble_eq_true rfl) dX1_join_25 (fun H locs hP => ?_)
  have hP : PD (dC, dI) A s.heap [(q0, .inr (1, [.ref q1, .ref q2, .ref q3, .ref q4, .int lefts_, .int clogs, .int (number + 1), .int apart])), (q3, .inl (cc 0, 10, .inl sizes)), (q4, .inl (cc 0, 10, .inl w2))] H locs := hP
  refine lv_aload_n hx hb dX1_join_28 rfl (lv_at hl 0 rfl) ?_
  refine lv_dup hx hb dX1_join_29 rfl ?_
  refine g_get hC hP fg_X1_72 0 rfl rfl dX1_join_30 ?_
  refine lv_aload_n hx hb dX1_join_33 rfl (lv_at hl 0 rfl) ?_
  refine lv_iload_n hx hb dX1_join_34 rfl (lv_at hl 1 rfl) ?_
  refine lv_iload_n hx hb dX1_join_35 rfl (lv_at hl 2 rfl) ?_
  obtain ⟨r3, hu, h⟩ := bnd_h h
  refine kc_i (kV hC (c_X1_distance l dC dI cc q0 q1 q2 q3 q4 lefts_ clogs (number + 1) apart sizes x1 x2 H.size r3 hu) cv_X1_94 kw595 rfl rfl ⟨(Nat.le_of_ble_eq_true rfl), (Nat.le_of_ble_eq_true rfl)⟩ hP [0, 1] rfl rfl rfl (q0 := 0) rfl (As := [.int x1, .int x2]) (rest := [.int apart, .ref q0]) rfl rfl hl.1 (Nat.le_of_ble_eq_true rfl) dX1_join_36 ⟨Nat.zero_le _, Nat.zero_le _⟩) hP hA [0, 1] rfl rfl (fun H locs hP => ?_)
  have hP : PD (dC, dI) A s.heap [(q0, .inr (1, [.ref q1, .ref q2, .ref q3, .ref q4, .int lefts_, .int clogs, .int (number + 1), .int apart])), (q3, .inl (cc 0, 10, .inl sizes)), (q4, .inl (cc 0, 10, .inl w2))] H locs := hP
  refine lv_iadd hx hb dX1_join_39 ?_
  refine g_put hC hP fg_X1_72 0 rfl rfl rfl (Nat.le_of_ble_eq_true rfl) dX1_join_40 (fun H locs hP => ?_)
  have hP : PD (dC, dI) A s.heap [(q0, .inr (1, [.ref q1, .ref q2, .ref q3, .ref q4, .int lefts_, .int clogs, .int (number + 1), .int (apart + r3)])), (q3, .inl (cc 0, 10, .inl sizes)), (q4, .inl (cc 0, 10, .inl w2))] H locs := hP
  exact ret_v hC hr hlk hP dX1_join_43 (w2, (number + 1), (apart + r3)) (Option.some.inj h) rfl
set_option maxHeartbeats 8000000 in
set_option maxRecDepth 100000 in
theorem c_X1_match (l : Launch) (dC : Nat → ClassId) (dI : Nat → Nat → Nat) (cc : Nat → ClassId) (q0 q1 q2 q3 q4 : Nat) (lefts_ : Int32) (clogs : Int32) (number : Int32) (apart : Int32) (sets : (Nat → Int32)) (mates : (Nat → Int32)) (sizes : (Nat → Int32)) (partners : (Nat → Int32)) (sz : Nat) (o_sets : (Nat → Int32)) (o_partners : (Nat → Int32)) (o_number : Int32) (o_apart : Int32) (hu : f_X1_match lefts_ clogs sets mates sizes partners = some (o_sets, o_partners, o_number, o_apart)) : Met l yX1_match (mw yX1_match cX1_match 4 none) ({ frames := 4, cells := 0, slots := 0, locals := 90 } : Room) (va_Pc [.ref q0] (mP (dC, dI) (ts cc) sz [(q0, .inr (1, [.ref q1, .ref q2, .ref q3, .ref q4, .int lefts_, .int clogs, .int number, .int apart])), (q1, .inl (cc 0, 1024, .inl sets)), (q2, .inl (cc 0, 10, .inl mates)), (q3, .inl (cc 0, 10, .inl sizes)), (q4, .inl (cc 0, 10, .inl partners))])) ((fun A => va_Qv (fun (w : (Nat → Int32) × (Nat → Int32) × Int32 × Int32) => w = (o_sets, o_partners, o_number, o_apart)) (fun (w : (Nat → Int32) × (Nat → Int32) × Int32 × Int32) t => va_P (dC, dI) classes [(q0, .inr (1, [.ref q1, .ref q2, .ref q3, .ref q4, .int lefts_, .int clogs, .int w.2.2.1, .int w.2.2.2])), (q1, .inl (cc 0, 1024, .inl w.1)), (q2, .inl (cc 0, 10, .inl mates)), (q3, .inl (cc 0, 10, .inl sizes)), (q4, .inl (cc 0, 10, .inl w.2.1))] t.heap) A) (va_A [(q0, .inr (1, [.ref q1, .ref q2, .ref q3, .ref q4, .int lefts_, .int clogs, .int number, .int apart])), (q1, .inl (cc 0, 1024, .inl sets)), (q2, .inl (cc 0, 10, .inl mates)), (q3, .inl (cc 0, 10, .inl sizes)), (q4, .inl (cc 0, 10, .inl partners))] sz)) 0 0 (va_A [(q0, .inr (1, [.ref q1, .ref q2, .ref q3, .ref q4, .int lefts_, .int clogs, .int number, .int apart])), (q1, .inl (cc 0, 1024, .inl sets)), (q2, .inl (cc 0, 10, .inl mates)), (q3, .inl (cc 0, 10, .inl sizes)), (q4, .inl (cc 0, 10, .inl partners))] sz) := by
  refine met_go (Qc := fun A => va_Qv (fun (w : (Nat → Int32) × (Nat → Int32) × Int32 × Int32) => w = (o_sets, o_partners, o_number, o_apart)) (fun (w : (Nat → Int32) × (Nat → Int32) × Int32 × Int32) t => va_P (dC, dI) classes [(q0, .inr (1, [.ref q1, .ref q2, .ref q3, .ref q4, .int lefts_, .int clogs, .int w.2.2.1, .int w.2.2.2])), (q1, .inl (cc 0, 1024, .inl w.1)), (q2, .inl (cc 0, 10, .inl mates)), (q3, .inl (cc 0, 10, .inl sizes)), (q4, .inl (cc 0, 10, .inl w.2.1))] t.heap) A) (by decide) (Nat.le_of_ble_eq_true rfl) ?_
  intro p e s m below meth c A ls H locs hC hr hlk hin hA hP hl _
  have hC : CX p m c cX1_match 4 s ([.ref q0] : List Value).toArray RX1 (dC, dI) (ts cc) := hC
  have hx := hC.1.1
  have hb := hC.1.2
  have h := hu
  have hu0 := hu
  unfold f_X1_match at h
  have hl : lv_has ls 4 [(0, .ref q0)] := hl
  refine W_abs (fun Z eZ => ?_)
  refine lv_iconst (v := 1) hx hb dX1_match_0 (by decide) ?_
  refine lv_aload_n hx hb dX1_match_1 rfl (lv_at hl 0 rfl) ?_
  refine g_get hC hP fg_X1_39 0 rfl rfl dX1_match_2 ?_
  refine lv_ishl hx hb dX1_match_5 ?_
  refine lv_iconst (v := 1) hx hb dX1_match_6 (by decide) ?_
  refine lv_isub hx hb dX1_match_7 ?_
  refine lv_istore_n (lv' := [(1, .int ((1 <<< (clogs &&& 31)) - 1)), (0, .ref q0)]) hx hb dX1_match_8 rfl hl (by decide) rfl (fun ls hl => ?_)
  obtain ⟨⟨j1x, w2x⟩, hlp, h⟩ := bnd_h h
  have L1 : ∀ (n : Nat) (j1 : Int32) (w2 : (Nat → Int32)) (j1x : Int32) (w2x : (Nat → Int32)), lp (u2 (b_X1_match_1 clogs lefts_ mates sizes)) n (j1, w2) = some (j1x, w2x) → ∀ (H : Heap) (locs : List Loc) (ls : Array Slot), PD (dC, dI) A s.heap [(q0, .inr (1, [.ref q1, .ref q2, .ref q3, .ref q4, .int lefts_, .int clogs, .int number, .int apart])), (q1, .inl (cc 0, 1024, .inl w2)), (q2, .inl (cc 0, 10, .inl mates)), (q3, .inl (cc 0, 10, .inl sizes)), (q4, .inl (cc 0, 10, .inl partners))] H locs → lv_has ls 4 [(0, .ref q0), (1, .int j1)] → (∀ (H : Heap) (locs : List Loc) (ls : Array Slot), PD (dC, dI) A s.heap [(q0, .inr (1, [.ref q1, .ref q2, .ref q3, .ref q4, .int lefts_, .int clogs, .int number, .int apart])), (q1, .inl (cc 0, 1024, .inl w2x)), (q2, .inl (cc 0, 10, .inl mates)), (q3, .inl (cc 0, 10, .inl sizes)), (q4, .inl (cc 0, 10, .inl partners))] H locs → lv_has ls 4 [(0, .ref q0), (1, .int j1x)] → W p l e ({ frames := 4, cells := 0, slots := 0, locals := 90 } : Room) s m ([.ref q0] : List Value).toArray below meth c H locs 0 0 Z (F0 m 32 ls [])) → W p l e ({ frames := 4, cells := 0, slots := 0, locals := 90 } : Room) s m ([.ref q0] : List Value).toArray below meth c H locs 0 0 Z (F0 m 9 ls []) := by
    intro n
    induction n with
    | zero => intro j1 w2 j1x w2x h; exact (lp_0 h).elim
    | succ n ih =>
      intro j1 w2 j1x w2x h H locs ls hP hl KK
      obtain ⟨y, h, hz⟩ := lp_h h
      refine lv_iload_n hx hb dX1_match_9 rfl (lv_at hl 1 rfl) ?_
      refine lv_if_lt (tgt := 32) hx hb dX1_match_10 (by decide) (fun c3 => ?_) (fun c3 => ?_)
      · have h := if_t c3 h
        cases lp_e h hz
        exact KK H locs ls hP (lv_sub hl [0, 1] rfl)
      · have h := if_f c3 h
        refine lv_aload_n hx hb dX1_match_13 rfl (lv_at hl 0 rfl) ?_
        refine g_get hC hP fg_X1_9 0 rfl rfl dX1_match_14 ?_
        refine lv_iload_n hx hb dX1_match_17 rfl (lv_at hl 1 rfl) ?_
        refine lv_aload_n hx hb dX1_match_18 rfl (lv_at hl 0 rfl) ?_
        refine lv_iload_n hx hb dX1_match_19 rfl (lv_at hl 1 rfl) ?_
        obtain ⟨r4, hu, h⟩ := bnd_h h
        refine kc_i (kV hC (c_X1_bestWithout l dC dI cc q0 q1 q2 q3 q4 lefts_ clogs number apart w2 mates sizes j1 H.size r4 hu) cv_X1_60 kw583 rfl rfl ⟨(Nat.le_of_ble_eq_true rfl), (Nat.le_of_ble_eq_true rfl)⟩ hP [0, 1, 2, 3] rfl rfl rfl (q0 := 0) rfl (As := [.int j1]) (rest := [.int j1, .ref q1]) rfl rfl hl.1 (Nat.le_of_ble_eq_true rfl) dX1_match_20 ⟨Nat.zero_le _, Nat.zero_le _⟩) hP hA [0, 1, 2, 3] rfl rfl (fun H locs hP => ?_)
        have hP : PD (dC, dI) A s.heap [(q0, .inr (1, [.ref q1, .ref q2, .ref q3, .ref q4, .int lefts_, .int clogs, .int number, .int apart])), (q1, .inl (cc 0, 1024, .inl w2)), (q2, .inl (cc 0, 10, .inl mates)), (q3, .inl (cc 0, 10, .inl sizes)), (q4, .inl (cc 0, 10, .inl partners))] H locs := hP
        obtain ⟨w5, hu, h⟩ := bnd_h h
        refine kc_v (kN hC (c_X9_put l dC dI cc q1 1024 w2 j1 r4 H.size w5 hu) cn_X1_50 kw320 rfl rfl ⟨(Nat.le_of_ble_eq_true rfl), (Nat.le_of_ble_eq_true rfl)⟩ hP [1] rfl rfl (As := [.ref q1, .int j1, .int r4]) (rest := []) rfl rfl hl.1 (Nat.le_of_ble_eq_true rfl) dX1_match_23 ⟨Nat.zero_le _, Nat.zero_le _⟩) hP hA [1] rfl rfl (fun H locs hP => ?_)
        have hP : PD (dC, dI) A s.heap [(q0, .inr (1, [.ref q1, .ref q2, .ref q3, .ref q4, .int lefts_, .int clogs, .int number, .int apart])), (q1, .inl (cc 0, 1024, .inl w5)), (q2, .inl (cc 0, 10, .inl mates)), (q3, .inl (cc 0, 10, .inl sizes)), (q4, .inl (cc 0, 10, .inl partners))] H locs := hP
        refine lv_iinc (v := (j1 + (-1))) (lv' := [(1, .int (j1 + (-1))), (0, .ref q0)]) hx hb dX1_match_26 hl (k := 1) rfl rfl (by decide) rfl (fun ls hl => ?_)
        refine lv_goto (tgt := 9) hx hb dX1_match_29 (by decide) ?_
        exact ih _ _ _ _ (lp_n h hz) H locs ls hP (lv_sub hl [1, 0] rfl) KK
  refine L1 FU _ _ j1x w2x hlp H locs ls hP (lv_sub hl [1, 0] rfl) (fun H locs ls hP hl => ?_)
  refine lv_aload_n hx hb dX1_match_32 rfl (lv_at hl 0 rfl) ?_
  refine g_get hC hP fg_X1_21 0 rfl rfl dX1_match_33 ?_
  refine lv_bipush (v := -4) hx hb dX1_match_36 (by decide) ?_
  obtain ⟨w6, hu, h⟩ := bnd_h h
  refine kc_v (kS hC (c_J7_fill_53178 l dC dI cc q4 10 partners (-4) H.size w6 hu) cs_X1_63 kw599 rfl rfl ⟨(Nat.le_of_ble_eq_true rfl), (Nat.le_of_ble_eq_true rfl)⟩ hP [4] rfl rfl (As := [.ref q4, .int (-4)]) (rest := []) rfl rfl hl.1 (Nat.le_of_ble_eq_true rfl) dX1_match_38 ⟨Nat.zero_le _, Nat.zero_le _⟩) hP hA [4] rfl rfl (fun H locs hP => ?_)
  have hP : PD (dC, dI) A s.heap [(q0, .inr (1, [.ref q1, .ref q2, .ref q3, .ref q4, .int lefts_, .int clogs, .int number, .int apart])), (q1, .inl (cc 0, 1024, .inl w2x)), (q2, .inl (cc 0, 10, .inl mates)), (q3, .inl (cc 0, 10, .inl sizes)), (q4, .inl (cc 0, 10, .inl w6))] H locs := hP
  refine lv_aload_n hx hb dX1_match_41 rfl (lv_at hl 0 rfl) ?_
  refine lv_iconst (v := 0) hx hb dX1_match_42 (by decide) ?_
  refine g_put hC hP fg_X1_69 0 rfl rfl rfl (Nat.le_of_ble_eq_true rfl) dX1_match_43 (fun H locs hP => ?_)
  have hP : PD (dC, dI) A s.heap [(q0, .inr (1, [.ref q1, .ref q2, .ref q3, .ref q4, .int lefts_, .int clogs, .int 0, .int apart])), (q1, .inl (cc 0, 1024, .inl w2x)), (q2, .inl (cc 0, 10, .inl mates)), (q3, .inl (cc 0, 10, .inl sizes)), (q4, .inl (cc 0, 10, .inl w6))] H locs := hP
  refine lv_aload_n hx hb dX1_match_46 rfl (lv_at hl 0 rfl) ?_
  refine lv_iconst (v := 0) hx hb dX1_match_47 (by decide) ?_
  refine g_put hC hP fg_X1_72 0 rfl rfl rfl (Nat.le_of_ble_eq_true rfl) dX1_match_48 (fun H locs hP => ?_)
  have hP : PD (dC, dI) A s.heap [(q0, .inr (1, [.ref q1, .ref q2, .ref q3, .ref q4, .int lefts_, .int clogs, .int 0, .int 0])), (q1, .inl (cc 0, 1024, .inl w2x)), (q2, .inl (cc 0, 10, .inl mates)), (q3, .inl (cc 0, 10, .inl sizes)), (q4, .inl (cc 0, 10, .inl w6))] H locs := hP
  refine lv_iconst (v := 0) hx hb dX1_match_51 (by decide) ?_
  refine lv_istore_n (lv' := [(1, .int 0), (0, .ref q0)]) hx hb dX1_match_52 rfl hl (by decide) rfl (fun ls hl => ?_)
  refine lv_iconst (v := 0) hx hb dX1_match_53 (by decide) ?_
  refine lv_istore_n (lv' := [(2, .int 0), (1, .int 0), (0, .ref q0)]) hx hb dX1_match_54 rfl hl (by decide) rfl (fun ls hl => ?_)
  obtain ⟨⟨j7x, j8x, w9x, w10x, w11x⟩, hlp, h⟩ := bnd_h h
  have L2 : ∀ (n : Nat) (j7 : Int32) (j8 : Int32) (w9 : Int32) (w10 : Int32) (w11 : (Nat → Int32)) (j7x : Int32) (j8x : Int32) (w9x : Int32) (w10x : Int32) (w11x : (Nat → Int32)), lp (u5 (b_X1_match_2 clogs lefts_ mates sizes w2x)) n (j7, j8, w9, w10, w11) = some (j7x, j8x, w9x, w10x, w11x) → ∀ (H : Heap) (locs : List Loc) (ls : Array Slot), PD (dC, dI) A s.heap [(q0, .inr (1, [.ref q1, .ref q2, .ref q3, .ref q4, .int lefts_, .int clogs, .int w9, .int w10])), (q1, .inl (cc 0, 1024, .inl w2x)), (q2, .inl (cc 0, 10, .inl mates)), (q3, .inl (cc 0, 10, .inl sizes)), (q4, .inl (cc 0, 10, .inl w11))] H locs → lv_has ls 4 [(0, .ref q0), (1, .int j7), (2, .int j8)] → (∀ (H : Heap) (locs : List Loc) (ls : Array Slot), PD (dC, dI) A s.heap [(q0, .inr (1, [.ref q1, .ref q2, .ref q3, .ref q4, .int lefts_, .int clogs, .int w9x, .int w10x])), (q1, .inl (cc 0, 1024, .inl w2x)), (q2, .inl (cc 0, 10, .inl mates)), (q3, .inl (cc 0, 10, .inl sizes)), (q4, .inl (cc 0, 10, .inl w11x))] H locs → lv_has ls 4 [(0, .ref q0), (1, .int j7x), (2, .int j8x)] → W p l e ({ frames := 4, cells := 0, slots := 0, locals := 90 } : Room) s m ([.ref q0] : List Value).toArray below meth c H locs 0 0 Z (F0 m 109 ls [])) → W p l e ({ frames := 4, cells := 0, slots := 0, locals := 90 } : Room) s m ([.ref q0] : List Value).toArray below meth c H locs 0 0 Z (F0 m 55 ls []) := by
    intro n
    induction n with
    | zero => intro j7 j8 w9 w10 w11 j7x j8x w9x w10x w11x h; exact (lp_0 h).elim
    | succ n ih =>
      intro j7 j8 w9 w10 w11 j7x j8x w9x w10x w11x h H locs ls hP hl KK
      obtain ⟨y, h, hz⟩ := lp_h h
      refine lv_iload_n hx hb dX1_match_55 rfl (lv_at hl 2 rfl) ?_
      refine lv_aload_n hx hb dX1_match_56 rfl (lv_at hl 0 rfl) ?_
      refine g_get hC hP fg_X1_39 0 rfl rfl dX1_match_57 ?_
      refine lv_icmp_ge (tgt := 109) hx hb dX1_match_60 (by decide) (fun c12 => ?_) (fun c12 => ?_)
      · have h := if_t c12 h
        cases lp_e h hz
        exact KK H locs ls hP (lv_sub hl [0, 1, 2] rfl)
      · have h := if_f c12 h
        refine lv_aload_n hx hb dX1_match_63 rfl (lv_at hl 0 rfl) ?_
        refine g_get hC hP fg_X1_44 0 rfl rfl dX1_match_64 ?_
        refine lv_iload_n hx hb dX1_match_67 rfl (lv_at hl 2 rfl) ?_
        obtain ⟨r13, hu, h⟩ := bnd_h h
        refine kc_z (kN hC (c_X9_hasBit l dC dI cc lefts_ j8 H.size r13 hu) cn_X1_75 kw586 rfl rfl ⟨(Nat.le_of_ble_eq_true rfl), (Nat.le_of_ble_eq_true rfl)⟩ hP [] rfl rfl (As := [.int lefts_, .int j8]) (rest := []) rfl rfl hl.1 (Nat.le_of_ble_eq_true rfl) dX1_match_68 ⟨Nat.zero_le _, Nat.zero_le _⟩) hP hA [] rfl rfl (fun hz_r13 H locs hP => ?_)
        have hP : PD (dC, dI) A s.heap [(q0, .inr (1, [.ref q1, .ref q2, .ref q3, .ref q4, .int lefts_, .int clogs, .int w9, .int w10])), (q1, .inl (cc 0, 1024, .inl w2x)), (q2, .inl (cc 0, 10, .inl mates)), (q3, .inl (cc 0, 10, .inl sizes)), (q4, .inl (cc 0, 10, .inl w11))] H locs := hP
        refine lv_if_eq (tgt := 103) hx hb dX1_match_71 (by decide) (fun c14 => ?_) (fun c14 => ?_)
        · have h := if_t c14 h
          refine lv_iinc (v := (j8 + 1)) (lv' := [(2, .int (j8 + 1)), (0, .ref q0), (1, .int j7)]) hx hb dX1_match_103 hl (k := 2) rfl rfl (by decide) rfl (fun ls hl => ?_)
          refine lv_goto (tgt := 55) hx hb dX1_match_106 (by decide) ?_
          exact ih _ _ _ _ _ _ _ _ _ _ (lp_n h hz) H locs ls hP (lv_sub hl [1, 2, 0] rfl) KK
        · have h := if_f c14 h
          refine lv_aload_n hx hb dX1_match_74 rfl (lv_at hl 0 rfl) ?_
          refine lv_iload_n hx hb dX1_match_75 rfl (lv_at hl 1 rfl) ?_
          refine lv_iload_n hx hb dX1_match_76 rfl (lv_at hl 2 rfl) ?_
          obtain ⟨r15, hu, h⟩ := bnd_h h
          refine kc_i (kV hC (c_X1_firstBest l dC dI cc q0 q1 q2 q3 q4 lefts_ clogs w9 w10 w2x mates sizes j7 j8 H.size r15 hu) cv_X1_79 kw603 rfl rfl ⟨(Nat.le_of_ble_eq_true rfl), (Nat.le_of_ble_eq_true rfl)⟩ hP [0, 1, 2, 3] rfl rfl rfl (q0 := 0) rfl (As := [.int j7, .int j8]) (rest := []) rfl rfl hl.1 (Nat.le_of_ble_eq_true rfl) dX1_match_77 ⟨Nat.zero_le _, Nat.zero_le _⟩) hP hA [0, 1, 2, 3] rfl rfl (fun H locs hP => ?_)
          have hP : PD (dC, dI) A s.heap [(q0, .inr (1, [.ref q1, .ref q2, .ref q3, .ref q4, .int lefts_, .int clogs, .int w9, .int w10])), (q1, .inl (cc 0, 1024, .inl w2x)), (q2, .inl (cc 0, 10, .inl mates)), (q3, .inl (cc 0, 10, .inl sizes)), (q4, .inl (cc 0, 10, .inl w11))] H locs := hP
          refine lv_istore_n (lv' := [(3, .int r15), (0, .ref q0), (1, .int j7), (2, .int j8)]) hx hb dX1_match_80 rfl hl (by decide) rfl (fun ls hl => ?_)
          refine lv_iload_n hx hb dX1_match_81 rfl (lv_at hl 2 rfl) ?_
          refine lv_iconst (v := 1) hx hb dX1_match_82 (by decide) ?_
          refine lv_iload_n hx hb dX1_match_83 rfl (lv_at hl 3 rfl) ?_
          refine lv_ishl hx hb dX1_match_84 ?_
          refine lv_ior hx hb dX1_match_85 ?_
          refine lv_istore_n (lv' := [(1, .int (j7 ||| (1 <<< (j8 &&& 31)))), (3, .int r15), (0, .ref q0), (2, .int j8)]) hx hb dX1_match_86 rfl hl (by decide) rfl (fun ls hl => ?_)
          refine lv_iload_n hx hb dX1_match_87 rfl (lv_at hl 1 rfl) ?_
          refine lv_if_lt (tgt := 103) hx hb dX1_match_88 (by decide) (fun c16 => ?_) (fun c16 => ?_)
          · have h := if_t c16 h
            refine lv_iinc (v := (j8 + 1)) (lv' := [(2, .int (j8 + 1)), (1, .int (j7 ||| (1 <<< (j8 &&& 31)))), (3, .int r15), (0, .ref q0)]) hx hb dX1_match_103 hl (k := 3) rfl rfl (by decide) rfl (fun ls hl => ?_)
            refine lv_goto (tgt := 55) hx hb dX1_match_106 (by decide) ?_
            exact ih _ _ _ _ _ _ _ _ _ _ (lp_n h hz) H locs ls hP (lv_sub hl [3, 1, 0] rfl) KK
          · have h := if_f c16 h
            refine lv_iload_n hx hb dX1_match_91 rfl (lv_at hl 0 rfl) ?_
            refine lv_iconst (v := 1) hx hb dX1_match_92 (by decide) ?_
            refine lv_iload_n hx hb dX1_match_93 rfl (lv_at hl 1 rfl) ?_
            refine lv_ishl hx hb dX1_match_94 ?_
            refine lv_ior hx hb dX1_match_95 ?_
            refine lv_topi (fun v17 ev => ?_)
            have h := nm_h ev h
            refine lv_istore_n (lv' := [(1, .int v17), (3, .int r15), (0, .ref q0), (2, .int j8)]) hx hb dX1_match_96 rfl hl (by decide) rfl (fun ls hl => ?_)
            refine lv_aload_n hx hb dX1_match_97 rfl (lv_at hl 2 rfl) ?_
            refine lv_iload_n hx hb dX1_match_98 rfl (lv_at hl 3 rfl) ?_
            refine lv_iload_n hx hb dX1_match_99 rfl (lv_at hl 1 rfl) ?_
            obtain ⟨⟨w18, w19, w20⟩, hu, h⟩ := bnd_h h
            refine kc_v (kV hC (c_X1_join l dC dI cc q0 q1 q2 q3 q4 lefts_ clogs w9 w10 sizes w11 j8 r15 H.size w18 w19 w20 hu) cv_X1_82 kw607 rfl rfl ⟨(Nat.le_of_ble_eq_true rfl), (Nat.le_of_ble_eq_true rfl)⟩ hP [0, 3, 4] rfl rfl rfl (q0 := 0) rfl (As := [.int j8, .int r15]) (rest := []) rfl rfl hl.1 (Nat.le_of_ble_eq_true rfl) dX1_match_100 ⟨Nat.zero_le _, Nat.zero_le _⟩) hP hA [0, 3, 4] rfl rfl (fun H locs hP => ?_)
            have hP : PD (dC, dI) A s.heap [(q0, .inr (1, [.ref q1, .ref q2, .ref q3, .ref q4, .int lefts_, .int clogs, .int w19, .int w20])), (q1, .inl (cc 0, 1024, .inl w2x)), (q2, .inl (cc 0, 10, .inl mates)), (q3, .inl (cc 0, 10, .inl sizes)), (q4, .inl (cc 0, 10, .inl w18))] H locs := hP
            refine lv_iinc (v := (j8 + 1)) (lv' := [(2, .int (j8 + 1)), (1, .int v17), (3, .int r15), (0, .ref q0)]) hx hb dX1_match_103 hl (k := 3) rfl rfl (by decide) rfl (fun ls hl => ?_)
            refine lv_goto (tgt := 55) hx hb dX1_match_106 (by decide) ?_
            exact ih _ _ _ _ _ _ _ _ _ _ (lp_n h hz) H locs ls hP (lv_sub hl [3, 1, 0] rfl) KK
  refine L2 FU _ _ _ _ _ j7x j8x w9x w10x w11x hlp H locs ls hP (lv_sub hl [2, 1, 0] rfl) (fun H locs ls hP hl => ?_)
  rw [eZ]
  exact ret_v hC hr hlk hP dX1_match_109 (w2x, w11x, w9x, w10x) (Option.some.inj h) rfl
set_option maxHeartbeats 8000000 in
set_option maxRecDepth 100000 in
theorem c_X1_partnerOf (l : Launch) (dC : Nat → ClassId) (dI : Nat → Nat → Nat) (cc : Nat → ClassId) (q0 q1 q2 q3 q4 : Nat) (lefts_ : Int32) (clogs : Int32) (number : Int32) (apart : Int32) (partners : (Nat → Int32)) (x1 : Int32) (sz : Nat) (ret : Int32) (hu : f_X1_partnerOf x1 clogs partners = some ret) : Met l yX1_partnerOf (mw yX1_partnerOf cX1_partnerOf 2 (some .int)) ({ frames := 1, cells := 0, slots := 0, locals := 21 } : Room) (va_Pc [.ref q0, .int x1] (mP (dC, dI) (ts cc) sz [(q0, .inr (1, [.ref q1, .ref q2, .ref q3, .ref q4, .int lefts_, .int clogs, .int number, .int apart])), (q4, .inl (cc 0, 10, .inl partners))])) ((fun A => va_Qi (fun (r : Int32) (w : Unit) => r = ret ∧ w = ()) (fun (w : Unit) t => va_P (dC, dI) classes [(q0, .inr (1, [.ref q1, .ref q2, .ref q3, .ref q4, .int lefts_, .int clogs, .int number, .int apart])), (q4, .inl (cc 0, 10, .inl partners))] t.heap) A) (va_A [(q0, .inr (1, [.ref q1, .ref q2, .ref q3, .ref q4, .int lefts_, .int clogs, .int number, .int apart])), (q4, .inl (cc 0, 10, .inl partners))] sz)) 0 0 (va_A [(q0, .inr (1, [.ref q1, .ref q2, .ref q3, .ref q4, .int lefts_, .int clogs, .int number, .int apart])), (q4, .inl (cc 0, 10, .inl partners))] sz) := by
  refine met_go (Qc := fun A => va_Qi (fun (r : Int32) (w : Unit) => r = ret ∧ w = ()) (fun (w : Unit) t => va_P (dC, dI) classes [(q0, .inr (1, [.ref q1, .ref q2, .ref q3, .ref q4, .int lefts_, .int clogs, .int number, .int apart])), (q4, .inl (cc 0, 10, .inl partners))] t.heap) A) (by decide) (Nat.le_of_ble_eq_true rfl) ?_
  intro p e s m below meth c A ls H locs hC hr hlk hin hA hP hl _
  have hC : CX p m c cX1_partnerOf 2 s ([.ref q0, .int x1] : List Value).toArray RX1 (dC, dI) (ts cc) := hC
  have hx := hC.1.1
  have hb := hC.1.2
  have h := hu
  have hu0 := hu
  unfold f_X1_partnerOf at h
  have hl : lv_has ls 2 [(0, .ref q0), (1, .int x1)] := hl
  refine lv_iload_n hx hb dX1_partnerOf_0 rfl (lv_at hl 1 rfl) ?_
  refine lv_if_lt (tgt := 23) hx hb dX1_partnerOf_1 (by decide) (fun c1 => ?_) (fun c1 => ?_)
  · have h := if_t c1 h
    refine lv_bipush (v := -4) hx hb dX1_partnerOf_23 (by decide) ?_
    exact ret_i hC hr hlk hP dX1_partnerOf_25 () (⟨Option.some.inj h, rfl⟩) rfl
  · have h := if_f c1 h
    refine lv_iload_n hx hb dX1_partnerOf_4 rfl (lv_at hl 1 rfl) ?_
    refine lv_aload_n hx hb dX1_partnerOf_5 rfl (lv_at hl 0 rfl) ?_
    refine g_get hC hP fg_X1_39 0 rfl rfl dX1_partnerOf_6 ?_
    refine lv_icmp_ge (tgt := 23) hx hb dX1_partnerOf_9 (by decide) (fun c2 => ?_) (fun c2 => ?_)
    · have h := if_t c2 h
      refine lv_bipush (v := -4) hx hb dX1_partnerOf_23 (by decide) ?_
      exact ret_i hC hr hlk hP dX1_partnerOf_25 () (⟨Option.some.inj h, rfl⟩) rfl
    · have h := if_f c2 h
      refine lv_aload_n hx hb dX1_partnerOf_12 rfl (lv_at hl 0 rfl) ?_
      refine g_get hC hP fg_X1_21 0 rfl rfl dX1_partnerOf_13 ?_
      refine lv_iload_n hx hb dX1_partnerOf_16 rfl (lv_at hl 1 rfl) ?_
      obtain ⟨r3, hu, h⟩ := bnd_h h
      refine kc_i (kN hC (c_X9_at l dC dI cc q4 10 partners x1 H.size r3 hu) cn_X1_86 kw332 rfl rfl ⟨(Nat.le_of_ble_eq_true rfl), (Nat.le_of_ble_eq_true rfl)⟩ hP [1] rfl rfl (As := [.ref q4, .int x1]) (rest := []) rfl rfl hl.1 (Nat.le_of_ble_eq_true rfl) dX1_partnerOf_17 ⟨Nat.zero_le _, Nat.zero_le _⟩) hP hA [1] rfl rfl (fun H locs hP => ?_)
      have hP : PD (dC, dI) A s.heap [(q0, .inr (1, [.ref q1, .ref q2, .ref q3, .ref q4, .int lefts_, .int clogs, .int number, .int apart])), (q4, .inl (cc 0, 10, .inl partners))] H locs := hP
      refine lv_goto (tgt := 25) hx hb dX1_partnerOf_20 (by decide) ?_
      exact ret_i hC hr hlk hP dX1_partnerOf_25 () (⟨Option.some.inj h, rfl⟩) rfl
set_option maxHeartbeats 8000000 in
set_option maxRecDepth 100000 in
theorem c_X1_giveOnTopOf (l : Launch) (dC : Nat → ClassId) (dI : Nat → Nat → Nat) (cc : Nat → ClassId) (q0 q1 q2 q3 q4 : Nat) (lefts_ : Int32) (clogs : Int32) (number : Int32) (apart : Int32) (sets : (Nat → Int32)) (mates : (Nat → Int32)) (x1 : Int32) (x2 : Int32) (sz : Nat) (o_sets : (Nat → Int32)) (hu : f_X1_giveOnTopOf x1 x2 lefts_ clogs sets mates = some o_sets) : Met l yX1_giveOnTopOf (mw yX1_giveOnTopOf cX1_giveOnTopOf 5 none) ({ frames := 1, cells := 0, slots := 0, locals := 22 } : Room) (va_Pc [.ref q0, .int x1, .int x2] (mP (dC, dI) (ts cc) sz [(q0, .inr (1, [.ref q1, .ref q2, .ref q3, .ref q4, .int lefts_, .int clogs, .int number, .int apart])), (q1, .inl (cc 0, 1024, .inl sets)), (q2, .inl (cc 0, 10, .inl mates))])) ((fun A => va_Qv (fun (w : (Nat → Int32)) => w = o_sets) (fun (w : (Nat → Int32)) t => va_P (dC, dI) classes [(q0, .inr (1, [.ref q1, .ref q2, .ref q3, .ref q4, .int lefts_, .int clogs, .int number, .int apart])), (q1, .inl (cc 0, 1024, .inl w)), (q2, .inl (cc 0, 10, .inl mates))] t.heap) A) (va_A [(q0, .inr (1, [.ref q1, .ref q2, .ref q3, .ref q4, .int lefts_, .int clogs, .int number, .int apart])), (q1, .inl (cc 0, 1024, .inl sets)), (q2, .inl (cc 0, 10, .inl mates))] sz)) 0 0 (va_A [(q0, .inr (1, [.ref q1, .ref q2, .ref q3, .ref q4, .int lefts_, .int clogs, .int number, .int apart])), (q1, .inl (cc 0, 1024, .inl sets)), (q2, .inl (cc 0, 10, .inl mates))] sz) := by
  refine met_go (Qc := fun A => va_Qv (fun (w : (Nat → Int32)) => w = o_sets) (fun (w : (Nat → Int32)) t => va_P (dC, dI) classes [(q0, .inr (1, [.ref q1, .ref q2, .ref q3, .ref q4, .int lefts_, .int clogs, .int number, .int apart])), (q1, .inl (cc 0, 1024, .inl w)), (q2, .inl (cc 0, 10, .inl mates))] t.heap) A) (by decide) (Nat.le_of_ble_eq_true rfl) ?_
  intro p e s m below meth c A ls H locs hC hr hlk hin hA hP hl _
  have hC : CX p m c cX1_giveOnTopOf 5 s ([.ref q0, .int x1, .int x2] : List Value).toArray RX1 (dC, dI) (ts cc) := hC
  have hx := hC.1.1
  have hb := hC.1.2
  have h := hu
  have hu0 := hu
  unfold f_X1_giveOnTopOf at h
  have hl : lv_has ls 5 [(0, .ref q0), (1, .int x1), (2, .int x2)] := hl
  refine W_abs (fun Z eZ => ?_)
  refine lv_iconst (v := 0) hx hb dX1_giveOnTopOf_0 (by decide) ?_
  refine lv_istore_n (lv' := [(3, .int 0), (0, .ref q0), (1, .int x1), (2, .int x2)]) hx hb dX1_giveOnTopOf_1 rfl hl (by decide) rfl (fun ls hl => ?_)
  obtain ⟨⟨j1x, w2x⟩, hlp, h⟩ := bnd_h h
  have L1 : ∀ (n : Nat) (j1 : Int32) (w2 : (Nat → Int32)) (j1x : Int32) (w2x : (Nat → Int32)), lp (u2 (b_X1_giveOnTopOf_1 clogs lefts_ mates x1 x2)) n (j1, w2) = some (j1x, w2x) → ∀ (H : Heap) (locs : List Loc) (ls : Array Slot), PD (dC, dI) A s.heap [(q0, .inr (1, [.ref q1, .ref q2, .ref q3, .ref q4, .int lefts_, .int clogs, .int number, .int apart])), (q1, .inl (cc 0, 1024, .inl w2)), (q2, .inl (cc 0, 10, .inl mates))] H locs → lv_has ls 5 [(0, .ref q0), (1, .int x1), (2, .int x2), (3, .int j1)] → (∀ (H : Heap) (locs : List Loc) (ls : Array Slot), PD (dC, dI) A s.heap [(q0, .inr (1, [.ref q1, .ref q2, .ref q3, .ref q4, .int lefts_, .int clogs, .int number, .int apart])), (q1, .inl (cc 0, 1024, .inl w2x)), (q2, .inl (cc 0, 10, .inl mates))] H locs → lv_has ls 5 [(0, .ref q0), (1, .int x1), (2, .int x2), (3, .int j1x)] → W p l e ({ frames := 1, cells := 0, slots := 0, locals := 22 } : Room) s m ([.ref q0, .int x1, .int x2] : List Value).toArray below meth c H locs 0 0 Z (F0 m 83 ls [])) → W p l e ({ frames := 1, cells := 0, slots := 0, locals := 22 } : Room) s m ([.ref q0, .int x1, .int x2] : List Value).toArray below meth c H locs 0 0 Z (F0 m 2 ls []) := by
    intro n
    induction n with
    | zero => intro j1 w2 j1x w2x h; exact (lp_0 h).elim
    | succ n ih =>
      intro j1 w2 j1x w2x h H locs ls hP hl KK
      obtain ⟨y, h, hz⟩ := lp_h h
      refine lv_iload_n hx hb dX1_giveOnTopOf_2 rfl (lv_at hl 3 rfl) ?_
      refine lv_aload_n hx hb dX1_giveOnTopOf_3 rfl (lv_at hl 0 rfl) ?_
      refine g_get hC hP fg_X1_39 0 rfl rfl dX1_giveOnTopOf_4 ?_
      refine lv_icmp_ge (tgt := 83) hx hb dX1_giveOnTopOf_7 (by decide) (fun c3 => ?_) (fun c3 => ?_)
      · have h := if_t c3 h
        cases lp_e h hz
        exact KK H locs ls hP (lv_sub hl [0, 1, 2, 3] rfl)
      · have h := if_f c3 h
        refine lv_aload_n hx hb dX1_giveOnTopOf_10 rfl (lv_at hl 0 rfl) ?_
        refine g_get hC hP fg_X1_44 0 rfl rfl dX1_giveOnTopOf_11 ?_
        refine lv_iload_n hx hb dX1_giveOnTopOf_14 rfl (lv_at hl 2 rfl) ?_
        refine lv_iand hx hb dX1_giveOnTopOf_15 ?_
        refine lv_iload_n hx hb dX1_giveOnTopOf_16 rfl (lv_at hl 3 rfl) ?_
        obtain ⟨r4, hu, h⟩ := bnd_h h
        refine kc_z (kN hC (c_X9_hasBit l dC dI cc (lefts_ &&& x2) j1 H.size r4 hu) cn_X1_75 kw586 rfl rfl ⟨(Nat.le_of_ble_eq_true rfl), (Nat.le_of_ble_eq_true rfl)⟩ hP [] rfl rfl (As := [.int (lefts_ &&& x2), .int j1]) (rest := []) rfl rfl hl.1 (Nat.le_of_ble_eq_true rfl) dX1_giveOnTopOf_17 ⟨Nat.zero_le _, Nat.zero_le _⟩) hP hA [] rfl rfl (fun hz_r4 H locs hP => ?_)
        have hP : PD (dC, dI) A s.heap [(q0, .inr (1, [.ref q1, .ref q2, .ref q3, .ref q4, .int lefts_, .int clogs, .int number, .int apart])), (q1, .inl (cc 0, 1024, .inl w2)), (q2, .inl (cc 0, 10, .inl mates))] H locs := hP
        refine lv_if_eq (tgt := 77) hx hb dX1_giveOnTopOf_20 (by decide) (fun c5 => ?_) (fun c5 => ?_)
        · have h := if_t c5 h
          refine lv_iinc (v := (j1 + 1)) (lv' := [(3, .int (j1 + 1)), (0, .ref q0), (1, .int x1), (2, .int x2)]) hx hb dX1_giveOnTopOf_77 hl (k := 3) rfl rfl (by decide) rfl (fun ls hl => ?_)
          refine lv_goto (tgt := 2) hx hb dX1_giveOnTopOf_80 (by decide) ?_
          exact ih _ _ _ _ (lp_n h hz) H locs ls hP (lv_sub hl [1, 2, 3, 0] rfl) KK
        · have h := if_f c5 h
          refine lv_iconst (v := 0) hx hb dX1_giveOnTopOf_23 (by decide) ?_
          refine lv_istore (lv' := [(4, .int 0), (0, .ref q0), (1, .int x1), (2, .int x2), (3, .int j1)]) hx hb dX1_giveOnTopOf_24 hl (by decide) rfl (fun ls hl => ?_)
          obtain ⟨⟨j6x, w7x⟩, hlp, h⟩ := bnd_h h
          have L2 : ∀ (n : Nat) (j6 : Int32) (w7 : (Nat → Int32)) (j6x : Int32) (w7x : (Nat → Int32)), lp (u2 (b_X1_giveOnTopOf_2 clogs j1 mates x1 x2)) n (j6, w7) = some (j6x, w7x) → ∀ (H : Heap) (locs : List Loc) (ls : Array Slot), PD (dC, dI) A s.heap [(q0, .inr (1, [.ref q1, .ref q2, .ref q3, .ref q4, .int lefts_, .int clogs, .int number, .int apart])), (q1, .inl (cc 0, 1024, .inl w7)), (q2, .inl (cc 0, 10, .inl mates))] H locs → lv_has ls 5 [(0, .ref q0), (1, .int x1), (2, .int x2), (3, .int j1), (4, .int j6)] → (∀ (H : Heap) (locs : List Loc) (ls : Array Slot), PD (dC, dI) A s.heap [(q0, .inr (1, [.ref q1, .ref q2, .ref q3, .ref q4, .int lefts_, .int clogs, .int number, .int apart])), (q1, .inl (cc 0, 1024, .inl w7x)), (q2, .inl (cc 0, 10, .inl mates))] H locs → lv_has ls 5 [(0, .ref q0), (1, .int x1), (2, .int x2), (3, .int j1), (4, .int j6x)] → W p l e ({ frames := 1, cells := 0, slots := 0, locals := 22 } : Room) s m ([.ref q0, .int x1, .int x2] : List Value).toArray below meth c H locs 0 0 Z (F0 m 77 ls [])) → W p l e ({ frames := 1, cells := 0, slots := 0, locals := 22 } : Room) s m ([.ref q0, .int x1, .int x2] : List Value).toArray below meth c H locs 0 0 Z (F0 m 26 ls []) := by
            intro n
            induction n with
            | zero => intro j6 w7 j6x w7x h; exact (lp_0 h).elim
            | succ n ih =>
              intro j6 w7 j6x w7x h H locs ls hP hl KK
              obtain ⟨y, h, hz⟩ := lp_h h
              refine lv_iload hx hb dX1_giveOnTopOf_26 (lv_at hl 4 rfl) ?_
              refine lv_aload_n hx hb dX1_giveOnTopOf_28 rfl (lv_at hl 0 rfl) ?_
              refine g_get hC hP fg_X1_39 0 rfl rfl dX1_giveOnTopOf_29 ?_
              refine lv_icmp_ge (tgt := 77) hx hb dX1_giveOnTopOf_32 (by decide) (fun c8 => ?_) (fun c8 => ?_)
              · have h := if_t c8 h
                cases lp_e h hz
                exact KK H locs ls hP (lv_sub hl [0, 1, 2, 3, 4] rfl)
              · have h := if_f c8 h
                refine lv_aload_n hx hb dX1_giveOnTopOf_35 rfl (lv_at hl 0 rfl) ?_
                refine g_get hC hP fg_X1_15 0 rfl rfl dX1_giveOnTopOf_36 ?_
                refine lv_iload_n hx hb dX1_giveOnTopOf_39 rfl (lv_at hl 3 rfl) ?_
                obtain ⟨r9, hu, h⟩ := bnd_h h
                refine kc_i (kN hC (c_X9_at l dC dI cc q2 10 mates j1 H.size r9 hu) cn_X1_86 kw332 rfl rfl ⟨(Nat.le_of_ble_eq_true rfl), (Nat.le_of_ble_eq_true rfl)⟩ hP [2] rfl rfl (As := [.ref q2, .int j1]) (rest := []) rfl rfl hl.1 (Nat.le_of_ble_eq_true rfl) dX1_giveOnTopOf_40 ⟨Nat.zero_le _, Nat.zero_le _⟩) hP hA [2] rfl rfl (fun H locs hP => ?_)
                have hP : PD (dC, dI) A s.heap [(q0, .inr (1, [.ref q1, .ref q2, .ref q3, .ref q4, .int lefts_, .int clogs, .int number, .int apart])), (q1, .inl (cc 0, 1024, .inl w7)), (q2, .inl (cc 0, 10, .inl mates))] H locs := hP
                refine lv_iload_n hx hb dX1_giveOnTopOf_43 rfl (lv_at hl 2 rfl) ?_
                refine lv_iand hx hb dX1_giveOnTopOf_44 ?_
                refine lv_iload hx hb dX1_giveOnTopOf_45 (lv_at hl 4 rfl) ?_
                obtain ⟨r10, hu, h⟩ := bnd_h h
                refine kc_z (kN hC (c_X9_hasBit l dC dI cc (r9 &&& x2) j6 H.size r10 hu) cn_X1_75 kw586 rfl rfl ⟨(Nat.le_of_ble_eq_true rfl), (Nat.le_of_ble_eq_true rfl)⟩ hP [] rfl rfl (As := [.int (r9 &&& x2), .int j6]) (rest := []) rfl rfl hl.1 (Nat.le_of_ble_eq_true rfl) dX1_giveOnTopOf_47 ⟨Nat.zero_le _, Nat.zero_le _⟩) hP hA [] rfl rfl (fun hz_r10 H locs hP => ?_)
                have hP : PD (dC, dI) A s.heap [(q0, .inr (1, [.ref q1, .ref q2, .ref q3, .ref q4, .int lefts_, .int clogs, .int number, .int apart])), (q1, .inl (cc 0, 1024, .inl w7)), (q2, .inl (cc 0, 10, .inl mates))] H locs := hP
                refine lv_if_eq (tgt := 71) hx hb dX1_giveOnTopOf_50 (by decide) (fun c11 => ?_) (fun c11 => ?_)
                · have h := if_t c11 h
                  refine lv_iinc (v := (j6 + 1)) (lv' := [(4, .int (j6 + 1)), (0, .ref q0), (1, .int x1), (2, .int x2), (3, .int j1)]) hx hb dX1_giveOnTopOf_71 hl (k := 4) rfl rfl (by decide) rfl (fun ls hl => ?_)
                  refine lv_goto (tgt := 26) hx hb dX1_giveOnTopOf_74 (by decide) ?_
                  exact ih _ _ _ _ (lp_n h hz) H locs ls hP (lv_sub hl [1, 2, 3, 4, 0] rfl) KK
                · have h := if_f c11 h
                  refine lv_aload_n hx hb dX1_giveOnTopOf_53 rfl (lv_at hl 0 rfl) ?_
                  refine g_get hC hP fg_X1_9 0 rfl rfl dX1_giveOnTopOf_54 ?_
                  refine lv_iload_n hx hb dX1_giveOnTopOf_57 rfl (lv_at hl 1 rfl) ?_
                  refine lv_iconst (v := 1) hx hb dX1_giveOnTopOf_58 (by decide) ?_
                  refine lv_iload_n hx hb dX1_giveOnTopOf_59 rfl (lv_at hl 3 rfl) ?_
                  refine lv_ishl hx hb dX1_giveOnTopOf_60 ?_
                  refine lv_ior hx hb dX1_giveOnTopOf_61 ?_
                  refine lv_iconst (v := 1) hx hb dX1_giveOnTopOf_62 (by decide) ?_
                  refine lv_iload hx hb dX1_giveOnTopOf_63 (lv_at hl 4 rfl) ?_
                  refine lv_ishl hx hb dX1_giveOnTopOf_65 ?_
                  refine lv_ior hx hb dX1_giveOnTopOf_66 ?_
                  refine lv_iconst (v := 1) hx hb dX1_giveOnTopOf_67 (by decide) ?_
                  obtain ⟨w12, hu, h⟩ := bnd_h h
                  refine kc_v (kN hC (c_X9_put l dC dI cc q1 1024 w7 ((x1 ||| (1 <<< (j1 &&& 31))) ||| (1 <<< (j6 &&& 31))) 1 H.size w12 hu) cn_X1_50 kw320 rfl rfl ⟨(Nat.le_of_ble_eq_true rfl), (Nat.le_of_ble_eq_true rfl)⟩ hP [1] rfl rfl (As := [.ref q1, .int ((x1 ||| (1 <<< (j1 &&& 31))) ||| (1 <<< (j6 &&& 31))), .int 1]) (rest := []) rfl rfl hl.1 (Nat.le_of_ble_eq_true rfl) dX1_giveOnTopOf_68 ⟨Nat.zero_le _, Nat.zero_le _⟩) hP hA [1] rfl rfl (fun H locs hP => ?_)
                  have hP : PD (dC, dI) A s.heap [(q0, .inr (1, [.ref q1, .ref q2, .ref q3, .ref q4, .int lefts_, .int clogs, .int number, .int apart])), (q1, .inl (cc 0, 1024, .inl w12)), (q2, .inl (cc 0, 10, .inl mates))] H locs := hP
                  refine lv_iinc (v := (j6 + 1)) (lv' := [(4, .int (j6 + 1)), (0, .ref q0), (1, .int x1), (2, .int x2), (3, .int j1)]) hx hb dX1_giveOnTopOf_71 hl (k := 4) rfl rfl (by decide) rfl (fun ls hl => ?_)
                  refine lv_goto (tgt := 26) hx hb dX1_giveOnTopOf_74 (by decide) ?_
                  exact ih _ _ _ _ (lp_n h hz) H locs ls hP (lv_sub hl [1, 2, 3, 4, 0] rfl) KK
          refine L2 FU _ _ j6x w7x hlp H locs ls hP (lv_sub hl [1, 2, 3, 4, 0] rfl) (fun H locs ls hP hl => ?_)
          refine lv_iinc (v := (j1 + 1)) (lv' := [(3, .int (j1 + 1)), (0, .ref q0), (1, .int x1), (2, .int x2), (4, .int j6x)]) hx hb dX1_giveOnTopOf_77 hl (k := 3) rfl rfl (by decide) rfl (fun ls hl => ?_)
          refine lv_goto (tgt := 2) hx hb dX1_giveOnTopOf_80 (by decide) ?_
          exact ih _ _ _ _ (lp_n h hz) H locs ls hP (lv_sub hl [1, 2, 3, 0] rfl) KK
  refine L1 FU _ _ j1x w2x hlp H locs ls hP (lv_sub hl [1, 2, 3, 0] rfl) (fun H locs ls hP hl => ?_)
  rw [eZ]
  exact ret_v hC hr hlk hP dX1_giveOnTopOf_83 w2x (Option.some.inj h) rfl
set_option maxHeartbeats 8000000 in
set_option maxRecDepth 100000 in
theorem c_X1_giveOut (l : Launch) (dC : Nat → ClassId) (dI : Nat → Nat → Nat) (cc : Nat → ClassId) (q0 q1 q2 q3 q4 : Nat) (lefts_ : Int32) (clogs : Int32) (number : Int32) (apart : Int32) (sets : (Nat → Int32)) (mates : (Nat → Int32)) (x1 : Int32) (sz : Nat) (o_sets : (Nat → Int32)) (hu : f_X1_giveOut x1 lefts_ clogs sets mates = some o_sets) : Met l yX1_giveOut (mw yX1_giveOut cX1_giveOut 3 none) ({ frames := 2, cells := 0, slots := 0, locals := 46 } : Room) (va_Pc [.ref q0, .int x1] (mP (dC, dI) (ts cc) sz [(q0, .inr (1, [.ref q1, .ref q2, .ref q3, .ref q4, .int lefts_, .int clogs, .int number, .int apart])), (q1, .inl (cc 0, 1024, .inl sets)), (q2, .inl (cc 0, 10, .inl mates))])) ((fun A => va_Qv (fun (w : (Nat → Int32)) => w = o_sets) (fun (w : (Nat → Int32)) t => va_P (dC, dI) classes [(q0, .inr (1, [.ref q1, .ref q2, .ref q3, .ref q4, .int lefts_, .int clogs, .int number, .int apart])), (q1, .inl (cc 0, 1024, .inl w)), (q2, .inl (cc 0, 10, .inl mates))] t.heap) A) (va_A [(q0, .inr (1, [.ref q1, .ref q2, .ref q3, .ref q4, .int lefts_, .int clogs, .int number, .int apart])), (q1, .inl (cc 0, 1024, .inl sets)), (q2, .inl (cc 0, 10, .inl mates))] sz)) 0 0 (va_A [(q0, .inr (1, [.ref q1, .ref q2, .ref q3, .ref q4, .int lefts_, .int clogs, .int number, .int apart])), (q1, .inl (cc 0, 1024, .inl sets)), (q2, .inl (cc 0, 10, .inl mates))] sz) := by
  refine met_go (Qc := fun A => va_Qv (fun (w : (Nat → Int32)) => w = o_sets) (fun (w : (Nat → Int32)) t => va_P (dC, dI) classes [(q0, .inr (1, [.ref q1, .ref q2, .ref q3, .ref q4, .int lefts_, .int clogs, .int number, .int apart])), (q1, .inl (cc 0, 1024, .inl w)), (q2, .inl (cc 0, 10, .inl mates))] t.heap) A) (by decide) (Nat.le_of_ble_eq_true rfl) ?_
  intro p e s m below meth c A ls H locs hC hr hlk hin hA hP hl _
  have hC : CX p m c cX1_giveOut 3 s ([.ref q0, .int x1] : List Value).toArray RX1 (dC, dI) (ts cc) := hC
  have hx := hC.1.1
  have hb := hC.1.2
  have h := hu
  have hu0 := hu
  unfold f_X1_giveOut at h
  have hl : lv_has ls 3 [(0, .ref q0), (1, .int x1)] := hl
  refine W_abs (fun Z eZ => ?_)
  refine lv_iconst (v := 1) hx hb dX1_giveOut_0 (by decide) ?_
  refine lv_aload_n hx hb dX1_giveOut_1 rfl (lv_at hl 0 rfl) ?_
  refine g_get hC hP fg_X1_39 0 rfl rfl dX1_giveOut_2 ?_
  refine lv_ishl hx hb dX1_giveOut_5 ?_
  refine lv_iconst (v := 1) hx hb dX1_giveOut_6 (by decide) ?_
  refine lv_isub hx hb dX1_giveOut_7 ?_
  refine lv_istore_n (lv' := [(2, .int ((1 <<< (clogs &&& 31)) - 1)), (0, .ref q0), (1, .int x1)]) hx hb dX1_giveOut_8 rfl hl (by decide) rfl (fun ls hl => ?_)
  obtain ⟨⟨j1x, w2x⟩, hlp, h⟩ := bnd_h h
  have L1 : ∀ (n : Nat) (j1 : Int32) (w2 : (Nat → Int32)) (j1x : Int32) (w2x : (Nat → Int32)), lp (u2 (b_X1_giveOut_1 clogs lefts_ mates x1)) n (j1, w2) = some (j1x, w2x) → ∀ (H : Heap) (locs : List Loc) (ls : Array Slot), PD (dC, dI) A s.heap [(q0, .inr (1, [.ref q1, .ref q2, .ref q3, .ref q4, .int lefts_, .int clogs, .int number, .int apart])), (q1, .inl (cc 0, 1024, .inl w2)), (q2, .inl (cc 0, 10, .inl mates))] H locs → lv_has ls 3 [(0, .ref q0), (1, .int x1), (2, .int j1)] → (∀ (H : Heap) (locs : List Loc) (ls : Array Slot), PD (dC, dI) A s.heap [(q0, .inr (1, [.ref q1, .ref q2, .ref q3, .ref q4, .int lefts_, .int clogs, .int number, .int apart])), (q1, .inl (cc 0, 1024, .inl w2x)), (q2, .inl (cc 0, 10, .inl mates))] H locs → lv_has ls 3 [(0, .ref q0), (1, .int x1), (2, .int j1x)] → W p l e ({ frames := 2, cells := 0, slots := 0, locals := 46 } : Room) s m ([.ref q0, .int x1] : List Value).toArray below meth c H locs 0 0 Z (F0 m 40 ls [])) → W p l e ({ frames := 2, cells := 0, slots := 0, locals := 46 } : Room) s m ([.ref q0, .int x1] : List Value).toArray below meth c H locs 0 0 Z (F0 m 9 ls []) := by
    intro n
    induction n with
    | zero => intro j1 w2 j1x w2x h; exact (lp_0 h).elim
    | succ n ih =>
      intro j1 w2 j1x w2x h H locs ls hP hl KK
      obtain ⟨y, h, hz⟩ := lp_h h
      refine lv_iload_n hx hb dX1_giveOut_9 rfl (lv_at hl 2 rfl) ?_
      refine lv_if_lt (tgt := 40) hx hb dX1_giveOut_10 (by decide) (fun c3 => ?_) (fun c3 => ?_)
      · have h := if_t c3 h
        cases lp_e h hz
        exact KK H locs ls hP (lv_sub hl [0, 1, 2] rfl)
      · have h := if_f c3 h
        refine lv_aload_n hx hb dX1_giveOut_13 rfl (lv_at hl 0 rfl) ?_
        refine g_get hC hP fg_X1_9 0 rfl rfl dX1_giveOut_14 ?_
        refine lv_iload_n hx hb dX1_giveOut_17 rfl (lv_at hl 2 rfl) ?_
        obtain ⟨r4, hu, h⟩ := bnd_h h
        refine kc_i (kN hC (c_X9_at l dC dI cc q1 1024 w2 j1 H.size r4 hu) cn_X1_86 kw332 rfl rfl ⟨(Nat.le_of_ble_eq_true rfl), (Nat.le_of_ble_eq_true rfl)⟩ hP [1] rfl rfl (As := [.ref q1, .int j1]) (rest := []) rfl rfl hl.1 (Nat.le_of_ble_eq_true rfl) dX1_giveOut_18 ⟨Nat.zero_le _, Nat.zero_le _⟩) hP hA [1] rfl rfl (fun H locs hP => ?_)
        have hP : PD (dC, dI) A s.heap [(q0, .inr (1, [.ref q1, .ref q2, .ref q3, .ref q4, .int lefts_, .int clogs, .int number, .int apart])), (q1, .inl (cc 0, 1024, .inl w2)), (q2, .inl (cc 0, 10, .inl mates))] H locs := hP
        refine lv_if_eq (tgt := 34) hx hb dX1_giveOut_21 (by decide) (fun c5 => ?_) (fun c5 => ?_)
        · have h := if_t c5 h
          refine lv_iinc (v := (j1 + (-1))) (lv' := [(2, .int (j1 + (-1))), (0, .ref q0), (1, .int x1)]) hx hb dX1_giveOut_34 hl (k := 2) rfl rfl (by decide) rfl (fun ls hl => ?_)
          refine lv_goto (tgt := 9) hx hb dX1_giveOut_37 (by decide) ?_
          exact ih _ _ _ _ (lp_n h hz) H locs ls hP (lv_sub hl [1, 2, 0] rfl) KK
        · have h := if_f c5 h
          refine lv_aload_n hx hb dX1_giveOut_24 rfl (lv_at hl 0 rfl) ?_
          refine lv_iload_n hx hb dX1_giveOut_25 rfl (lv_at hl 2 rfl) ?_
          refine lv_iload_n hx hb dX1_giveOut_26 rfl (lv_at hl 1 rfl) ?_
          refine lv_iload_n hx hb dX1_giveOut_27 rfl (lv_at hl 2 rfl) ?_
          refine lv_iconst (v := -1) hx hb dX1_giveOut_28 (by decide) ?_
          refine lv_ixor hx hb dX1_giveOut_29 ?_
          refine lv_iand hx hb dX1_giveOut_30 ?_
          obtain ⟨w6, hu, h⟩ := bnd_h h
          refine kc_v (kV hC (c_X1_giveOnTopOf l dC dI cc q0 q1 q2 q3 q4 lefts_ clogs number apart w2 mates j1 (x1 &&& (j1 ^^^ (-1))) H.size w6 hu) cv_X1_116 kw644 rfl rfl ⟨(Nat.le_of_ble_eq_true rfl), (Nat.le_of_ble_eq_true rfl)⟩ hP [0, 1, 2] rfl rfl rfl (q0 := 0) rfl (As := [.int j1, .int (x1 &&& (j1 ^^^ (-1)))]) (rest := []) rfl rfl hl.1 (Nat.le_of_ble_eq_true rfl) dX1_giveOut_31 ⟨Nat.zero_le _, Nat.zero_le _⟩) hP hA [0, 1, 2] rfl rfl (fun H locs hP => ?_)
          have hP : PD (dC, dI) A s.heap [(q0, .inr (1, [.ref q1, .ref q2, .ref q3, .ref q4, .int lefts_, .int clogs, .int number, .int apart])), (q1, .inl (cc 0, 1024, .inl w6)), (q2, .inl (cc 0, 10, .inl mates))] H locs := hP
          refine lv_iinc (v := (j1 + (-1))) (lv' := [(2, .int (j1 + (-1))), (0, .ref q0), (1, .int x1)]) hx hb dX1_giveOut_34 hl (k := 2) rfl rfl (by decide) rfl (fun ls hl => ?_)
          refine lv_goto (tgt := 9) hx hb dX1_giveOut_37 (by decide) ?_
          exact ih _ _ _ _ (lp_n h hz) H locs ls hP (lv_sub hl [1, 2, 0] rfl) KK
  refine L1 FU _ _ j1x w2x hlp H locs ls hP (lv_sub hl [1, 2, 0] rfl) (fun H locs ls hP hl => ?_)
  rw [eZ]
  exact ret_v hC hr hlk hP dX1_giveOut_40 w2x (Option.some.inj h) rfl
set_option maxHeartbeats 8000000 in
set_option maxRecDepth 100000 in
theorem c_X1_serve (l : Launch) (dC : Nat → ClassId) (dI : Nat → Nat → Nat) (cc : Nat → ClassId) (q0 q1 q2 q3 q4 q5 q6 q7 : Nat) (lefts_ : Int32) (clogs : Int32) (number : Int32) (apart : Int32) (sets : (Nat → Int32)) (mates : (Nat → Int32)) (sizes : (Nat → Int32)) (o1_number : Int32) (o1_stocking : Int32) (o1_lefts : (Nat → Int32)) (o1_rights : (Nat → Int32)) (sz : Nat) (ret : Int32) (o_sets : (Nat → Int32)) (hu : f_X1_serve lefts_ clogs sets mates sizes o1_number o1_stocking o1_lefts o1_rights = some (ret, o_sets)) : Met l yX1_serve (mw yX1_serve cX1_serve 5 (some .int)) ({ frames := 3, cells := 0, slots := 0, locals := 68 } : Room) (va_Pc [.ref q0, .ref q5] (mP (dC, dI) (ts cc) sz [(q0, .inr (1, [.ref q1, .ref q2, .ref q3, .ref q4, .int lefts_, .int clogs, .int number, .int apart])), (q1, .inl (cc 0, 1024, .inl sets)), (q2, .inl (cc 0, 10, .inl mates)), (q3, .inl (cc 0, 10, .inl sizes)), (q5, .inr (6, [.ref q6, .ref q7, .int o1_number, .int o1_stocking])), (q6, .inl (cc 0, 5, .inl o1_lefts)), (q7, .inl (cc 0, 5, .inl o1_rights))])) ((fun A => va_Qi (fun (r : Int32) (w : (Nat → Int32)) => r = ret ∧ w = o_sets) (fun (w : (Nat → Int32)) t => va_P (dC, dI) classes [(q0, .inr (1, [.ref q1, .ref q2, .ref q3, .ref q4, .int lefts_, .int clogs, .int number, .int apart])), (q1, .inl (cc 0, 1024, .inl w)), (q2, .inl (cc 0, 10, .inl mates)), (q3, .inl (cc 0, 10, .inl sizes)), (q5, .inr (6, [.ref q6, .ref q7, .int o1_number, .int o1_stocking])), (q6, .inl (cc 0, 5, .inl o1_lefts)), (q7, .inl (cc 0, 5, .inl o1_rights))] t.heap) A) (va_A [(q0, .inr (1, [.ref q1, .ref q2, .ref q3, .ref q4, .int lefts_, .int clogs, .int number, .int apart])), (q1, .inl (cc 0, 1024, .inl sets)), (q2, .inl (cc 0, 10, .inl mates)), (q3, .inl (cc 0, 10, .inl sizes)), (q5, .inr (6, [.ref q6, .ref q7, .int o1_number, .int o1_stocking])), (q6, .inl (cc 0, 5, .inl o1_lefts)), (q7, .inl (cc 0, 5, .inl o1_rights))] sz)) 0 0 (va_A [(q0, .inr (1, [.ref q1, .ref q2, .ref q3, .ref q4, .int lefts_, .int clogs, .int number, .int apart])), (q1, .inl (cc 0, 1024, .inl sets)), (q2, .inl (cc 0, 10, .inl mates)), (q3, .inl (cc 0, 10, .inl sizes)), (q5, .inr (6, [.ref q6, .ref q7, .int o1_number, .int o1_stocking])), (q6, .inl (cc 0, 5, .inl o1_lefts)), (q7, .inl (cc 0, 5, .inl o1_rights))] sz) := by
  refine met_go (Qc := fun A => va_Qi (fun (r : Int32) (w : (Nat → Int32)) => r = ret ∧ w = o_sets) (fun (w : (Nat → Int32)) t => va_P (dC, dI) classes [(q0, .inr (1, [.ref q1, .ref q2, .ref q3, .ref q4, .int lefts_, .int clogs, .int number, .int apart])), (q1, .inl (cc 0, 1024, .inl w)), (q2, .inl (cc 0, 10, .inl mates)), (q3, .inl (cc 0, 10, .inl sizes)), (q5, .inr (6, [.ref q6, .ref q7, .int o1_number, .int o1_stocking])), (q6, .inl (cc 0, 5, .inl o1_lefts)), (q7, .inl (cc 0, 5, .inl o1_rights))] t.heap) A) (by decide) (Nat.le_of_ble_eq_true rfl) ?_
  intro p e s m below meth c A ls H locs hC hr hlk hin hA hP hl _
  have hC : CX p m c cX1_serve 5 s ([.ref q0, .ref q5] : List Value).toArray RX1 (dC, dI) (ts cc) := hC
  have hx := hC.1.1
  have hb := hC.1.2
  have h := hu
  have hu0 := hu
  unfold f_X1_serve at h
  have hl : lv_has ls 5 [(0, .ref q0), (1, .ref q5)] := hl
  refine W_abs (fun Z eZ => ?_)
  refine lv_aload_n hx hb dX1_serve_0 rfl (lv_at hl 1 rfl) ?_
  refine lv_ifnonnull (tgt := 6) hx hb dX1_serve_1 (by decide) ?_
  refine lv_aload_n hx hb dX1_serve_6 rfl (lv_at hl 0 rfl) ?_
  refine g_get hC hP fg_X1_9 0 rfl rfl dX1_serve_7 ?_
  refine lv_iconst (v := 0) hx hb dX1_serve_10 (by decide) ?_
  obtain ⟨w1, hu, h⟩ := bnd_h h
  refine kc_v (kS hC (c_J7_fill_53178 l dC dI cc q1 1024 sets 0 H.size w1 hu) cs_X1_63 kw599 rfl rfl ⟨(Nat.le_of_ble_eq_true rfl), (Nat.le_of_ble_eq_true rfl)⟩ hP [1] rfl rfl (As := [.ref q1, .int 0]) (rest := []) rfl rfl hl.1 (Nat.le_of_ble_eq_true rfl) dX1_serve_11 ⟨Nat.zero_le _, Nat.zero_le _⟩) hP hA [1] rfl rfl (fun H locs hP => ?_)
  have hP : PD (dC, dI) A s.heap [(q0, .inr (1, [.ref q1, .ref q2, .ref q3, .ref q4, .int lefts_, .int clogs, .int number, .int apart])), (q1, .inl (cc 0, 1024, .inl w1)), (q2, .inl (cc 0, 10, .inl mates)), (q3, .inl (cc 0, 10, .inl sizes)), (q5, .inr (6, [.ref q6, .ref q7, .int o1_number, .int o1_stocking])), (q6, .inl (cc 0, 5, .inl o1_lefts)), (q7, .inl (cc 0, 5, .inl o1_rights))] H locs := hP
  refine lv_aload_n hx hb dX1_serve_14 rfl (lv_at hl 0 rfl) ?_
  refine g_get hC hP fg_X1_9 0 rfl rfl dX1_serve_15 ?_
  refine lv_iconst (v := 0) hx hb dX1_serve_18 (by decide) ?_
  refine lv_iconst (v := 1) hx hb dX1_serve_19 (by decide) ?_
  obtain ⟨w2, hu, h⟩ := bnd_h h
  refine kc_v (kN hC (c_X9_put l dC dI cc q1 1024 w1 0 1 H.size w2 hu) cn_X1_50 kw320 rfl rfl ⟨(Nat.le_of_ble_eq_true rfl), (Nat.le_of_ble_eq_true rfl)⟩ hP [1] rfl rfl (As := [.ref q1, .int 0, .int 1]) (rest := []) rfl rfl hl.1 (Nat.le_of_ble_eq_true rfl) dX1_serve_20 ⟨Nat.zero_le _, Nat.zero_le _⟩) hP hA [1] rfl rfl (fun H locs hP => ?_)
  have hP : PD (dC, dI) A s.heap [(q0, .inr (1, [.ref q1, .ref q2, .ref q3, .ref q4, .int lefts_, .int clogs, .int number, .int apart])), (q1, .inl (cc 0, 1024, .inl w2)), (q2, .inl (cc 0, 10, .inl mates)), (q3, .inl (cc 0, 10, .inl sizes)), (q5, .inr (6, [.ref q6, .ref q7, .int o1_number, .int o1_stocking])), (q6, .inl (cc 0, 5, .inl o1_lefts)), (q7, .inl (cc 0, 5, .inl o1_rights))] H locs := hP
  refine lv_iconst (v := 0) hx hb dX1_serve_23 (by decide) ?_
  refine lv_istore_n (lv' := [(2, .int 0), (0, .ref q0), (1, .ref q5)]) hx hb dX1_serve_24 rfl hl (by decide) rfl (fun ls hl => ?_)
  obtain ⟨⟨j3x, w4x⟩, hlp, h⟩ := bnd_h h
  have L1 : ∀ (n : Nat) (j3 : Int32) (w4 : (Nat → Int32)) (j3x : Int32) (w4x : (Nat → Int32)), lp (u2 (b_X1_serve_1 clogs lefts_ mates o1_lefts o1_number o1_rights o1_stocking sizes)) n (j3, w4) = some (j3x, w4x) → ∀ (H : Heap) (locs : List Loc) (ls : Array Slot), PD (dC, dI) A s.heap [(q0, .inr (1, [.ref q1, .ref q2, .ref q3, .ref q4, .int lefts_, .int clogs, .int number, .int apart])), (q1, .inl (cc 0, 1024, .inl w4)), (q2, .inl (cc 0, 10, .inl mates)), (q3, .inl (cc 0, 10, .inl sizes)), (q5, .inr (6, [.ref q6, .ref q7, .int o1_number, .int o1_stocking])), (q6, .inl (cc 0, 5, .inl o1_lefts)), (q7, .inl (cc 0, 5, .inl o1_rights))] H locs → lv_has ls 5 [(0, .ref q0), (1, .ref q5), (2, .int j3)] → (∀ (H : Heap) (locs : List Loc) (ls : Array Slot), PD (dC, dI) A s.heap [(q0, .inr (1, [.ref q1, .ref q2, .ref q3, .ref q4, .int lefts_, .int clogs, .int number, .int apart])), (q1, .inl (cc 0, 1024, .inl w4x)), (q2, .inl (cc 0, 10, .inl mates)), (q3, .inl (cc 0, 10, .inl sizes)), (q5, .inr (6, [.ref q6, .ref q7, .int o1_number, .int o1_stocking])), (q6, .inl (cc 0, 5, .inl o1_lefts)), (q7, .inl (cc 0, 5, .inl o1_rights))] H locs → lv_has ls 5 [(0, .ref q0), (1, .ref q5), (2, .int j3x)] → W p l e ({ frames := 3, cells := 0, slots := 0, locals := 68 } : Room) s m ([.ref q0, .ref q5] : List Value).toArray below meth c H locs 0 0 Z (F0 m 105 ls [])) → W p l e ({ frames := 3, cells := 0, slots := 0, locals := 68 } : Room) s m ([.ref q0, .ref q5] : List Value).toArray below meth c H locs 0 0 Z (F0 m 25 ls []) := by
    intro n
    induction n with
    | zero => intro j3 w4 j3x w4x h; exact (lp_0 h).elim
    | succ n ih =>
      intro j3 w4 j3x w4x h H locs ls hP hl KK
      obtain ⟨y, h, hz⟩ := lp_h h
      refine lv_iload_n hx hb dX1_serve_25 rfl (lv_at hl 2 rfl) ?_
      refine lv_aload_n hx hb dX1_serve_26 rfl (lv_at hl 1 rfl) ?_
      refine g_get hC hP fg_X1_100 4 rfl rfl dX1_serve_27 ?_
      refine lv_icmp_ge (tgt := 105) hx hb dX1_serve_30 (by decide) (fun c5 => ?_) (fun c5 => ?_)
      · have h := if_t c5 h
        cases lp_e h hz
        exact KK H locs ls hP (lv_sub hl [0, 1, 2] rfl)
      · have h := if_f c5 h
        refine lv_iconst (v := 0) hx hb dX1_serve_33 (by decide) ?_
        refine lv_istore_n (lv' := [(3, .int 0), (0, .ref q0), (1, .ref q5), (2, .int j3)]) hx hb dX1_serve_34 rfl hl (by decide) rfl (fun ls hl => ?_)
        refine lv_iconst (v := 0) hx hb dX1_serve_35 (by decide) ?_
        refine lv_istore (lv' := [(4, .int 0), (3, .int 0), (0, .ref q0), (1, .ref q5), (2, .int j3)]) hx hb dX1_serve_36 hl (by decide) rfl (fun ls hl => ?_)
        obtain ⟨⟨j6x, j7x⟩, hlp, h⟩ := bnd_h h
        have L2 : ∀ (n : Nat) (j6 : Int32) (j7 : Int32) (j6x : Int32) (j7x : Int32), lp (u2 (b_X1_serve_2 clogs j3 lefts_ o1_lefts o1_rights o1_stocking sizes)) n (j6, j7) = some (j6x, j7x) → ∀ (H : Heap) (locs : List Loc) (ls : Array Slot), PD (dC, dI) A s.heap [(q0, .inr (1, [.ref q1, .ref q2, .ref q3, .ref q4, .int lefts_, .int clogs, .int number, .int apart])), (q1, .inl (cc 0, 1024, .inl w4)), (q2, .inl (cc 0, 10, .inl mates)), (q3, .inl (cc 0, 10, .inl sizes)), (q5, .inr (6, [.ref q6, .ref q7, .int o1_number, .int o1_stocking])), (q6, .inl (cc 0, 5, .inl o1_lefts)), (q7, .inl (cc 0, 5, .inl o1_rights))] H locs → lv_has ls 5 [(0, .ref q0), (1, .ref q5), (2, .int j3), (3, .int j6), (4, .int j7)] → (∀ (H : Heap) (locs : List Loc) (ls : Array Slot), PD (dC, dI) A s.heap [(q0, .inr (1, [.ref q1, .ref q2, .ref q3, .ref q4, .int lefts_, .int clogs, .int number, .int apart])), (q1, .inl (cc 0, 1024, .inl w4)), (q2, .inl (cc 0, 10, .inl mates)), (q3, .inl (cc 0, 10, .inl sizes)), (q5, .inr (6, [.ref q6, .ref q7, .int o1_number, .int o1_stocking])), (q6, .inl (cc 0, 5, .inl o1_lefts)), (q7, .inl (cc 0, 5, .inl o1_rights))] H locs → lv_has ls 5 [(0, .ref q0), (1, .ref q5), (2, .int j3), (3, .int j6x), (4, .int j7x)] → W p l e ({ frames := 3, cells := 0, slots := 0, locals := 68 } : Room) s m ([.ref q0, .ref q5] : List Value).toArray below meth c H locs 0 0 Z (F0 m 94 ls [])) → W p l e ({ frames := 3, cells := 0, slots := 0, locals := 68 } : Room) s m ([.ref q0, .ref q5] : List Value).toArray below meth c H locs 0 0 Z (F0 m 38 ls []) := by
          intro n
          induction n with
          | zero => intro j6 j7 j6x j7x h; exact (lp_0 h).elim
          | succ n ih =>
            intro j6 j7 j6x j7x h H locs ls hP hl KK
            obtain ⟨y, h, hz⟩ := lp_h h
            refine lv_iload hx hb dX1_serve_38 (lv_at hl 4 rfl) ?_
            refine lv_aload_n hx hb dX1_serve_40 rfl (lv_at hl 0 rfl) ?_
            refine g_get hC hP fg_X1_39 0 rfl rfl dX1_serve_41 ?_
            refine lv_icmp_ge (tgt := 94) hx hb dX1_serve_44 (by decide) (fun c8 => ?_) (fun c8 => ?_)
            · have h := if_t c8 h
              cases lp_e h hz
              exact KK H locs ls hP (lv_sub hl [0, 1, 2, 3, 4] rfl)
            · have h := if_f c8 h
              refine lv_aload_n hx hb dX1_serve_47 rfl (lv_at hl 1 rfl) ?_
              refine lv_iload_n hx hb dX1_serve_48 rfl (lv_at hl 2 rfl) ?_
              refine lv_aload_n hx hb dX1_serve_49 rfl (lv_at hl 0 rfl) ?_
              refine g_get hC hP fg_X1_44 0 rfl rfl dX1_serve_50 ?_
              refine lv_iload hx hb dX1_serve_53 (lv_at hl 4 rfl) ?_
              obtain ⟨r9, hu, h⟩ := bnd_h h
              refine kc_z (kN hC (c_X9_hasBit l dC dI cc lefts_ j7 H.size r9 hu) cn_X1_75 kw586 rfl rfl ⟨(Nat.le_of_ble_eq_true rfl), (Nat.le_of_ble_eq_true rfl)⟩ hP [] rfl rfl (As := [.int lefts_, .int j7]) (rest := [.int j3, .ref q5]) rfl rfl hl.1 (Nat.le_of_ble_eq_true rfl) dX1_serve_55 ⟨Nat.zero_le _, Nat.zero_le _⟩) hP hA [] rfl rfl (fun hz_r9 H locs hP => ?_)
              have hP : PD (dC, dI) A s.heap [(q0, .inr (1, [.ref q1, .ref q2, .ref q3, .ref q4, .int lefts_, .int clogs, .int number, .int apart])), (q1, .inl (cc 0, 1024, .inl w4)), (q2, .inl (cc 0, 10, .inl mates)), (q3, .inl (cc 0, 10, .inl sizes)), (q5, .inr (6, [.ref q6, .ref q7, .int o1_number, .int o1_stocking])), (q6, .inl (cc 0, 5, .inl o1_lefts)), (q7, .inl (cc 0, 5, .inl o1_rights))] H locs := hP
              refine lv_if_eq (tgt := 65) hx hb dX1_serve_58 (by decide) (fun c10 => ?_) (fun c10 => ?_)
              · have h := if_t c10 h
                refine lv_iconst (v := 1) hx hb dX1_serve_65 (by decide) ?_
                refine lv_aload_n hx hb dX1_serve_66 rfl (lv_at hl 0 rfl) ?_
                refine g_get hC hP fg_X1_18 0 rfl rfl dX1_serve_67 ?_
                refine lv_iload hx hb dX1_serve_70 (lv_at hl 4 rfl) ?_
                obtain ⟨r11, hu, h⟩ := bnd_h h
                refine kc_i (kN hC (c_X9_at l dC dI cc q3 10 sizes j7 H.size r11 hu) cn_X1_86 kw332 rfl rfl ⟨(Nat.le_of_ble_eq_true rfl), (Nat.le_of_ble_eq_true rfl)⟩ hP [3] rfl rfl (As := [.ref q3, .int j7]) (rest := [.int 1, .int j3, .ref q5]) rfl rfl hl.1 (Nat.le_of_ble_eq_true rfl) dX1_serve_72 ⟨Nat.zero_le _, Nat.zero_le _⟩) hP hA [3] rfl rfl (fun H locs hP => ?_)
                have hP : PD (dC, dI) A s.heap [(q0, .inr (1, [.ref q1, .ref q2, .ref q3, .ref q4, .int lefts_, .int clogs, .int number, .int apart])), (q1, .inl (cc 0, 1024, .inl w4)), (q2, .inl (cc 0, 10, .inl mates)), (q3, .inl (cc 0, 10, .inl sizes)), (q5, .inr (6, [.ref q6, .ref q7, .int o1_number, .int o1_stocking])), (q6, .inl (cc 0, 5, .inl o1_lefts)), (q7, .inl (cc 0, 5, .inl o1_rights))] H locs := hP
                obtain ⟨r12, hu, h⟩ := bnd_h h
                refine kc_z (kV hC (c_X6_suits l dC dI cc q5 q6 q7 o1_number o1_stocking o1_lefts o1_rights j3 1 r11 H.size r12 hu) cv_X1_103 kw634 rfl rfl ⟨(Nat.le_of_ble_eq_true rfl), (Nat.le_of_ble_eq_true rfl)⟩ hP [4, 5, 6] rfl rfl rfl (q0 := 4) rfl (As := [.int j3, .int 1, .int r11]) (rest := []) rfl rfl hl.1 (Nat.le_of_ble_eq_true rfl) dX1_serve_75 ⟨Nat.zero_le _, Nat.zero_le _⟩) hP hA [4, 5, 6] rfl rfl (fun hz_r12 H locs hP => ?_)
                have hP : PD (dC, dI) A s.heap [(q0, .inr (1, [.ref q1, .ref q2, .ref q3, .ref q4, .int lefts_, .int clogs, .int number, .int apart])), (q1, .inl (cc 0, 1024, .inl w4)), (q2, .inl (cc 0, 10, .inl mates)), (q3, .inl (cc 0, 10, .inl sizes)), (q5, .inr (6, [.ref q6, .ref q7, .int o1_number, .int o1_stocking])), (q6, .inl (cc 0, 5, .inl o1_lefts)), (q7, .inl (cc 0, 5, .inl o1_rights))] H locs := hP
                refine lv_if_eq (tgt := 88) hx hb dX1_serve_78 (by decide) (fun c13 => ?_) (fun c13 => ?_)
                · have h := if_t c13 h
                  refine lv_iinc (v := (j7 + 1)) (lv' := [(4, .int (j7 + 1)), (0, .ref q0), (1, .ref q5), (2, .int j3), (3, .int j6)]) hx hb dX1_serve_88 hl (k := 4) rfl rfl (by decide) rfl (fun ls hl => ?_)
                  refine lv_goto (tgt := 38) hx hb dX1_serve_91 (by decide) ?_
                  exact ih _ _ _ _ (lp_n h hz) H locs ls hP (lv_sub hl [1, 2, 3, 4, 0] rfl) KK
                · have h := if_f c13 h
                  refine lv_iload_n hx hb dX1_serve_81 rfl (lv_at hl 3 rfl) ?_
                  refine lv_iconst (v := 1) hx hb dX1_serve_82 (by decide) ?_
                  refine lv_iload hx hb dX1_serve_83 (lv_at hl 4 rfl) ?_
                  refine lv_ishl hx hb dX1_serve_85 ?_
                  refine lv_ior hx hb dX1_serve_86 ?_
                  refine lv_istore_n (lv' := [(3, .int (j6 ||| (1 <<< (j7 &&& 31)))), (0, .ref q0), (1, .ref q5), (2, .int j3), (4, .int j7)]) hx hb dX1_serve_87 rfl hl (by decide) rfl (fun ls hl => ?_)
                  refine lv_iinc (v := (j7 + 1)) (lv' := [(4, .int (j7 + 1)), (3, .int (j6 ||| (1 <<< (j7 &&& 31)))), (0, .ref q0), (1, .ref q5), (2, .int j3)]) hx hb dX1_serve_88 hl (k := 4) rfl rfl (by decide) rfl (fun ls hl => ?_)
                  refine lv_goto (tgt := 38) hx hb dX1_serve_91 (by decide) ?_
                  exact ih _ _ _ _ (lp_n h hz) H locs ls hP (lv_sub hl [2, 3, 4, 1, 0] rfl) KK
              · have h := if_f c10 h
                refine lv_iconst (v := 0) hx hb dX1_serve_61 (by decide) ?_
                refine lv_goto (tgt := 66) hx hb dX1_serve_62 (by decide) ?_
                refine lv_aload_n hx hb dX1_serve_66 rfl (lv_at hl 0 rfl) ?_
                refine g_get hC hP fg_X1_18 0 rfl rfl dX1_serve_67 ?_
                refine lv_iload hx hb dX1_serve_70 (lv_at hl 4 rfl) ?_
                obtain ⟨r14, hu, h⟩ := bnd_h h
                refine kc_i (kN hC (c_X9_at l dC dI cc q3 10 sizes j7 H.size r14 hu) cn_X1_86 kw332 rfl rfl ⟨(Nat.le_of_ble_eq_true rfl), (Nat.le_of_ble_eq_true rfl)⟩ hP [3] rfl rfl (As := [.ref q3, .int j7]) (rest := [.int 0, .int j3, .ref q5]) rfl rfl hl.1 (Nat.le_of_ble_eq_true rfl) dX1_serve_72 ⟨Nat.zero_le _, Nat.zero_le _⟩) hP hA [3] rfl rfl (fun H locs hP => ?_)
                have hP : PD (dC, dI) A s.heap [(q0, .inr (1, [.ref q1, .ref q2, .ref q3, .ref q4, .int lefts_, .int clogs, .int number, .int apart])), (q1, .inl (cc 0, 1024, .inl w4)), (q2, .inl (cc 0, 10, .inl mates)), (q3, .inl (cc 0, 10, .inl sizes)), (q5, .inr (6, [.ref q6, .ref q7, .int o1_number, .int o1_stocking])), (q6, .inl (cc 0, 5, .inl o1_lefts)), (q7, .inl (cc 0, 5, .inl o1_rights))] H locs := hP
                obtain ⟨r15, hu, h⟩ := bnd_h h
                refine kc_z (kV hC (c_X6_suits l dC dI cc q5 q6 q7 o1_number o1_stocking o1_lefts o1_rights j3 0 r14 H.size r15 hu) cv_X1_103 kw634 rfl rfl ⟨(Nat.le_of_ble_eq_true rfl), (Nat.le_of_ble_eq_true rfl)⟩ hP [4, 5, 6] rfl rfl rfl (q0 := 4) rfl (As := [.int j3, .int 0, .int r14]) (rest := []) rfl rfl hl.1 (Nat.le_of_ble_eq_true rfl) dX1_serve_75 ⟨Nat.zero_le _, Nat.zero_le _⟩) hP hA [4, 5, 6] rfl rfl (fun hz_r15 H locs hP => ?_)
                have hP : PD (dC, dI) A s.heap [(q0, .inr (1, [.ref q1, .ref q2, .ref q3, .ref q4, .int lefts_, .int clogs, .int number, .int apart])), (q1, .inl (cc 0, 1024, .inl w4)), (q2, .inl (cc 0, 10, .inl mates)), (q3, .inl (cc 0, 10, .inl sizes)), (q5, .inr (6, [.ref q6, .ref q7, .int o1_number, .int o1_stocking])), (q6, .inl (cc 0, 5, .inl o1_lefts)), (q7, .inl (cc 0, 5, .inl o1_rights))] H locs := hP
                refine lv_if_eq (tgt := 88) hx hb dX1_serve_78 (by decide) (fun c16 => ?_) (fun c16 => ?_)
                · have h := if_t c16 h
                  refine lv_iinc (v := (j7 + 1)) (lv' := [(4, .int (j7 + 1)), (0, .ref q0), (1, .ref q5), (2, .int j3), (3, .int j6)]) hx hb dX1_serve_88 hl (k := 4) rfl rfl (by decide) rfl (fun ls hl => ?_)
                  refine lv_goto (tgt := 38) hx hb dX1_serve_91 (by decide) ?_
                  exact ih _ _ _ _ (lp_n h hz) H locs ls hP (lv_sub hl [1, 2, 3, 4, 0] rfl) KK
                · have h := if_f c16 h
                  refine lv_iload_n hx hb dX1_serve_81 rfl (lv_at hl 3 rfl) ?_
                  refine lv_iconst (v := 1) hx hb dX1_serve_82 (by decide) ?_
                  refine lv_iload hx hb dX1_serve_83 (lv_at hl 4 rfl) ?_
                  refine lv_ishl hx hb dX1_serve_85 ?_
                  refine lv_ior hx hb dX1_serve_86 ?_
                  refine lv_istore_n (lv' := [(3, .int (j6 ||| (1 <<< (j7 &&& 31)))), (0, .ref q0), (1, .ref q5), (2, .int j3), (4, .int j7)]) hx hb dX1_serve_87 rfl hl (by decide) rfl (fun ls hl => ?_)
                  refine lv_iinc (v := (j7 + 1)) (lv' := [(4, .int (j7 + 1)), (3, .int (j6 ||| (1 <<< (j7 &&& 31)))), (0, .ref q0), (1, .ref q5), (2, .int j3)]) hx hb dX1_serve_88 hl (k := 4) rfl rfl (by decide) rfl (fun ls hl => ?_)
                  refine lv_goto (tgt := 38) hx hb dX1_serve_91 (by decide) ?_
                  exact ih _ _ _ _ (lp_n h hz) H locs ls hP (lv_sub hl [2, 3, 4, 1, 0] rfl) KK
        refine L2 FU _ _ j6x j7x hlp H locs ls hP (lv_sub hl [2, 3, 4, 1, 0] rfl) (fun H locs ls hP hl => ?_)
        refine lv_aload_n hx hb dX1_serve_94 rfl (lv_at hl 0 rfl) ?_
        refine lv_iload_n hx hb dX1_serve_95 rfl (lv_at hl 3 rfl) ?_
        obtain ⟨w17, hu, h⟩ := bnd_h h
        refine kc_v (kV hC (c_X1_giveOut l dC dI cc q0 q1 q2 q3 q4 lefts_ clogs number apart w4 mates j6x H.size w17 hu) cv_X1_107 kw640 rfl rfl ⟨(Nat.le_of_ble_eq_true rfl), (Nat.le_of_ble_eq_true rfl)⟩ hP [0, 1, 2] rfl rfl rfl (q0 := 0) rfl (As := [.int j6x]) (rest := []) rfl rfl hl.1 (Nat.le_of_ble_eq_true rfl) dX1_serve_96 ⟨Nat.zero_le _, Nat.zero_le _⟩) hP hA [0, 1, 2] rfl rfl (fun H locs hP => ?_)
        have hP : PD (dC, dI) A s.heap [(q0, .inr (1, [.ref q1, .ref q2, .ref q3, .ref q4, .int lefts_, .int clogs, .int number, .int apart])), (q1, .inl (cc 0, 1024, .inl w17)), (q2, .inl (cc 0, 10, .inl mates)), (q3, .inl (cc 0, 10, .inl sizes)), (q5, .inr (6, [.ref q6, .ref q7, .int o1_number, .int o1_stocking])), (q6, .inl (cc 0, 5, .inl o1_lefts)), (q7, .inl (cc 0, 5, .inl o1_rights))] H locs := hP
        refine lv_iinc (v := (j3 + 1)) (lv' := [(2, .int (j3 + 1)), (0, .ref q0), (1, .ref q5), (3, .int j6x), (4, .int j7x)]) hx hb dX1_serve_99 hl (k := 2) rfl rfl (by decide) rfl (fun ls hl => ?_)
        refine lv_goto (tgt := 25) hx hb dX1_serve_102 (by decide) ?_
        exact ih _ _ _ _ (lp_n h hz) H locs ls hP (lv_sub hl [1, 2, 0] rfl) KK
  refine L1 FU _ _ j3x w4x hlp H locs ls hP (lv_sub hl [1, 2, 0] rfl) (fun H locs ls hP hl => ?_)
  refine lv_iconst (v := 0) hx hb dX1_serve_105 (by decide) ?_
  refine lv_istore_n (lv' := [(2, .int 0), (0, .ref q0), (1, .ref q5)]) hx hb dX1_serve_106 rfl hl (by decide) rfl (fun ls hl => ?_)
  refine lv_iconst (v := 0) hx hb dX1_serve_107 (by decide) ?_
  refine lv_istore_n (lv' := [(3, .int 0), (2, .int 0), (0, .ref q0), (1, .ref q5)]) hx hb dX1_serve_108 rfl hl (by decide) rfl (fun ls hl => ?_)
  obtain ⟨⟨j18x, j19x⟩, hlp, h⟩ := bnd_h h
  have L3 : ∀ (n : Nat) (j18 : Int32) (j19 : Int32) (j18x : Int32) (j19x : Int32), lp (u2 (b_X1_serve_3 clogs w4x)) n (j18, j19) = some (j18x, j19x) → ∀ (H : Heap) (locs : List Loc) (ls : Array Slot), PD (dC, dI) A s.heap [(q0, .inr (1, [.ref q1, .ref q2, .ref q3, .ref q4, .int lefts_, .int clogs, .int number, .int apart])), (q1, .inl (cc 0, 1024, .inl w4x)), (q2, .inl (cc 0, 10, .inl mates)), (q3, .inl (cc 0, 10, .inl sizes)), (q5, .inr (6, [.ref q6, .ref q7, .int o1_number, .int o1_stocking])), (q6, .inl (cc 0, 5, .inl o1_lefts)), (q7, .inl (cc 0, 5, .inl o1_rights))] H locs → lv_has ls 5 [(0, .ref q0), (2, .int j18), (3, .int j19)] → (∀ (H : Heap) (locs : List Loc) (ls : Array Slot), PD (dC, dI) A s.heap [(q0, .inr (1, [.ref q1, .ref q2, .ref q3, .ref q4, .int lefts_, .int clogs, .int number, .int apart])), (q1, .inl (cc 0, 1024, .inl w4x)), (q2, .inl (cc 0, 10, .inl mates)), (q3, .inl (cc 0, 10, .inl sizes)), (q5, .inr (6, [.ref q6, .ref q7, .int o1_number, .int o1_stocking])), (q6, .inl (cc 0, 5, .inl o1_lefts)), (q7, .inl (cc 0, 5, .inl o1_rights))] H locs → lv_has ls 5 [(0, .ref q0), (2, .int j18x), (3, .int j19x)] → W p l e ({ frames := 3, cells := 0, slots := 0, locals := 68 } : Room) s m ([.ref q0, .ref q5] : List Value).toArray below meth c H locs 0 0 Z (F0 m 147 ls [])) → W p l e ({ frames := 3, cells := 0, slots := 0, locals := 68 } : Room) s m ([.ref q0, .ref q5] : List Value).toArray below meth c H locs 0 0 Z (F0 m 109 ls []) := by
    intro n
    induction n with
    | zero => intro j18 j19 j18x j19x h; exact (lp_0 h).elim
    | succ n ih =>
      intro j18 j19 j18x j19x h H locs ls hP hl KK
      obtain ⟨y, h, hz⟩ := lp_h h
      refine lv_iload_n hx hb dX1_serve_109 rfl (lv_at hl 2 rfl) ?_
      refine lv_iconst (v := 1) hx hb dX1_serve_110 (by decide) ?_
      refine lv_aload_n hx hb dX1_serve_111 rfl (lv_at hl 0 rfl) ?_
      refine g_get hC hP fg_X1_39 0 rfl rfl dX1_serve_112 ?_
      refine lv_ishl hx hb dX1_serve_115 ?_
      refine lv_icmp_ge (tgt := 147) hx hb dX1_serve_116 (by decide) (fun c20 => ?_) (fun c20 => ?_)
      · have h := if_t c20 h
        cases lp_e h hz
        exact KK H locs ls hP (lv_sub hl [0, 1, 2] rfl)
      · have h := if_f c20 h
        refine lv_aload_n hx hb dX1_serve_119 rfl (lv_at hl 0 rfl) ?_
        refine g_get hC hP fg_X1_9 0 rfl rfl dX1_serve_120 ?_
        refine lv_iload_n hx hb dX1_serve_123 rfl (lv_at hl 2 rfl) ?_
        obtain ⟨r21, hu, h⟩ := bnd_h h
        refine kc_i (kN hC (c_X9_at l dC dI cc q1 1024 w4x j19 H.size r21 hu) cn_X1_86 kw332 rfl rfl ⟨(Nat.le_of_ble_eq_true rfl), (Nat.le_of_ble_eq_true rfl)⟩ hP [1] rfl rfl (As := [.ref q1, .int j19]) (rest := []) rfl rfl hl.1 (Nat.le_of_ble_eq_true rfl) dX1_serve_124 ⟨Nat.zero_le _, Nat.zero_le _⟩) hP hA [1] rfl rfl (fun H locs hP => ?_)
        have hP : PD (dC, dI) A s.heap [(q0, .inr (1, [.ref q1, .ref q2, .ref q3, .ref q4, .int lefts_, .int clogs, .int number, .int apart])), (q1, .inl (cc 0, 1024, .inl w4x)), (q2, .inl (cc 0, 10, .inl mates)), (q3, .inl (cc 0, 10, .inl sizes)), (q5, .inr (6, [.ref q6, .ref q7, .int o1_number, .int o1_stocking])), (q6, .inl (cc 0, 5, .inl o1_lefts)), (q7, .inl (cc 0, 5, .inl o1_rights))] H locs := hP
        refine lv_if_eq (tgt := 141) hx hb dX1_serve_127 (by decide) (fun c22 => ?_) (fun c22 => ?_)
        · have h := if_t c22 h
          refine lv_iinc (v := (j19 + 1)) (lv' := [(3, .int (j19 + 1)), (0, .ref q0), (2, .int j18)]) hx hb dX1_serve_141 hl (k := 2) rfl rfl (by decide) rfl (fun ls hl => ?_)
          refine lv_goto (tgt := 109) hx hb dX1_serve_144 (by decide) ?_
          exact ih _ _ _ _ (lp_n h hz) H locs ls hP (lv_sub hl [1, 2, 0] rfl) KK
        · have h := if_f c22 h
          refine lv_iload_n hx hb dX1_serve_130 rfl (lv_at hl 1 rfl) ?_
          refine lv_iload_n hx hb dX1_serve_131 rfl (lv_at hl 2 rfl) ?_
          obtain ⟨r23, hu, h⟩ := bnd_h h
          refine kc_i (kS hC (c_J6_bitCount_0f7a4 l dC dI cc j19 H.size r23 hu) cs_X1_111 kw619 rfl rfl ⟨(Nat.le_of_ble_eq_true rfl), (Nat.le_of_ble_eq_true rfl)⟩ hP [] rfl rfl (As := [.int j19]) (rest := [.int j18]) rfl rfl hl.1 (Nat.le_of_ble_eq_true rfl) dX1_serve_132 ⟨Nat.zero_le _, Nat.zero_le _⟩) hP hA [] rfl rfl (fun H locs hP => ?_)
          have hP : PD (dC, dI) A s.heap [(q0, .inr (1, [.ref q1, .ref q2, .ref q3, .ref q4, .int lefts_, .int clogs, .int number, .int apart])), (q1, .inl (cc 0, 1024, .inl w4x)), (q2, .inl (cc 0, 10, .inl mates)), (q3, .inl (cc 0, 10, .inl sizes)), (q5, .inr (6, [.ref q6, .ref q7, .int o1_number, .int o1_stocking])), (q6, .inl (cc 0, 5, .inl o1_lefts)), (q7, .inl (cc 0, 5, .inl o1_rights))] H locs := hP
          refine lv_iconst (v := 2) hx hb dX1_serve_135 (by decide) ?_
          refine lv_idiv hx hb dX1_serve_136 (by decide) ?_
          refine g_max hC hl.1 mh_X1_36 (Nat.le_of_ble_eq_true rfl) (Nat.le_of_ble_eq_true rfl) (Nat.zero_le _) (Nat.zero_le _) dX1_serve_137 ?_
          refine lv_topi (fun v24 ev => ?_)
          have h := nm_h ev h
          refine lv_istore_n (lv' := [(2, .int v24), (0, .ref q0), (3, .int j19)]) hx hb dX1_serve_140 rfl hl (by decide) rfl (fun ls hl => ?_)
          refine lv_iinc (v := (j19 + 1)) (lv' := [(3, .int (j19 + 1)), (2, .int v24), (0, .ref q0)]) hx hb dX1_serve_141 hl (k := 2) rfl rfl (by decide) rfl (fun ls hl => ?_)
          refine lv_goto (tgt := 109) hx hb dX1_serve_144 (by decide) ?_
          exact ih _ _ _ _ (lp_n h hz) H locs ls hP (lv_sub hl [2, 1, 0] rfl) KK
  refine L3 FU _ _ j18x j19x hlp H locs ls hP (lv_sub hl [2, 1, 0] rfl) (fun H locs ls hP hl => ?_)
  refine lv_iload_n hx hb dX1_serve_147 rfl (lv_at hl 1 rfl) ?_
  rw [eZ]
  exact ret_i hC hr hlk hP dX1_serve_148 w4x (Prod.mk.inj (Option.some.inj h)) rfl
