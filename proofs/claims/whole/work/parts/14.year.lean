set_option maxHeartbeats 8000000 in
set_option maxRecDepth 100000 in
theorem c_X8_drawOf (l : Launch) (dC : Nat → ClassId) (dI : Nat → Nat → Nat) (cc : Nat → ClassId) (x1 : Int32) (x2 : Int32) (sz : Nat) (ret : Int32) (hu : f_X8_drawOf x1 x2 = some ret) : Met l yX8_drawOf (mw yX8_drawOf cX8_drawOf 4 (some .int)) ({ frames := 0, cells := 0, slots := 0, locals := 0 } : Room) (va_Pc [.int x1, .int x2] (mP (dC, dI) (ts cc) sz [])) ((fun A => va_Qi (fun (r : Int32) (w : Unit) => r = ret ∧ w = ()) (fun (w : Unit) t => va_P (dC, dI) classes [] t.heap) A) (va_A [] sz)) 0 0 (va_A [] sz) := by
  refine met_go (Qc := fun A => va_Qi (fun (r : Int32) (w : Unit) => r = ret ∧ w = ()) (fun (w : Unit) t => va_P (dC, dI) classes [] t.heap) A) (by decide) (Nat.le_of_ble_eq_true rfl) ?_
  intro p e s m below meth c A ls H locs hC hr hlk hin hA hP hl _
  have hC : CX p m c cX8_drawOf 4 s ([.int x1, .int x2] : List Value).toArray RX8 (dC, dI) (ts cc) := hC
  have hx := hC.1.1
  have hb := hC.1.2
  have h := hu
  have hu0 := hu
  unfold f_X8_drawOf at h
  have hl : lv_has ls 4 [(0, .int x1), (1, .int x2)] := hl
  refine lv_ldc2 (v := 7919) hx hb hC.2.2.1 (hC.2.2.2.1 _ kw742) dX8_drawOf_0 ?_
  refine lv_iload_n hx hb dX8_drawOf_3 rfl (lv_at hl 0 rfl) ?_
  refine lv_i2l hx hb dX8_drawOf_4 rfl ?_
  refine lv_lmul hx hb dX8_drawOf_5 ?_
  refine lv_ldc2 (v := 6151) hx hb hC.2.2.1 (hC.2.2.2.1 _ kw743) dX8_drawOf_6 ?_
  refine lv_iload_n hx hb dX8_drawOf_9 rfl (lv_at hl 1 rfl) ?_
  refine lv_i2l hx hb dX8_drawOf_10 rfl ?_
  refine lv_lmul hx hb dX8_drawOf_11 ?_
  refine lv_ladd hx hb dX8_drawOf_12 ?_
  refine lv_lconst (v := 1) hx hb dX8_drawOf_13 (by decide) ?_
  refine lv_ladd hx hb dX8_drawOf_14 ?_
  refine lv_topl (fun v1 ev => ?_)
  have h := nm_h ev h
  refine lv_lstore_n (lv' := [(2, .long v1), (0, .int x1), (1, .int x2)]) hx hb dX8_drawOf_15 rfl hl (by decide) rfl (fun ls hl => ?_)
  refine lv_lload_n hx hb dX8_drawOf_16 rfl (lv_at hl 0 rfl) ?_
  refine lv_lload_n hx hb dX8_drawOf_17 rfl (lv_at hl 0 rfl) ?_
  refine lv_lmul hx hb dX8_drawOf_18 ?_
  refine lv_ldc2 (v := 65521) hx hb hC.2.2.1 (hC.2.2.2.1 _ kw744) dX8_drawOf_19 ?_
  refine lv_lrem hx hb dX8_drawOf_22 (by decide) ?_
  refine lv_ldc2 (v := 4) hx hb hC.2.2.1 (hC.2.2.2.1 _ kw745) dX8_drawOf_23 ?_
  refine lv_ldiv hx hb dX8_drawOf_26 (by decide) ?_
  refine lv_l2i hx hb dX8_drawOf_27 rfl ?_
  exact ret_i hC hr hlk hP dX8_drawOf_28 () (⟨Option.some.inj h, rfl⟩) rfl
set_option maxHeartbeats 8000000 in
set_option maxRecDepth 100000 in
theorem c_X8_sendFirstPair (l : Launch) (dC : Nat → ClassId) (dI : Nat → Nat → Nat) (cc : Nat → ClassId) (q0 q1 q2 : Nat) (wentAsPairs : Int32) (shelf_clogs : Int32) (shelf_day : Int32) (shelf_cells : (Nat → Int32)) (sz : Nat) (o_shelf_cells : (Nat → Int32)) (o_shelf_clogs : Int32) (o_wentAsPairs : Int32) (hu : f_X8_sendFirstPair wentAsPairs shelf_clogs shelf_day shelf_cells = some (o_shelf_cells, o_shelf_clogs, o_wentAsPairs)) : Met l yX8_sendFirstPair (mw yX8_sendFirstPair cX8_sendFirstPair 3 none) ({ frames := 4, cells := 0, slots := 0, locals := 92 } : Room) (va_Pc [.ref q0] (mP (dC, dI) (ts cc) sz [(q0, .inr (8, [.ref q1, .int wentAsPairs])), (q1, .inr (4, [.ref q2, .int shelf_clogs, .int shelf_day])), (q2, .inl (cc 0, 50, .inl shelf_cells))])) ((fun A => va_Qv (fun (w : (Nat → Int32) × Int32 × Int32) => w = (o_shelf_cells, o_shelf_clogs, o_wentAsPairs)) (fun (w : (Nat → Int32) × Int32 × Int32) t => va_P (dC, dI) classes [(q0, .inr (8, [.ref q1, .int w.2.2])), (q1, .inr (4, [.ref q2, .int w.2.1, .int shelf_day])), (q2, .inl (cc 0, 50, .inl w.1))] t.heap) A) (va_A [(q0, .inr (8, [.ref q1, .int wentAsPairs])), (q1, .inr (4, [.ref q2, .int shelf_clogs, .int shelf_day])), (q2, .inl (cc 0, 50, .inl shelf_cells))] sz)) 0 0 (va_A [(q0, .inr (8, [.ref q1, .int wentAsPairs])), (q1, .inr (4, [.ref q2, .int shelf_clogs, .int shelf_day])), (q2, .inl (cc 0, 50, .inl shelf_cells))] sz) := by
  refine met_go (Qc := fun A => va_Qv (fun (w : (Nat → Int32) × Int32 × Int32) => w = (o_shelf_cells, o_shelf_clogs, o_wentAsPairs)) (fun (w : (Nat → Int32) × Int32 × Int32) t => va_P (dC, dI) classes [(q0, .inr (8, [.ref q1, .int w.2.2])), (q1, .inr (4, [.ref q2, .int w.2.1, .int shelf_day])), (q2, .inl (cc 0, 50, .inl w.1))] t.heap) A) (by decide) (Nat.le_of_ble_eq_true rfl) ?_
  intro p e s m below meth c A ls H locs hC hr hlk hin hA hP hl _
  have hC : CX p m c cX8_sendFirstPair 3 s ([.ref q0] : List Value).toArray RX8 (dC, dI) (ts cc) := hC
  have hx := hC.1.1
  have hb := hC.1.2
  have h := hu
  have hu0 := hu
  unfold f_X8_sendFirstPair at h
  have hl : lv_has ls 3 [(0, .ref q0)] := hl
  refine W_abs (fun Z eZ => ?_)
  refine lv_iconst (v := 0) hx hb dX8_sendFirstPair_0 (by decide) ?_
  refine lv_istore_n (lv' := [(1, .int 0), (0, .ref q0)]) hx hb dX8_sendFirstPair_1 rfl hl (by decide) rfl (fun ls hl => ?_)
  obtain ⟨z, hlp, hk, hj⟩ := bndE_h h
  have L1 : ∀ (n : Nat) (j1 : Int32) (z : ((Int32) ⊕ ((Nat → Int32) × Int32 × Int32))), lp ((b_X8_sendFirstPair_1 shelf_cells shelf_clogs shelf_day wentAsPairs)) n j1 = some z → ∀ (H : Heap) (locs : List Loc) (ls : Array Slot), PD (dC, dI) A s.heap [(q0, .inr (8, [.ref q1, .int wentAsPairs])), (q1, .inr (4, [.ref q2, .int shelf_clogs, .int shelf_day])), (q2, .inl (cc 0, 50, .inl shelf_cells))] H locs → lv_has ls 3 [(0, .ref q0), (1, .int j1)] → (∀ (j1x : Int32), z = .inl j1x → ∀ (H : Heap) (locs : List Loc) (ls : Array Slot), PD (dC, dI) A s.heap [(q0, .inr (8, [.ref q1, .int wentAsPairs])), (q1, .inr (4, [.ref q2, .int shelf_clogs, .int shelf_day])), (q2, .inl (cc 0, 50, .inl shelf_cells))] H locs → lv_has ls 3 [(0, .ref q0), (1, .int j1x)] → W p l e ({ frames := 4, cells := 0, slots := 0, locals := 92 } : Room) s m ([.ref q0] : List Value).toArray below meth c H locs 0 0 Z (F0 m 77 ls [])) → (∀ q, z = .inr q → q = (o_shelf_cells, o_shelf_clogs, o_wentAsPairs)) → W p l e ({ frames := 4, cells := 0, slots := 0, locals := 92 } : Room) s m ([.ref q0] : List Value).toArray below meth c H locs 0 0 Z (F0 m 2 ls []) := by
    intro n
    induction n with
    | zero => intro j1 z h; exact (lp_0 h).elim
    | succ n ih =>
      intro j1 z h H locs ls hP hl KK KR
      obtain ⟨y, h, hz⟩ := lp_h h
      refine lv_iload_n hx hb dX8_sendFirstPair_2 rfl (lv_at hl 1 rfl) ?_
      refine lv_aload_n hx hb dX8_sendFirstPair_3 rfl (lv_at hl 0 rfl) ?_
      refine g_get hC hP fg_X8_12 0 rfl rfl dX8_sendFirstPair_4 ?_
      refine g_get hC hP fg_X8_26 1 rfl rfl dX8_sendFirstPair_7 ?_
      refine lv_icmp_ge (tgt := 77) hx hb dX8_sendFirstPair_10 (by decide) (fun c2 => ?_) (fun c2 => ?_)
      · have h := if_t c2 h
        exact KK j1 (lp_e h hz).symm H locs ls hP (lv_sub hl [0, 1] rfl)
      · have h := if_f c2 h
        refine lv_iconst (v := 0) hx hb dX8_sendFirstPair_13 (by decide) ?_
        refine lv_istore_n (lv' := [(2, .int 0), (0, .ref q0), (1, .int j1)]) hx hb dX8_sendFirstPair_14 rfl hl (by decide) rfl (fun ls hl => ?_)
        obtain ⟨z, hlp, hk, hj⟩ := bndE_h h
        have L2 : ∀ (n : Nat) (j3 : Int32) (z : ((Int32) ⊕ ((Nat → Int32) × Int32 × Int32))), lp ((b_X8_sendFirstPair_2 j1 shelf_cells shelf_clogs shelf_day wentAsPairs)) n j3 = some z → ∀ (H : Heap) (locs : List Loc) (ls : Array Slot), PD (dC, dI) A s.heap [(q0, .inr (8, [.ref q1, .int wentAsPairs])), (q1, .inr (4, [.ref q2, .int shelf_clogs, .int shelf_day])), (q2, .inl (cc 0, 50, .inl shelf_cells))] H locs → lv_has ls 3 [(0, .ref q0), (1, .int j1), (2, .int j3)] → (∀ (j3x : Int32), z = .inl j3x → ∀ (H : Heap) (locs : List Loc) (ls : Array Slot), PD (dC, dI) A s.heap [(q0, .inr (8, [.ref q1, .int wentAsPairs])), (q1, .inr (4, [.ref q2, .int shelf_clogs, .int shelf_day])), (q2, .inl (cc 0, 50, .inl shelf_cells))] H locs → lv_has ls 3 [(0, .ref q0), (1, .int j1), (2, .int j3x)] → W p l e ({ frames := 4, cells := 0, slots := 0, locals := 92 } : Room) s m ([.ref q0] : List Value).toArray below meth c H locs 0 0 Z (F0 m 71 ls [])) → (∀ q, z = .inr q → q = (o_shelf_cells, o_shelf_clogs, o_wentAsPairs)) → W p l e ({ frames := 4, cells := 0, slots := 0, locals := 92 } : Room) s m ([.ref q0] : List Value).toArray below meth c H locs 0 0 Z (F0 m 15 ls []) := by
          intro n
          induction n with
          | zero => intro j3 z h; exact (lp_0 h).elim
          | succ n ih =>
            intro j3 z h H locs ls hP hl KK KR
            obtain ⟨y, h, hz⟩ := lp_h h
            refine lv_iload_n hx hb dX8_sendFirstPair_15 rfl (lv_at hl 2 rfl) ?_
            refine lv_aload_n hx hb dX8_sendFirstPair_16 rfl (lv_at hl 0 rfl) ?_
            refine g_get hC hP fg_X8_12 0 rfl rfl dX8_sendFirstPair_17 ?_
            refine g_get hC hP fg_X8_26 1 rfl rfl dX8_sendFirstPair_20 ?_
            refine lv_icmp_ge (tgt := 71) hx hb dX8_sendFirstPair_23 (by decide) (fun c4 => ?_) (fun c4 => ?_)
            · have h := if_t c4 h
              exact KK j3 (lp_e h hz).symm H locs ls hP (lv_sub hl [0, 1, 2] rfl)
            · have h := if_f c4 h
              refine lv_aload_n hx hb dX8_sendFirstPair_26 rfl (lv_at hl 0 rfl) ?_
              refine g_get hC hP fg_X8_12 0 rfl rfl dX8_sendFirstPair_27 ?_
              refine lv_iload_n hx hb dX8_sendFirstPair_30 rfl (lv_at hl 1 rfl) ?_
              refine lv_iload_n hx hb dX8_sendFirstPair_31 rfl (lv_at hl 2 rfl) ?_
              refine lv_aload_n hx hb dX8_sendFirstPair_32 rfl (lv_at hl 0 rfl) ?_
              refine g_get hC hP fg_X8_12 0 rfl rfl dX8_sendFirstPair_33 ?_
              refine g_get hC hP fg_X8_40 1 rfl rfl dX8_sendFirstPair_36 ?_
              obtain ⟨r5, hu, h⟩ := bnd_h h
              refine kc_z (kV hC (c_X4_areAlikeOn l dC dI cc q1 q2 shelf_clogs shelf_day shelf_cells j1 j3 shelf_day H.size r5 hu) cv_X8_51 kw514 rfl rfl ⟨(Nat.le_of_ble_eq_true rfl), (Nat.le_of_ble_eq_true rfl)⟩ hP [1, 2] rfl rfl rfl (q0 := 1) rfl (As := [.int j1, .int j3, .int shelf_day]) (rest := []) rfl rfl hl.1 (Nat.le_of_ble_eq_true rfl) dX8_sendFirstPair_39 ⟨Nat.zero_le _, Nat.zero_le _⟩) hP hA [1, 2] rfl rfl (fun hz_r5 H locs hP => ?_)
              have hP : PD (dC, dI) A s.heap [(q0, .inr (8, [.ref q1, .int wentAsPairs])), (q1, .inr (4, [.ref q2, .int shelf_clogs, .int shelf_day])), (q2, .inl (cc 0, 50, .inl shelf_cells))] H locs := hP
              refine lv_if_eq (tgt := 65) hx hb dX8_sendFirstPair_42 (by decide) (fun c6 => ?_) (fun c6 => ?_)
              · have h := if_t c6 h
                refine lv_iinc (v := (j3 + 1)) (lv' := [(2, .int (j3 + 1)), (0, .ref q0), (1, .int j1)]) hx hb dX8_sendFirstPair_65 hl (k := 2) rfl rfl (by decide) rfl (fun ls hl => ?_)
                refine lv_goto (tgt := 15) hx hb dX8_sendFirstPair_68 (by decide) ?_
                exact ih _ _ (lp_n h hz) H locs ls hP (lv_sub hl [1, 2, 0] rfl) KK KR
              · have h := if_f c6 h
                refine lv_aload_n hx hb dX8_sendFirstPair_45 rfl (lv_at hl 0 rfl) ?_
                refine g_get hC hP fg_X8_12 0 rfl rfl dX8_sendFirstPair_46 ?_
                refine lv_iload_n hx hb dX8_sendFirstPair_49 rfl (lv_at hl 1 rfl) ?_
                refine lv_iload_n hx hb dX8_sendFirstPair_50 rfl (lv_at hl 2 rfl) ?_
                obtain ⟨⟨w7, w8⟩, hu, h⟩ := bnd_h h
                refine kc_v (kV hC (c_X4_removeTwo l dC dI cc q1 q2 shelf_clogs shelf_day shelf_cells j1 j3 H.size w7 w8 hu) cv_X8_55 kw528 rfl rfl ⟨(Nat.le_of_ble_eq_true rfl), (Nat.le_of_ble_eq_true rfl)⟩ hP [1, 2] rfl rfl rfl (q0 := 1) rfl (As := [.int j1, .int j3]) (rest := []) rfl rfl hl.1 (Nat.le_of_ble_eq_true rfl) dX8_sendFirstPair_51 ⟨Nat.zero_le _, Nat.zero_le _⟩) hP hA [1, 2] rfl rfl (fun H locs hP => ?_)
                have hP : PD (dC, dI) A s.heap [(q0, .inr (8, [.ref q1, .int wentAsPairs])), (q1, .inr (4, [.ref q2, .int w8, .int shelf_day])), (q2, .inl (cc 0, 50, .inl w7))] H locs := hP
                refine lv_aload_n hx hb dX8_sendFirstPair_54 rfl (lv_at hl 0 rfl) ?_
                refine lv_dup hx hb dX8_sendFirstPair_55 rfl ?_
                refine g_get hC hP fg_X8_22 0 rfl rfl dX8_sendFirstPair_56 ?_
                refine lv_iconst (v := 1) hx hb dX8_sendFirstPair_59 (by decide) ?_
                refine lv_iadd hx hb dX8_sendFirstPair_60 ?_
                refine g_put hC hP fg_X8_22 0 rfl rfl rfl (Nat.le_of_ble_eq_true rfl) dX8_sendFirstPair_61 (fun H locs hP => ?_)
                have hP : PD (dC, dI) A s.heap [(q0, .inr (8, [.ref q1, .int (wentAsPairs + 1)])), (q1, .inr (4, [.ref q2, .int w8, .int shelf_day])), (q2, .inl (cc 0, 50, .inl w7))] H locs := hP
                rw [eZ]
                exact ret_v hC hr hlk hP dX8_sendFirstPair_64 (w7, w8, (wentAsPairs + 1)) (KR _ (lp_e h hz).symm) rfl
        refine L2 FU _ z hlp H locs ls hP (lv_sub hl [1, 2, 0] rfl) (fun j3x e H locs ls hP hl => ?_) (fun q e => KR _ (lp_e (hj q e) hz).symm)
        have h := hk _ e
        refine lv_iinc (v := (j1 + 1)) (lv' := [(1, .int (j1 + 1)), (0, .ref q0), (2, .int j3x)]) hx hb dX8_sendFirstPair_71 hl (k := 1) rfl rfl (by decide) rfl (fun ls hl => ?_)
        refine lv_goto (tgt := 2) hx hb dX8_sendFirstPair_74 (by decide) ?_
        exact ih _ _ (lp_n h hz) H locs ls hP (lv_sub hl [1, 0] rfl) KK KR
  refine L1 FU _ z hlp H locs ls hP (lv_sub hl [1, 0] rfl) (fun j1x e H locs ls hP hl => ?_) (fun q e => Option.some.inj (hj q e))
  have h := hk _ e
  rw [eZ]
  exact ret_v hC hr hlk hP dX8_sendFirstPair_77 (shelf_cells, shelf_clogs, wentAsPairs) (Option.some.inj h) rfl
set_option maxHeartbeats 8000000 in
set_option maxRecDepth 100000 in
theorem c_X8_live (l : Launch) (dC : Nat → ClassId) (dI : Nat → Nat → Nat) (cc : Nat → ClassId) (q0 q1 q2 q3 q4 : Nat) (wentAsPairs : Int32) (shelf_clogs : Int32) (shelf_day : Int32) (shelf_cells : (Nat → Int32)) (o1_clogs : Int32) (o1_day : Int32) (o1_cells : (Nat → Int32)) (x2 : Int32) (x3 : Int32) (sz : Nat) (o_shelf_cells : (Nat → Int32)) (o_shelf_clogs : Int32) (o_shelf_day : Int32) (o_wentAsPairs : Int32) (hu : f_X8_live x2 x3 shelf_cells o1_clogs o1_day o1_cells = some (o_shelf_cells, o_shelf_clogs, o_shelf_day, o_wentAsPairs)) : Met l yX8_live (mw yX8_live cX8_live 6 none) ({ frames := 5, cells := 0, slots := 0, locals := 114 } : Room) (va_Pc [.ref q0, .ref q3, .int x2, .int x3] (mP (dC, dI) (ts cc) sz [(q0, .inr (8, [.ref q1, .int wentAsPairs])), (q1, .inr (4, [.ref q2, .int shelf_clogs, .int shelf_day])), (q2, .inl (cc 0, 50, .inl shelf_cells)), (q3, .inr (4, [.ref q4, .int o1_clogs, .int o1_day])), (q4, .inl (cc 0, 50, .inl o1_cells))])) ((fun A => va_Qv (fun (w : (Nat → Int32) × Int32 × Int32 × Int32) => w = (o_shelf_cells, o_shelf_clogs, o_shelf_day, o_wentAsPairs)) (fun (w : (Nat → Int32) × Int32 × Int32 × Int32) t => va_P (dC, dI) classes [(q0, .inr (8, [.ref q1, .int w.2.2.2])), (q1, .inr (4, [.ref q2, .int w.2.1, .int w.2.2.1])), (q2, .inl (cc 0, 50, .inl w.1)), (q3, .inr (4, [.ref q4, .int o1_clogs, .int o1_day])), (q4, .inl (cc 0, 50, .inl o1_cells))] t.heap) A) (va_A [(q0, .inr (8, [.ref q1, .int wentAsPairs])), (q1, .inr (4, [.ref q2, .int shelf_clogs, .int shelf_day])), (q2, .inl (cc 0, 50, .inl shelf_cells)), (q3, .inr (4, [.ref q4, .int o1_clogs, .int o1_day])), (q4, .inl (cc 0, 50, .inl o1_cells))] sz)) 0 0 (va_A [(q0, .inr (8, [.ref q1, .int wentAsPairs])), (q1, .inr (4, [.ref q2, .int shelf_clogs, .int shelf_day])), (q2, .inl (cc 0, 50, .inl shelf_cells)), (q3, .inr (4, [.ref q4, .int o1_clogs, .int o1_day])), (q4, .inl (cc 0, 50, .inl o1_cells))] sz) := by
  refine met_go (Qc := fun A => va_Qv (fun (w : (Nat → Int32) × Int32 × Int32 × Int32) => w = (o_shelf_cells, o_shelf_clogs, o_shelf_day, o_wentAsPairs)) (fun (w : (Nat → Int32) × Int32 × Int32 × Int32) t => va_P (dC, dI) classes [(q0, .inr (8, [.ref q1, .int w.2.2.2])), (q1, .inr (4, [.ref q2, .int w.2.1, .int w.2.2.1])), (q2, .inl (cc 0, 50, .inl w.1)), (q3, .inr (4, [.ref q4, .int o1_clogs, .int o1_day])), (q4, .inl (cc 0, 50, .inl o1_cells))] t.heap) A) (by decide) (Nat.le_of_ble_eq_true rfl) ?_
  intro p e s m below meth c A ls H locs hC hr hlk hin hA hP hl _
  have hC : CX p m c cX8_live 6 s ([.ref q0, .ref q3, .int x2, .int x3] : List Value).toArray RX8 (dC, dI) (ts cc) := hC
  have hx := hC.1.1
  have hb := hC.1.2
  have h := hu
  have hu0 := hu
  unfold f_X8_live at h
  have hl : lv_has ls 6 [(0, .ref q0), (1, .ref q3), (2, .int x2), (3, .int x3)] := hl
  refine W_abs (fun Z eZ => ?_)
  refine lv_aload_n hx hb dX8_live_0 rfl (lv_at hl 0 rfl) ?_
  refine g_get hC hP fg_X8_12 0 rfl rfl dX8_live_1 ?_
  refine lv_aload_n hx hb dX8_live_4 rfl (lv_at hl 1 rfl) ?_
  obtain ⟨⟨w1, w2, w3⟩, hu, h⟩ := bnd_h h
  refine kc_v (kV hC (c_X4_copy l dC dI cc q1 q2 q3 q4 shelf_clogs shelf_day shelf_cells o1_clogs o1_day o1_cells H.size w1 w2 w3 hu) cv_X8_18 kw372 rfl rfl ⟨(Nat.le_of_ble_eq_true rfl), (Nat.le_of_ble_eq_true rfl)⟩ hP [1, 2, 3, 4] rfl rfl rfl (q0 := 1) rfl (As := [.ref q3]) (rest := []) rfl rfl hl.1 (Nat.le_of_ble_eq_true rfl) dX8_live_5 ⟨Nat.zero_le _, Nat.zero_le _⟩) hP hA [1, 2, 3, 4] rfl rfl (fun H locs hP => ?_)
  have hP : PD (dC, dI) A s.heap [(q0, .inr (8, [.ref q1, .int wentAsPairs])), (q1, .inr (4, [.ref q2, .int w2, .int w3])), (q2, .inl (cc 0, 50, .inl w1)), (q3, .inr (4, [.ref q4, .int o1_clogs, .int o1_day])), (q4, .inl (cc 0, 50, .inl o1_cells))] H locs := hP
  refine lv_aload_n hx hb dX8_live_8 rfl (lv_at hl 0 rfl) ?_
  refine lv_iconst (v := 0) hx hb dX8_live_9 (by decide) ?_
  refine g_put hC hP fg_X8_22 0 rfl rfl rfl (Nat.le_of_ble_eq_true rfl) dX8_live_10 (fun H locs hP => ?_)
  have hP : PD (dC, dI) A s.heap [(q0, .inr (8, [.ref q1, .int 0])), (q1, .inr (4, [.ref q2, .int w2, .int w3])), (q2, .inl (cc 0, 50, .inl w1)), (q3, .inr (4, [.ref q4, .int o1_clogs, .int o1_day])), (q4, .inl (cc 0, 50, .inl o1_cells))] H locs := hP
  refine lv_iconst (v := 0) hx hb dX8_live_13 (by decide) ?_
  refine lv_istore (lv' := [(4, .int 0), (0, .ref q0), (1, .ref q3), (2, .int x2), (3, .int x3)]) hx hb dX8_live_14 hl (by decide) rfl (fun ls hl => ?_)
  obtain ⟨⟨j4x, w5x, w6x, w7x, w8x⟩, hlp, h⟩ := bnd_h h
  have L1 : ∀ (n : Nat) (j4 : Int32) (w5 : Int32) (w6 : Int32) (w7 : Int32) (w8 : (Nat → Int32)) (j4x : Int32) (w5x : Int32) (w6x : Int32) (w7x : Int32) (w8x : (Nat → Int32)), lp (u5 (b_X8_live_1 x2 x3)) n (j4, w5, w6, w7, w8) = some (j4x, w5x, w6x, w7x, w8x) → ∀ (H : Heap) (locs : List Loc) (ls : Array Slot), PD (dC, dI) A s.heap [(q0, .inr (8, [.ref q1, .int w5])), (q1, .inr (4, [.ref q2, .int w6, .int w7])), (q2, .inl (cc 0, 50, .inl w8)), (q3, .inr (4, [.ref q4, .int o1_clogs, .int o1_day])), (q4, .inl (cc 0, 50, .inl o1_cells))] H locs → lv_has ls 6 [(0, .ref q0), (2, .int x2), (3, .int x3), (4, .int j4)] → (∀ (H : Heap) (locs : List Loc) (ls : Array Slot), PD (dC, dI) A s.heap [(q0, .inr (8, [.ref q1, .int w5x])), (q1, .inr (4, [.ref q2, .int w6x, .int w7x])), (q2, .inl (cc 0, 50, .inl w8x)), (q3, .inr (4, [.ref q4, .int o1_clogs, .int o1_day])), (q4, .inl (cc 0, 50, .inl o1_cells))] H locs → lv_has ls 6 [(0, .ref q0), (2, .int x2), (3, .int x3), (4, .int j4x)] → W p l e ({ frames := 5, cells := 0, slots := 0, locals := 114 } : Room) s m ([.ref q0, .ref q3, .int x2, .int x3] : List Value).toArray below meth c H locs 0 0 Z (F0 m 97 ls [])) → W p l e ({ frames := 5, cells := 0, slots := 0, locals := 114 } : Room) s m ([.ref q0, .ref q3, .int x2, .int x3] : List Value).toArray below meth c H locs 0 0 Z (F0 m 16 ls []) := by
    intro n
    induction n with
    | zero => intro j4 w5 w6 w7 w8 j4x w5x w6x w7x w8x h; exact (lp_0 h).elim
    | succ n ih =>
      intro j4 w5 w6 w7 w8 j4x w5x w6x w7x w8x h H locs ls hP hl KK
      obtain ⟨y, h, hz⟩ := lp_h h
      refine lv_iload hx hb dX8_live_16 (lv_at hl 3 rfl) ?_
      refine lv_iload_n hx hb dX8_live_18 rfl (lv_at hl 2 rfl) ?_
      refine lv_icmp_ge (tgt := 97) hx hb dX8_live_19 (by decide) (fun c9 => ?_) (fun c9 => ?_)
      · have h := if_t c9 h
        cases lp_e h hz
        exact KK H locs ls hP (lv_sub hl [0, 1, 2, 3] rfl)
      · have h := if_f c9 h
        refine lv_aload_n hx hb dX8_live_22 rfl (lv_at hl 0 rfl) ?_
        refine g_get hC hP fg_X8_12 0 rfl rfl dX8_live_23 ?_
        refine g_get hC hP fg_X8_26 1 rfl rfl dX8_live_26 ?_
        refine lv_bipush (v := 10) hx hb dX8_live_29 (by decide) ?_
        refine lv_icmp_ge (tgt := 74) hx hb dX8_live_31 (by decide) (fun c10 => ?_) (fun c10 => ?_)
        · have h := if_t c10 h
          refine lv_aload_n hx hb dX8_live_74 rfl (lv_at hl 0 rfl) ?_
          obtain ⟨⟨w11, w12, w13⟩, hu, h⟩ := bnd_h h
          refine kc_v (kV hC (c_X8_sendFirstPair l dC dI cc q0 q1 q2 w5 w6 w7 w8 H.size w11 w12 w13 hu) cv_X8_37 kw750 rfl rfl ⟨(Nat.le_of_ble_eq_true rfl), (Nat.le_of_ble_eq_true rfl)⟩ hP [0, 1, 2] rfl rfl rfl (q0 := 0) rfl (As := []) (rest := []) rfl rfl hl.1 (Nat.le_of_ble_eq_true rfl) dX8_live_75 ⟨Nat.zero_le _, Nat.zero_le _⟩) hP hA [0, 1, 2] rfl rfl (fun H locs hP => ?_)
          have hP : PD (dC, dI) A s.heap [(q0, .inr (8, [.ref q1, .int w13])), (q1, .inr (4, [.ref q2, .int w12, .int w7])), (q2, .inl (cc 0, 50, .inl w11)), (q3, .inr (4, [.ref q4, .int o1_clogs, .int o1_day])), (q4, .inl (cc 0, 50, .inl o1_cells))] H locs := hP
          refine lv_aload_n hx hb dX8_live_78 rfl (lv_at hl 0 rfl) ?_
          refine g_get hC hP fg_X8_12 0 rfl rfl dX8_live_79 ?_
          refine lv_dup hx hb dX8_live_82 rfl ?_
          refine g_get hC hP fg_X8_40 1 rfl rfl dX8_live_83 ?_
          refine lv_iconst (v := 1) hx hb dX8_live_86 (by decide) ?_
          refine lv_iadd hx hb dX8_live_87 ?_
          refine g_put hC hP fg_X8_40 1 rfl rfl rfl (Nat.le_of_ble_eq_true rfl) dX8_live_88 (fun H locs hP => ?_)
          have hP : PD (dC, dI) A s.heap [(q0, .inr (8, [.ref q1, .int w13])), (q1, .inr (4, [.ref q2, .int w12, .int (w7 + 1)])), (q2, .inl (cc 0, 50, .inl w11)), (q3, .inr (4, [.ref q4, .int o1_clogs, .int o1_day])), (q4, .inl (cc 0, 50, .inl o1_cells))] H locs := hP
          refine lv_iinc (v := (j4 + 1)) (lv' := [(4, .int (j4 + 1)), (0, .ref q0), (2, .int x2), (3, .int x3)]) hx hb dX8_live_91 hl (k := 3) rfl rfl (by decide) rfl (fun ls hl => ?_)
          refine lv_goto (tgt := 16) hx hb dX8_live_94 (by decide) ?_
          exact ih _ _ _ _ _ _ _ _ _ _ (lp_n h hz) H locs ls hP (lv_sub hl [1, 2, 3, 0] rfl) KK
        · have h := if_f c10 h
          refine lv_iload_n hx hb dX8_live_34 rfl (lv_at hl 1 rfl) ?_
          refine lv_iload hx hb dX8_live_35 (lv_at hl 3 rfl) ?_
          obtain ⟨r14, hu, h⟩ := bnd_h h
          refine kc_i (kS hC (c_X8_drawOf l dC dI cc x2 j4 H.size r14 hu) cs_X8_29 kw741 rfl rfl ⟨(Nat.le_of_ble_eq_true rfl), (Nat.le_of_ble_eq_true rfl)⟩ hP [] rfl rfl (As := [.int x2, .int j4]) (rest := []) rfl rfl hl.1 (Nat.le_of_ble_eq_true rfl) dX8_live_37 ⟨Nat.zero_le _, Nat.zero_le _⟩) hP hA [] rfl rfl (fun H locs hP => ?_)
          have hP : PD (dC, dI) A s.heap [(q0, .inr (8, [.ref q1, .int w5])), (q1, .inr (4, [.ref q2, .int w6, .int w7])), (q2, .inl (cc 0, 50, .inl w8)), (q3, .inr (4, [.ref q4, .int o1_clogs, .int o1_day])), (q4, .inl (cc 0, 50, .inl o1_cells))] H locs := hP
          refine lv_istore (lv' := [(5, .int r14), (0, .ref q0), (2, .int x2), (3, .int x3), (4, .int j4)]) hx hb dX8_live_40 hl (by decide) rfl (fun ls hl => ?_)
          refine lv_aload_n hx hb dX8_live_42 rfl (lv_at hl 1 rfl) ?_
          refine g_get hC hP fg_X8_12 0 rfl rfl dX8_live_43 ?_
          refine lv_iconst (v := 0) hx hb dX8_live_46 (by decide) ?_
          refine lv_iload hx hb dX8_live_47 (lv_at hl 0 rfl) ?_
          refine lv_iconst (v := 2) hx hb dX8_live_49 (by decide) ?_
          refine lv_irem hx hb dX8_live_50 (by decide) ?_
          refine lv_bipush (v := 30) hx hb dX8_live_51 (by decide) ?_
          refine lv_iload hx hb dX8_live_53 (lv_at hl 0 rfl) ?_
          refine lv_iconst (v := 2) hx hb dX8_live_55 (by decide) ?_
          refine lv_idiv hx hb dX8_live_56 (by decide) ?_
          refine lv_bipush (v := 12) hx hb dX8_live_57 (by decide) ?_
          refine lv_irem hx hb dX8_live_59 (by decide) ?_
          refine lv_iadd hx hb dX8_live_60 ?_
          refine lv_bipush (v := 10) hx hb dX8_live_61 (by decide) ?_
          refine lv_iload hx hb dX8_live_63 (lv_at hl 0 rfl) ?_
          refine lv_bipush (v := 32) hx hb dX8_live_65 (by decide) ?_
          refine lv_idiv hx hb dX8_live_67 (by decide) ?_
          refine lv_iconst (v := 5) hx hb dX8_live_68 (by decide) ?_
          refine lv_irem hx hb dX8_live_69 (by decide) ?_
          refine lv_iadd hx hb dX8_live_70 ?_
          obtain ⟨⟨w15, w16⟩, hu, h⟩ := bnd_h h
          refine kc_v (kV hC (c_X4_add l dC dI cc q1 q2 w6 w7 w8 0 (r14 - r14 / 2 * 2) (30 + ((r14 / 2) - (r14 / 2) / 12 * 12)) (10 + ((r14 / 32) - (r14 / 32) / 5 * 5)) H.size w15 w16 hu) cv_X8_33 kw345 rfl rfl ⟨(Nat.le_of_ble_eq_true rfl), (Nat.le_of_ble_eq_true rfl)⟩ hP [1, 2] rfl rfl rfl (q0 := 1) rfl (As := [.int 0, .int (r14 - r14 / 2 * 2), .int (30 + ((r14 / 2) - (r14 / 2) / 12 * 12)), .int (10 + ((r14 / 32) - (r14 / 32) / 5 * 5))]) (rest := []) rfl rfl hl.1 (Nat.le_of_ble_eq_true rfl) dX8_live_71 ⟨Nat.zero_le _, Nat.zero_le _⟩) hP hA [1, 2] rfl rfl (fun H locs hP => ?_)
          have hP : PD (dC, dI) A s.heap [(q0, .inr (8, [.ref q1, .int w5])), (q1, .inr (4, [.ref q2, .int w16, .int w7])), (q2, .inl (cc 0, 50, .inl w15)), (q3, .inr (4, [.ref q4, .int o1_clogs, .int o1_day])), (q4, .inl (cc 0, 50, .inl o1_cells))] H locs := hP
          refine lv_aload_n hx hb dX8_live_74 rfl (lv_at hl 1 rfl) ?_
          obtain ⟨⟨w17, w18, w19⟩, hu, h⟩ := bnd_h h
          refine kc_v (kV hC (c_X8_sendFirstPair l dC dI cc q0 q1 q2 w5 w16 w7 w15 H.size w17 w18 w19 hu) cv_X8_37 kw750 rfl rfl ⟨(Nat.le_of_ble_eq_true rfl), (Nat.le_of_ble_eq_true rfl)⟩ hP [0, 1, 2] rfl rfl rfl (q0 := 0) rfl (As := []) (rest := []) rfl rfl hl.1 (Nat.le_of_ble_eq_true rfl) dX8_live_75 ⟨Nat.zero_le _, Nat.zero_le _⟩) hP hA [0, 1, 2] rfl rfl (fun H locs hP => ?_)
          have hP : PD (dC, dI) A s.heap [(q0, .inr (8, [.ref q1, .int w19])), (q1, .inr (4, [.ref q2, .int w18, .int w7])), (q2, .inl (cc 0, 50, .inl w17)), (q3, .inr (4, [.ref q4, .int o1_clogs, .int o1_day])), (q4, .inl (cc 0, 50, .inl o1_cells))] H locs := hP
          refine lv_aload_n hx hb dX8_live_78 rfl (lv_at hl 1 rfl) ?_
          refine g_get hC hP fg_X8_12 0 rfl rfl dX8_live_79 ?_
          refine lv_dup hx hb dX8_live_82 rfl ?_
          refine g_get hC hP fg_X8_40 1 rfl rfl dX8_live_83 ?_
          refine lv_iconst (v := 1) hx hb dX8_live_86 (by decide) ?_
          refine lv_iadd hx hb dX8_live_87 ?_
          refine g_put hC hP fg_X8_40 1 rfl rfl rfl (Nat.le_of_ble_eq_true rfl) dX8_live_88 (fun H locs hP => ?_)
          have hP : PD (dC, dI) A s.heap [(q0, .inr (8, [.ref q1, .int w19])), (q1, .inr (4, [.ref q2, .int w18, .int (w7 + 1)])), (q2, .inl (cc 0, 50, .inl w17)), (q3, .inr (4, [.ref q4, .int o1_clogs, .int o1_day])), (q4, .inl (cc 0, 50, .inl o1_cells))] H locs := hP
          refine lv_iinc (v := (j4 + 1)) (lv' := [(4, .int (j4 + 1)), (5, .int r14), (0, .ref q0), (2, .int x2), (3, .int x3)]) hx hb dX8_live_91 hl (k := 4) rfl rfl (by decide) rfl (fun ls hl => ?_)
          refine lv_goto (tgt := 16) hx hb dX8_live_94 (by decide) ?_
          exact ih _ _ _ _ _ _ _ _ _ _ (lp_n h hz) H locs ls hP (lv_sub hl [2, 3, 4, 0] rfl) KK
  refine L1 FU _ _ _ _ _ j4x w5x w6x w7x w8x hlp H locs ls hP (lv_sub hl [1, 3, 4, 0] rfl) (fun H locs ls hP hl => ?_)
  rw [eZ]
  exact ret_v hC hr hlk hP dX8_live_97 (w8x, w6x, w7x, w5x) (Option.some.inj h) rfl
