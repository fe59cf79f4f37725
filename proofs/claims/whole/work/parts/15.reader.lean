set_option maxHeartbeats 8000000 in
set_option maxRecDepth 100000 in
theorem c_X3_readNumbers (l : Launch) (dC : Nat → ClassId) (dI : Nat → Nat → Nat) (cc : Nat → ClassId) (q0 q1 q3 q6 q7 q8 q9 : Nat) (told : Int32) (numbers : (Nat → Int32)) (o1_length : Int32) (o1_letters : (Nat → Int32)) (x2 : Int32) (sz : Nat) (ret : Int32) (o_numbers : (Nat → Int32)) (o_told : Int32) (hu : f_X3_readNumbers x2 told numbers o1_length o1_letters = some (ret, o_numbers, o_told)) : Met l yX3_readNumbers (mw yX3_readNumbers cX3_readNumbers 8 (some .int)) ({ frames := 2, cells := 0, slots := 0, locals := 43 } : Room) (va_Pc [.ref q0, .ref q8, .int x2] (mP (dC, dI) (ts cc) sz [(q0, .inr (3, [.ref q1, .ref q3, .ref q6, .ref q7, .int told])), (q7, .inl (cc 0, 4, .inl numbers)), (q8, .inr (5, [.ref q9, .int o1_length])), (q9, .inl (cc 1, 200, .inl o1_letters))])) ((fun A => va_Qi (fun (r : Int32) (w : (Nat → Int32) × Int32) => r = ret ∧ w = (o_numbers, o_told)) (fun (w : (Nat → Int32) × Int32) t => va_P (dC, dI) classes [(q0, .inr (3, [.ref q1, .ref q3, .ref q6, .ref q7, .int w.2])), (q7, .inl (cc 0, 4, .inl w.1)), (q8, .inr (5, [.ref q9, .int o1_length])), (q9, .inl (cc 1, 200, .inl o1_letters))] t.heap) A) (va_A [(q0, .inr (3, [.ref q1, .ref q3, .ref q6, .ref q7, .int told])), (q7, .inl (cc 0, 4, .inl numbers)), (q8, .inr (5, [.ref q9, .int o1_length])), (q9, .inl (cc 1, 200, .inl o1_letters))] sz)) 0 0 (va_A [(q0, .inr (3, [.ref q1, .ref q3, .ref q6, .ref q7, .int told])), (q7, .inl (cc 0, 4, .inl numbers)), (q8, .inr (5, [.ref q9, .int o1_length])), (q9, .inl (cc 1, 200, .inl o1_letters))] sz) := by
  refine met_go (Qc := fun A => va_Qi (fun (r : Int32) (w : (Nat → Int32) × Int32) => r = ret ∧ w = (o_numbers, o_told)) (fun (w : (Nat → Int32) × Int32) t => va_P (dC, dI) classes [(q0, .inr (3, [.ref q1, .ref q3, .ref q6, .ref q7, .int w.2])), (q7, .inl (cc 0, 4, .inl w.1)), (q8, .inr (5, [.ref q9, .int o1_length])), (q9, .inl (cc 1, 200, .inl o1_letters))] t.heap) A) (by decide) (Nat.le_of_ble_eq_true rfl) ?_
  intro p e s m below meth c A ls H locs hC hr hlk hin hA hP hl _
  have hC : CX p m c cX3_readNumbers 8 s ([.ref q0, .ref q8, .int x2] : List Value).toArray RX3 (dC, dI) (ts cc) := hC
  have hx := hC.1.1
  have hb := hC.1.2
  have h := hu
  have hu0 := hu
  unfold f_X3_readNumbers at h
  have hl : lv_has ls 8 [(0, .ref q0), (1, .ref q8), (2, .int x2)] := hl
  refine W_abs (fun Z eZ => ?_)
  refine lv_iload_n hx hb dX3_readNumbers_0 rfl (lv_at hl 2 rfl) ?_
  refine lv_istore_n (lv' := [(3, .int x2), (0, .ref q0), (1, .ref q8), (2, .int x2)]) hx hb dX3_readNumbers_1 rfl hl (by decide) rfl (fun ls hl => ?_)
  refine lv_iconst (v := 0) hx hb dX3_readNumbers_2 (by decide) ?_
  refine lv_istore (lv' := [(4, .int 0), (3, .int x2), (0, .ref q0), (1, .ref q8), (2, .int x2)]) hx hb dX3_readNumbers_3 hl (by decide) rfl (fun ls hl => ?_)
  obtain ⟨z, hlp, hk, hj⟩ := bndE_h h
  have L1 : ∀ (n : Nat) (j1 : Int32) (j2 : Int32) (w3 : Int32) (w4 : (Nat → Int32)) (z : ((Int32 × Int32 × Int32 × (Nat → Int32)) ⊕ (Int32 × (Nat → Int32) × Int32))), lp (u4 (b_X3_readNumbers_1 o1_length o1_letters)) n (j1, j2, w3, w4) = some z → ∀ (H : Heap) (locs : List Loc) (ls : Array Slot), PD (dC, dI) A s.heap [(q0, .inr (3, [.ref q1, .ref q3, .ref q6, .ref q7, .int w3])), (q7, .inl (cc 0, 4, .inl w4)), (q8, .inr (5, [.ref q9, .int o1_length])), (q9, .inl (cc 1, 200, .inl o1_letters))] H locs → lv_has ls 8 [(0, .ref q0), (1, .ref q8), (3, .int j1), (4, .int j2)] → (∀ (j1x : Int32) (j2x : Int32) (w3x : Int32) (w4x : (Nat → Int32)), z = .inl (j1x, j2x, w3x, w4x) → ∀ (H : Heap) (locs : List Loc) (ls : Array Slot), PD (dC, dI) A s.heap [(q0, .inr (3, [.ref q1, .ref q3, .ref q6, .ref q7, .int w3x])), (q7, .inl (cc 0, 4, .inl w4x)), (q8, .inr (5, [.ref q9, .int o1_length])), (q9, .inl (cc 1, 200, .inl o1_letters))] H locs → lv_has ls 8 [(0, .ref q0), (1, .ref q8), (3, .int j1x), (4, .int j2x)] → W p l e ({ frames := 2, cells := 0, slots := 0, locals := 43 } : Room) s m ([.ref q0, .ref q8, .int x2] : List Value).toArray below meth c H locs 0 0 Z (F0 m 106 ls [])) → (∀ q, z = .inr q → q = (ret, o_numbers, o_told)) → W p l e ({ frames := 2, cells := 0, slots := 0, locals := 43 } : Room) s m ([.ref q0, .ref q8, .int x2] : List Value).toArray below meth c H locs 0 0 Z (F0 m 5 ls []) := by
    intro n
    induction n with
    | zero => intro j1 j2 w3 w4 z h; exact (lp_0 h).elim
    | succ n ih =>
      intro j1 j2 w3 w4 z h H locs ls hP hl KK KR
      obtain ⟨y, h, hz⟩ := lp_h h
      refine lv_iload hx hb dX3_readNumbers_5 (lv_at hl 3 rfl) ?_
      refine lv_iconst (v := 4) hx hb dX3_readNumbers_7 (by decide) ?_
      refine lv_icmp_ge (tgt := 106) hx hb dX3_readNumbers_8 (by decide) (fun c5 => ?_) (fun c5 => ?_)
      · have h := if_t c5 h
        exact KK j1 j2 w3 w4 (lp_e h hz).symm H locs ls hP (lv_sub hl [0, 1, 2, 3] rfl)
      · have h := if_f c5 h
        refine lv_aload_n hx hb dX3_readNumbers_11 rfl (lv_at hl 1 rfl) ?_
        refine lv_iload_n hx hb dX3_readNumbers_12 rfl (lv_at hl 2 rfl) ?_
        obtain ⟨r6, hu, h⟩ := bnd_h h
        refine kc_i (kV hC (c_X5_figureAt l dC dI cc q8 q9 o1_length o1_letters j1 H.size r6 hu) cv_X3_59 kw313 rfl rfl ⟨(Nat.le_of_ble_eq_true rfl), (Nat.le_of_ble_eq_true rfl)⟩ hP [2, 3] rfl rfl rfl (q0 := 2) rfl (As := [.int j1]) (rest := []) rfl rfl hl.1 (Nat.le_of_ble_eq_true rfl) dX3_readNumbers_13 ⟨Nat.zero_le _, Nat.zero_le _⟩) hP hA [2, 3] rfl rfl (fun H locs hP => ?_)
        have hP : PD (dC, dI) A s.heap [(q0, .inr (3, [.ref q1, .ref q3, .ref q6, .ref q7, .int w3])), (q7, .inl (cc 0, 4, .inl w4)), (q8, .inr (5, [.ref q9, .int o1_length])), (q9, .inl (cc 1, 200, .inl o1_letters))] H locs := hP
        refine lv_istore (lv' := [(5, .int r6), (0, .ref q0), (1, .ref q8), (3, .int j1), (4, .int j2)]) hx hb dX3_readNumbers_16 hl (by decide) rfl (fun ls hl => ?_)
        refine lv_iload hx hb dX3_readNumbers_18 (lv_at hl 0 rfl) ?_
        refine lv_if_ge (tgt := 25) hx hb dX3_readNumbers_20 (by decide) (fun c7 => ?_) (fun c7 => ?_)
        · have h := if_t c7 h
          refine lv_iinc (v := (j1 + 1)) (lv' := [(3, .int (j1 + 1)), (5, .int r6), (0, .ref q0), (1, .ref q8), (4, .int j2)]) hx hb dX3_readNumbers_25 hl (k := 3) rfl rfl (by decide) rfl (fun ls hl => ?_)
          refine lv_aload_n hx hb dX3_readNumbers_28 rfl (lv_at hl 3 rfl) ?_
          refine lv_iload_n hx hb dX3_readNumbers_29 rfl (lv_at hl 0 rfl) ?_
          obtain ⟨r8, hu, h⟩ := bnd_h h
          refine kc_i (kV hC (c_X5_figureAt l dC dI cc q8 q9 o1_length o1_letters (j1 + 1) H.size r8 hu) cv_X3_59 kw313 rfl rfl ⟨(Nat.le_of_ble_eq_true rfl), (Nat.le_of_ble_eq_true rfl)⟩ hP [2, 3] rfl rfl rfl (q0 := 2) rfl (As := [.int (j1 + 1)]) (rest := []) rfl rfl hl.1 (Nat.le_of_ble_eq_true rfl) dX3_readNumbers_30 ⟨Nat.zero_le _, Nat.zero_le _⟩) hP hA [2, 3] rfl rfl (fun H locs hP => ?_)
          have hP : PD (dC, dI) A s.heap [(q0, .inr (3, [.ref q1, .ref q3, .ref q6, .ref q7, .int w3])), (q7, .inl (cc 0, 4, .inl w4)), (q8, .inr (5, [.ref q9, .int o1_length])), (q9, .inl (cc 1, 200, .inl o1_letters))] H locs := hP
          refine lv_istore (lv' := [(6, .int r8), (3, .int (j1 + 1)), (5, .int r6), (0, .ref q0), (1, .ref q8), (4, .int j2)]) hx hb dX3_readNumbers_33 hl (by decide) rfl (fun ls hl => ?_)
          refine lv_iload hx hb dX3_readNumbers_35 (lv_at hl 0 rfl) ?_
          refine lv_if_lt (tgt := 53) hx hb dX3_readNumbers_37 (by decide) (fun c9 => ?_) (fun c9 => ?_)
          · have h := if_t c9 h
            refine lv_aload_n hx hb dX3_readNumbers_53 rfl (lv_at hl 3 rfl) ?_
            refine g_get hC hP fg_X3_32 0 rfl rfl dX3_readNumbers_54 ?_
            refine lv_iload hx hb dX3_readNumbers_57 (lv_at hl 5 rfl) ?_
            refine lv_iload hx hb dX3_readNumbers_59 (lv_at hl 2 rfl) ?_
            obtain ⟨w10, hu, h⟩ := bnd_h h
            refine kc_v (kN hC (c_X9_put l dC dI cc q7 4 w4 j2 r6 H.size w10 hu) cn_X3_62 kw320 rfl rfl ⟨(Nat.le_of_ble_eq_true rfl), (Nat.le_of_ble_eq_true rfl)⟩ hP [1] rfl rfl (As := [.ref q7, .int j2, .int r6]) (rest := []) rfl rfl hl.1 (Nat.le_of_ble_eq_true rfl) dX3_readNumbers_61 ⟨Nat.zero_le _, Nat.zero_le _⟩) hP hA [1] rfl rfl (fun H locs hP => ?_)
            have hP : PD (dC, dI) A s.heap [(q0, .inr (3, [.ref q1, .ref q3, .ref q6, .ref q7, .int w3])), (q7, .inl (cc 0, 4, .inl w10)), (q8, .inr (5, [.ref q9, .int o1_length])), (q9, .inl (cc 1, 200, .inl o1_letters))] H locs := hP
            refine lv_aload_n hx hb dX3_readNumbers_64 rfl (lv_at hl 3 rfl) ?_
            refine lv_iload hx hb dX3_readNumbers_65 (lv_at hl 5 rfl) ?_
            refine lv_iconst (v := 1) hx hb dX3_readNumbers_67 (by decide) ?_
            refine lv_iadd hx hb dX3_readNumbers_68 ?_
            refine g_put hC hP fg_X3_66 0 rfl rfl rfl (Nat.le_of_ble_eq_true rfl) dX3_readNumbers_69 (fun H locs hP => ?_)
            have hP : PD (dC, dI) A s.heap [(q0, .inr (3, [.ref q1, .ref q3, .ref q6, .ref q7, .int (j2 + 1)])), (q7, .inl (cc 0, 4, .inl w10)), (q8, .inr (5, [.ref q9, .int o1_length])), (q9, .inl (cc 1, 200, .inl o1_letters))] H locs := hP
            refine lv_aload_n hx hb dX3_readNumbers_72 rfl (lv_at hl 4 rfl) ?_
            refine lv_iload_n hx hb dX3_readNumbers_73 rfl (lv_at hl 1 rfl) ?_
            obtain ⟨r11, hu, h⟩ := bnd_h h
            refine kc_i (kV hC (c_X5_letterAt l dC dI cc q8 q9 o1_length o1_letters (j1 + 1) H.size r11 hu) cv_X3_51 kw317 rfl rfl ⟨(Nat.le_of_ble_eq_true rfl), (Nat.le_of_ble_eq_true rfl)⟩ hP [2, 3] rfl rfl rfl (q0 := 2) rfl (As := [.int (j1 + 1)]) (rest := []) rfl rfl hl.1 (Nat.le_of_ble_eq_true rfl) dX3_readNumbers_74 ⟨Nat.zero_le _, Nat.zero_le _⟩) hP hA [2, 3] rfl rfl (fun H locs hP => ?_)
            have hP : PD (dC, dI) A s.heap [(q0, .inr (3, [.ref q1, .ref q3, .ref q6, .ref q7, .int (j2 + 1)])), (q7, .inl (cc 0, 4, .inl w10)), (q8, .inr (5, [.ref q9, .int o1_length])), (q9, .inl (cc 1, 200, .inl o1_letters))] H locs := hP
            refine lv_istore (lv' := [(7, .int r11), (6, .int r8), (3, .int (j1 + 1)), (5, .int r6), (0, .ref q0), (1, .ref q8), (4, .int j2)]) hx hb dX3_readNumbers_77 hl (by decide) rfl (fun ls hl => ?_)
            refine lv_iinc (v := ((j1 + 1) + 1)) (lv' := [(3, .int ((j1 + 1) + 1)), (7, .int r11), (6, .int r8), (5, .int r6), (0, .ref q0), (1, .ref q8), (4, .int j2)]) hx hb dX3_readNumbers_79 hl (k := 2) rfl rfl (by decide) rfl (fun ls hl => ?_)
            refine lv_iload hx hb dX3_readNumbers_82 (lv_at hl 1 rfl) ?_
            refine lv_bipush (v := 59) hx hb dX3_readNumbers_84 (by decide) ?_
            refine lv_icmp_ne (tgt := 91) hx hb dX3_readNumbers_86 (by decide) (fun c12 => ?_) (fun c12 => ?_)
            · have h := if_f c12 h
              refine lv_iload hx hb dX3_readNumbers_91 (lv_at hl 1 rfl) ?_
              refine lv_bipush (v := 44) hx hb dX3_readNumbers_93 (by decide) ?_
              refine lv_icmp_eq (tgt := 100) hx hb dX3_readNumbers_95 (by decide) (fun c13 => ?_) (fun c13 => ?_)
              · have h := if_t c13 h
                refine lv_iinc (v := (j2 + 1)) (lv' := [(4, .int (j2 + 1)), (3, .int ((j1 + 1) + 1)), (7, .int r11), (6, .int r8), (5, .int r6), (0, .ref q0), (1, .ref q8)]) hx hb dX3_readNumbers_100 hl (k := 6) rfl rfl (by decide) rfl (fun ls hl => ?_)
                refine lv_goto (tgt := 5) hx hb dX3_readNumbers_103 (by decide) ?_
                exact ih _ _ _ _ _ (lp_n h hz) H locs ls hP (lv_sub hl [5, 6, 1, 0] rfl) KK KR
              · have h := if_f c13 h
                refine lv_iconst (v := -1) hx hb dX3_readNumbers_98 (by decide) ?_
                rw [eZ]
                exact ret_i hC hr hlk hP dX3_readNumbers_99 (w10, (j2 + 1)) (Prod.mk.inj (KR _ (lp_e h hz).symm)) rfl
            · have h := if_t c12 h
              refine lv_iload_n hx hb dX3_readNumbers_89 rfl (lv_at hl 0 rfl) ?_
              rw [eZ]
              exact ret_i hC hr hlk hP dX3_readNumbers_90 (w10, (j2 + 1)) (Prod.mk.inj (KR _ (lp_e h hz).symm)) rfl
          · have h := if_f c9 h
            refine lv_iload hx hb dX3_readNumbers_40 (lv_at hl 2 rfl) ?_
            refine lv_bipush (v := 10) hx hb dX3_readNumbers_42 (by decide) ?_
            refine lv_imul hx hb dX3_readNumbers_44 ?_
            refine lv_iload hx hb dX3_readNumbers_45 (lv_at hl 0 rfl) ?_
            refine lv_iadd hx hb dX3_readNumbers_47 ?_
            refine lv_istore (lv' := [(5, .int ((r6 * 10) + r8)), (6, .int r8), (3, .int (j1 + 1)), (0, .ref q0), (1, .ref q8), (4, .int j2)]) hx hb dX3_readNumbers_48 hl (by decide) rfl (fun ls hl => ?_)
            refine lv_iinc (v := ((j1 + 1) + 1)) (lv' := [(3, .int ((j1 + 1) + 1)), (5, .int ((r6 * 10) + r8)), (6, .int r8), (0, .ref q0), (1, .ref q8), (4, .int j2)]) hx hb dX3_readNumbers_50 hl (k := 2) rfl rfl (by decide) rfl (fun ls hl => ?_)
            refine lv_aload_n hx hb dX3_readNumbers_53 rfl (lv_at hl 3 rfl) ?_
            refine g_get hC hP fg_X3_32 0 rfl rfl dX3_readNumbers_54 ?_
            refine lv_iload hx hb dX3_readNumbers_57 (lv_at hl 5 rfl) ?_
            refine lv_iload hx hb dX3_readNumbers_59 (lv_at hl 1 rfl) ?_
            obtain ⟨w14, hu, h⟩ := bnd_h h
            refine kc_v (kN hC (c_X9_put l dC dI cc q7 4 w4 j2 ((r6 * 10) + r8) H.size w14 hu) cn_X3_62 kw320 rfl rfl ⟨(Nat.le_of_ble_eq_true rfl), (Nat.le_of_ble_eq_true rfl)⟩ hP [1] rfl rfl (As := [.ref q7, .int j2, .int ((r6 * 10) + r8)]) (rest := []) rfl rfl hl.1 (Nat.le_of_ble_eq_true rfl) dX3_readNumbers_61 ⟨Nat.zero_le _, Nat.zero_le _⟩) hP hA [1] rfl rfl (fun H locs hP => ?_)
            have hP : PD (dC, dI) A s.heap [(q0, .inr (3, [.ref q1, .ref q3, .ref q6, .ref q7, .int w3])), (q7, .inl (cc 0, 4, .inl w14)), (q8, .inr (5, [.ref q9, .int o1_length])), (q9, .inl (cc 1, 200, .inl o1_letters))] H locs := hP
            refine lv_aload_n hx hb dX3_readNumbers_64 rfl (lv_at hl 3 rfl) ?_
            refine lv_iload hx hb dX3_readNumbers_65 (lv_at hl 5 rfl) ?_
            refine lv_iconst (v := 1) hx hb dX3_readNumbers_67 (by decide) ?_
            refine lv_iadd hx hb dX3_readNumbers_68 ?_
            refine g_put hC hP fg_X3_66 0 rfl rfl rfl (Nat.le_of_ble_eq_true rfl) dX3_readNumbers_69 (fun H locs hP => ?_)
            have hP : PD (dC, dI) A s.heap [(q0, .inr (3, [.ref q1, .ref q3, .ref q6, .ref q7, .int (j2 + 1)])), (q7, .inl (cc 0, 4, .inl w14)), (q8, .inr (5, [.ref q9, .int o1_length])), (q9, .inl (cc 1, 200, .inl o1_letters))] H locs := hP
            refine lv_aload_n hx hb dX3_readNumbers_72 rfl (lv_at hl 4 rfl) ?_
            refine lv_iload_n hx hb dX3_readNumbers_73 rfl (lv_at hl 0 rfl) ?_
            obtain ⟨r15, hu, h⟩ := bnd_h h
            refine kc_i (kV hC (c_X5_letterAt l dC dI cc q8 q9 o1_length o1_letters ((j1 + 1) + 1) H.size r15 hu) cv_X3_51 kw317 rfl rfl ⟨(Nat.le_of_ble_eq_true rfl), (Nat.le_of_ble_eq_true rfl)⟩ hP [2, 3] rfl rfl rfl (q0 := 2) rfl (As := [.int ((j1 + 1) + 1)]) (rest := []) rfl rfl hl.1 (Nat.le_of_ble_eq_true rfl) dX3_readNumbers_74 ⟨Nat.zero_le _, Nat.zero_le _⟩) hP hA [2, 3] rfl rfl (fun H locs hP => ?_)
            have hP : PD (dC, dI) A s.heap [(q0, .inr (3, [.ref q1, .ref q3, .ref q6, .ref q7, .int (j2 + 1)])), (q7, .inl (cc 0, 4, .inl w14)), (q8, .inr (5, [.ref q9, .int o1_length])), (q9, .inl (cc 1, 200, .inl o1_letters))] H locs := hP
            refine lv_istore (lv' := [(7, .int r15), (3, .int ((j1 + 1) + 1)), (5, .int ((r6 * 10) + r8)), (6, .int r8), (0, .ref q0), (1, .ref q8), (4, .int j2)]) hx hb dX3_readNumbers_77 hl (by decide) rfl (fun ls hl => ?_)
            refine lv_iinc (v := (((j1 + 1) + 1) + 1)) (lv' := [(3, .int (((j1 + 1) + 1) + 1)), (7, .int r15), (5, .int ((r6 * 10) + r8)), (6, .int r8), (0, .ref q0), (1, .ref q8), (4, .int j2)]) hx hb dX3_readNumbers_79 hl (k := 1) rfl rfl (by decide) rfl (fun ls hl => ?_)
            refine lv_iload hx hb dX3_readNumbers_82 (lv_at hl 1 rfl) ?_
            refine lv_bipush (v := 59) hx hb dX3_readNumbers_84 (by decide) ?_
            refine lv_icmp_ne (tgt := 91) hx hb dX3_readNumbers_86 (by decide) (fun c16 => ?_) (fun c16 => ?_)
            · have h := if_f c16 h
              refine lv_iload hx hb dX3_readNumbers_91 (lv_at hl 1 rfl) ?_
              refine lv_bipush (v := 44) hx hb dX3_readNumbers_93 (by decide) ?_
              refine lv_icmp_eq (tgt := 100) hx hb dX3_readNumbers_95 (by decide) (fun c17 => ?_) (fun c17 => ?_)
              · have h := if_t c17 h
                refine lv_iinc (v := (j2 + 1)) (lv' := [(4, .int (j2 + 1)), (3, .int (((j1 + 1) + 1) + 1)), (7, .int r15), (5, .int ((r6 * 10) + r8)), (6, .int r8), (0, .ref q0), (1, .ref q8)]) hx hb dX3_readNumbers_100 hl (k := 6) rfl rfl (by decide) rfl (fun ls hl => ?_)
                refine lv_goto (tgt := 5) hx hb dX3_readNumbers_103 (by decide) ?_
                exact ih _ _ _ _ _ (lp_n h hz) H locs ls hP (lv_sub hl [5, 6, 1, 0] rfl) KK KR
              · have h := if_f c17 h
                refine lv_iconst (v := -1) hx hb dX3_readNumbers_98 (by decide) ?_
                rw [eZ]
                exact ret_i hC hr hlk hP dX3_readNumbers_99 (w14, (j2 + 1)) (Prod.mk.inj (KR _ (lp_e h hz).symm)) rfl
            · have h := if_t c16 h
              refine lv_iload_n hx hb dX3_readNumbers_89 rfl (lv_at hl 0 rfl) ?_
              rw [eZ]
              exact ret_i hC hr hlk hP dX3_readNumbers_90 (w14, (j2 + 1)) (Prod.mk.inj (KR _ (lp_e h hz).symm)) rfl
        · have h := if_f c7 h
          refine lv_iconst (v := -1) hx hb dX3_readNumbers_23 (by decide) ?_
          rw [eZ]
          exact ret_i hC hr hlk hP dX3_readNumbers_24 (w4, w3) (Prod.mk.inj (KR _ (lp_e h hz).symm)) rfl
  refine L1 FU _ _ _ _ z hlp H locs ls hP (lv_sub hl [2, 3, 1, 0] rfl) (fun j1x j2x w3x w4x e H locs ls hP hl => ?_) (fun q e => Option.some.inj (hj q e))
  have h := hk _ e
  refine lv_iconst (v := -1) hx hb dX3_readNumbers_106 (by decide) ?_
  rw [eZ]
  exact ret_i hC hr hlk hP dX3_readNumbers_107 (w4x, w3x) (Prod.mk.inj (Option.some.inj h)) rfl
set_option maxHeartbeats 8000000 in
set_option maxRecDepth 100000 in
theorem c_X3_takeClog (l : Launch) (dC : Nat → ClassId) (dI : Nat → Nat → Nat) (cc : Nat → ClassId) (q0 q1 q3 q6 q7 q2 : Nat) (told : Int32) (shelf_clogs : Int32) (shelf_day : Int32) (shelf_cells : (Nat → Int32)) (numbers : (Nat → Int32)) (sz : Nat) (ret : Int32) (o_shelf_cells : (Nat → Int32)) (o_shelf_clogs : Int32) (hu : f_X3_takeClog told shelf_clogs shelf_day shelf_cells numbers = some (ret, o_shelf_cells, o_shelf_clogs)) : Met l yX3_takeClog (mw yX3_takeClog cX3_takeClog 1 (some .boolean)) ({ frames := 2, cells := 0, slots := 0, locals := 47 } : Room) (va_Pc [.ref q0] (mP (dC, dI) (ts cc) sz [(q0, .inr (3, [.ref q1, .ref q3, .ref q6, .ref q7, .int told])), (q1, .inr (4, [.ref q2, .int shelf_clogs, .int shelf_day])), (q2, .inl (cc 0, 50, .inl shelf_cells)), (q7, .inl (cc 0, 4, .inl numbers))])) ((fun A => va_Qi (fun (r : Int32) (w : (Nat → Int32) × Int32) => narrow .boolean (.int r) = .int r ∧ (r = ret ∧ w = (o_shelf_cells, o_shelf_clogs))) (fun (w : (Nat → Int32) × Int32) t => va_P (dC, dI) classes [(q0, .inr (3, [.ref q1, .ref q3, .ref q6, .ref q7, .int told])), (q1, .inr (4, [.ref q2, .int w.2, .int shelf_day])), (q2, .inl (cc 0, 50, .inl w.1)), (q7, .inl (cc 0, 4, .inl numbers))] t.heap) A) (va_A [(q0, .inr (3, [.ref q1, .ref q3, .ref q6, .ref q7, .int told])), (q1, .inr (4, [.ref q2, .int shelf_clogs, .int shelf_day])), (q2, .inl (cc 0, 50, .inl shelf_cells)), (q7, .inl (cc 0, 4, .inl numbers))] sz)) 0 0 (va_A [(q0, .inr (3, [.ref q1, .ref q3, .ref q6, .ref q7, .int told])), (q1, .inr (4, [.ref q2, .int shelf_clogs, .int shelf_day])), (q2, .inl (cc 0, 50, .inl shelf_cells)), (q7, .inl (cc 0, 4, .inl numbers))] sz) := by
  refine met_go (Qc := fun A => va_Qi (fun (r : Int32) (w : (Nat → Int32) × Int32) => narrow .boolean (.int r) = .int r ∧ (r = ret ∧ w = (o_shelf_cells, o_shelf_clogs))) (fun (w : (Nat → Int32) × Int32) t => va_P (dC, dI) classes [(q0, .inr (3, [.ref q1, .ref q3, .ref q6, .ref q7, .int told])), (q1, .inr (4, [.ref q2, .int w.2, .int shelf_day])), (q2, .inl (cc 0, 50, .inl w.1)), (q7, .inl (cc 0, 4, .inl numbers))] t.heap) A) (by decide) (Nat.le_of_ble_eq_true rfl) ?_
  intro p e s m below meth c A ls H locs hC hr hlk hin hA hP hl _
  have hC : CX p m c cX3_takeClog 1 s ([.ref q0] : List Value).toArray RX3 (dC, dI) (ts cc) := hC
  have hx := hC.1.1
  have hb := hC.1.2
  have h := hu
  have hu0 := hu
  unfold f_X3_takeClog at h
  have hl : lv_has ls 1 [(0, .ref q0)] := hl
  refine lv_aload_n hx hb dX3_takeClog_0 rfl (lv_at hl 0 rfl) ?_
  refine g_get hC hP fg_X3_66 0 rfl rfl dX3_takeClog_1 ?_
  refine lv_iconst (v := 4) hx hb dX3_takeClog_4 (by decide) ?_
  refine lv_icmp_ne (tgt := 58) hx hb dX3_takeClog_5 (by decide) (fun c1 => ?_) (fun c1 => ?_)
  · have h := if_f c1 h
    refine lv_iconst (v := 0) hx hb dX3_takeClog_58 (by decide) ?_
    exact ret_z hC hr rfl hlk hP dX3_takeClog_59 (shelf_cells, shelf_clogs) (Prod.mk.inj (Option.some.inj h)) rfl
  · have h := if_t c1 h
    refine lv_aload_n hx hb dX3_takeClog_8 rfl (lv_at hl 0 rfl) ?_
    refine g_get hC hP fg_X3_12 0 rfl rfl dX3_takeClog_9 ?_
    refine g_get hC hP fg_X3_85 1 rfl rfl dX3_takeClog_12 ?_
    refine lv_bipush (v := 10) hx hb dX3_takeClog_15 (by decide) ?_
    refine lv_icmp_ge (tgt := 58) hx hb dX3_takeClog_17 (by decide) (fun c2 => ?_) (fun c2 => ?_)
    · have h := if_t c2 h
      refine lv_iconst (v := 0) hx hb dX3_takeClog_58 (by decide) ?_
      exact ret_z hC hr rfl hlk hP dX3_takeClog_59 (shelf_cells, shelf_clogs) (Prod.mk.inj (Option.some.inj h)) rfl
    · have h := if_f c2 h
      refine lv_aload_n hx hb dX3_takeClog_20 rfl (lv_at hl 0 rfl) ?_
      refine g_get hC hP fg_X3_32 0 rfl rfl dX3_takeClog_21 ?_
      refine lv_iconst (v := 0) hx hb dX3_takeClog_24 (by decide) ?_
      obtain ⟨r3, hu, h⟩ := bnd_h h
      refine kc_i (kN hC (c_X9_at l dC dI cc q7 4 numbers 0 H.size r3 hu) cn_X3_88 kw332 rfl rfl ⟨(Nat.le_of_ble_eq_true rfl), (Nat.le_of_ble_eq_true rfl)⟩ hP [3] rfl rfl (As := [.ref q7, .int 0]) (rest := []) rfl rfl hl.1 (Nat.le_of_ble_eq_true rfl) dX3_takeClog_25 ⟨Nat.zero_le _, Nat.zero_le _⟩) hP hA [3] rfl rfl (fun H locs hP => ?_)
      have hP : PD (dC, dI) A s.heap [(q0, .inr (3, [.ref q1, .ref q3, .ref q6, .ref q7, .int told])), (q1, .inr (4, [.ref q2, .int shelf_clogs, .int shelf_day])), (q2, .inl (cc 0, 50, .inl shelf_cells)), (q7, .inl (cc 0, 4, .inl numbers))] H locs := hP
      refine lv_aload_n hx hb dX3_takeClog_28 rfl (lv_at hl 0 rfl) ?_
      refine g_get hC hP fg_X3_32 0 rfl rfl dX3_takeClog_29 ?_
      refine lv_iconst (v := 1) hx hb dX3_takeClog_32 (by decide) ?_
      obtain ⟨r4, hu, h⟩ := bnd_h h
      refine kc_i (kN hC (c_X9_at l dC dI cc q7 4 numbers 1 H.size r4 hu) cn_X3_88 kw332 rfl rfl ⟨(Nat.le_of_ble_eq_true rfl), (Nat.le_of_ble_eq_true rfl)⟩ hP [3] rfl rfl (As := [.ref q7, .int 1]) (rest := [.int r3]) rfl rfl hl.1 (Nat.le_of_ble_eq_true rfl) dX3_takeClog_33 ⟨Nat.zero_le _, Nat.zero_le _⟩) hP hA [3] rfl rfl (fun H locs hP => ?_)
      have hP : PD (dC, dI) A s.heap [(q0, .inr (3, [.ref q1, .ref q3, .ref q6, .ref q7, .int told])), (q1, .inr (4, [.ref q2, .int shelf_clogs, .int shelf_day])), (q2, .inl (cc 0, 50, .inl shelf_cells)), (q7, .inl (cc 0, 4, .inl numbers))] H locs := hP
      refine lv_aload_n hx hb dX3_takeClog_36 rfl (lv_at hl 0 rfl) ?_
      refine g_get hC hP fg_X3_32 0 rfl rfl dX3_takeClog_37 ?_
      refine lv_iconst (v := 2) hx hb dX3_takeClog_40 (by decide) ?_
      obtain ⟨r5, hu, h⟩ := bnd_h h
      refine kc_i (kN hC (c_X9_at l dC dI cc q7 4 numbers 2 H.size r5 hu) cn_X3_88 kw332 rfl rfl ⟨(Nat.le_of_ble_eq_true rfl), (Nat.le_of_ble_eq_true rfl)⟩ hP [3] rfl rfl (As := [.ref q7, .int 2]) (rest := [.int r4, .int r3]) rfl rfl hl.1 (Nat.le_of_ble_eq_true rfl) dX3_takeClog_41 ⟨Nat.zero_le _, Nat.zero_le _⟩) hP hA [3] rfl rfl (fun H locs hP => ?_)
      have hP : PD (dC, dI) A s.heap [(q0, .inr (3, [.ref q1, .ref q3, .ref q6, .ref q7, .int told])), (q1, .inr (4, [.ref q2, .int shelf_clogs, .int shelf_day])), (q2, .inl (cc 0, 50, .inl shelf_cells)), (q7, .inl (cc 0, 4, .inl numbers))] H locs := hP
      refine lv_aload_n hx hb dX3_takeClog_44 rfl (lv_at hl 0 rfl) ?_
      refine g_get hC hP fg_X3_32 0 rfl rfl dX3_takeClog_45 ?_
      refine lv_iconst (v := 3) hx hb dX3_takeClog_48 (by decide) ?_
      obtain ⟨r6, hu, h⟩ := bnd_h h
      refine kc_i (kN hC (c_X9_at l dC dI cc q7 4 numbers 3 H.size r6 hu) cn_X3_88 kw332 rfl rfl ⟨(Nat.le_of_ble_eq_true rfl), (Nat.le_of_ble_eq_true rfl)⟩ hP [3] rfl rfl (As := [.ref q7, .int 3]) (rest := [.int r5, .int r4, .int r3]) rfl rfl hl.1 (Nat.le_of_ble_eq_true rfl) dX3_takeClog_49 ⟨Nat.zero_le _, Nat.zero_le _⟩) hP hA [3] rfl rfl (fun H locs hP => ?_)
      have hP : PD (dC, dI) A s.heap [(q0, .inr (3, [.ref q1, .ref q3, .ref q6, .ref q7, .int told])), (q1, .inr (4, [.ref q2, .int shelf_clogs, .int shelf_day])), (q2, .inl (cc 0, 50, .inl shelf_cells)), (q7, .inl (cc 0, 4, .inl numbers))] H locs := hP
      obtain ⟨r7, hu, h⟩ := bnd_h h
      refine kc_z (kN hC (c_X9_isClog l dC dI cc r3 r4 r5 r6 H.size r7 hu) cn_X3_92 kw335 rfl rfl ⟨(Nat.le_of_ble_eq_true rfl), (Nat.le_of_ble_eq_true rfl)⟩ hP [] rfl rfl (As := [.int r3, .int r4, .int r5, .int r6]) (rest := []) rfl rfl hl.1 (Nat.le_of_ble_eq_true rfl) dX3_takeClog_52 ⟨Nat.zero_le _, Nat.zero_le _⟩) hP hA [] rfl rfl (fun hz_r7 H locs hP => ?_)
      have hP : PD (dC, dI) A s.heap [(q0, .inr (3, [.ref q1, .ref q3, .ref q6, .ref q7, .int told])), (q1, .inr (4, [.ref q2, .int shelf_clogs, .int shelf_day])), (q2, .inl (cc 0, 50, .inl shelf_cells)), (q7, .inl (cc 0, 4, .inl numbers))] H locs := hP
      refine lv_if_ne (tgt := 60) hx hb dX3_takeClog_55 (by decide) (fun c8 => ?_) (fun c8 => ?_)
      · have h := if_f c8 h
        refine lv_aload_n hx hb dX3_takeClog_60 rfl (lv_at hl 0 rfl) ?_
        refine g_get hC hP fg_X3_12 0 rfl rfl dX3_takeClog_61 ?_
        refine lv_aload_n hx hb dX3_takeClog_64 rfl (lv_at hl 0 rfl) ?_
        refine g_get hC hP fg_X3_32 0 rfl rfl dX3_takeClog_65 ?_
        refine lv_iconst (v := 0) hx hb dX3_takeClog_68 (by decide) ?_
        obtain ⟨r9, hu, h⟩ := bnd_h h
        refine kc_i (kN hC (c_X9_at l dC dI cc q7 4 numbers 0 H.size r9 hu) cn_X3_88 kw332 rfl rfl ⟨(Nat.le_of_ble_eq_true rfl), (Nat.le_of_ble_eq_true rfl)⟩ hP [3] rfl rfl (As := [.ref q7, .int 0]) (rest := [.ref q1]) rfl rfl hl.1 (Nat.le_of_ble_eq_true rfl) dX3_takeClog_69 ⟨Nat.zero_le _, Nat.zero_le _⟩) hP hA [3] rfl rfl (fun H locs hP => ?_)
        have hP : PD (dC, dI) A s.heap [(q0, .inr (3, [.ref q1, .ref q3, .ref q6, .ref q7, .int told])), (q1, .inr (4, [.ref q2, .int shelf_clogs, .int shelf_day])), (q2, .inl (cc 0, 50, .inl shelf_cells)), (q7, .inl (cc 0, 4, .inl numbers))] H locs := hP
        refine lv_aload_n hx hb dX3_takeClog_72 rfl (lv_at hl 0 rfl) ?_
        refine g_get hC hP fg_X3_32 0 rfl rfl dX3_takeClog_73 ?_
        refine lv_iconst (v := 1) hx hb dX3_takeClog_76 (by decide) ?_
        obtain ⟨r10, hu, h⟩ := bnd_h h
        refine kc_i (kN hC (c_X9_at l dC dI cc q7 4 numbers 1 H.size r10 hu) cn_X3_88 kw332 rfl rfl ⟨(Nat.le_of_ble_eq_true rfl), (Nat.le_of_ble_eq_true rfl)⟩ hP [3] rfl rfl (As := [.ref q7, .int 1]) (rest := [.int r9, .ref q1]) rfl rfl hl.1 (Nat.le_of_ble_eq_true rfl) dX3_takeClog_77 ⟨Nat.zero_le _, Nat.zero_le _⟩) hP hA [3] rfl rfl (fun H locs hP => ?_)
        have hP : PD (dC, dI) A s.heap [(q0, .inr (3, [.ref q1, .ref q3, .ref q6, .ref q7, .int told])), (q1, .inr (4, [.ref q2, .int shelf_clogs, .int shelf_day])), (q2, .inl (cc 0, 50, .inl shelf_cells)), (q7, .inl (cc 0, 4, .inl numbers))] H locs := hP
        refine lv_aload_n hx hb dX3_takeClog_80 rfl (lv_at hl 0 rfl) ?_
        refine g_get hC hP fg_X3_32 0 rfl rfl dX3_takeClog_81 ?_
        refine lv_iconst (v := 2) hx hb dX3_takeClog_84 (by decide) ?_
        obtain ⟨r11, hu, h⟩ := bnd_h h
        refine kc_i (kN hC (c_X9_at l dC dI cc q7 4 numbers 2 H.size r11 hu) cn_X3_88 kw332 rfl rfl ⟨(Nat.le_of_ble_eq_true rfl), (Nat.le_of_ble_eq_true rfl)⟩ hP [3] rfl rfl (As := [.ref q7, .int 2]) (rest := [.int r10, .int r9, .ref q1]) rfl rfl hl.1 (Nat.le_of_ble_eq_true rfl) dX3_takeClog_85 ⟨Nat.zero_le _, Nat.zero_le _⟩) hP hA [3] rfl rfl (fun H locs hP => ?_)
        have hP : PD (dC, dI) A s.heap [(q0, .inr (3, [.ref q1, .ref q3, .ref q6, .ref q7, .int told])), (q1, .inr (4, [.ref q2, .int shelf_clogs, .int shelf_day])), (q2, .inl (cc 0, 50, .inl shelf_cells)), (q7, .inl (cc 0, 4, .inl numbers))] H locs := hP
        refine lv_aload_n hx hb dX3_takeClog_88 rfl (lv_at hl 0 rfl) ?_
        refine g_get hC hP fg_X3_32 0 rfl rfl dX3_takeClog_89 ?_
        refine lv_iconst (v := 3) hx hb dX3_takeClog_92 (by decide) ?_
        obtain ⟨r12, hu, h⟩ := bnd_h h
        refine kc_i (kN hC (c_X9_at l dC dI cc q7 4 numbers 3 H.size r12 hu) cn_X3_88 kw332 rfl rfl ⟨(Nat.le_of_ble_eq_true rfl), (Nat.le_of_ble_eq_true rfl)⟩ hP [3] rfl rfl (As := [.ref q7, .int 3]) (rest := [.int r11, .int r10, .int r9, .ref q1]) rfl rfl hl.1 (Nat.le_of_ble_eq_true rfl) dX3_takeClog_93 ⟨Nat.zero_le _, Nat.zero_le _⟩) hP hA [3] rfl rfl (fun H locs hP => ?_)
        have hP : PD (dC, dI) A s.heap [(q0, .inr (3, [.ref q1, .ref q3, .ref q6, .ref q7, .int told])), (q1, .inr (4, [.ref q2, .int shelf_clogs, .int shelf_day])), (q2, .inl (cc 0, 50, .inl shelf_cells)), (q7, .inl (cc 0, 4, .inl numbers))] H locs := hP
        obtain ⟨⟨w13, w14⟩, hu, h⟩ := bnd_h h
        refine kc_v (kV hC (c_X4_add l dC dI cc q1 q2 shelf_clogs shelf_day shelf_cells r9 r10 r11 r12 H.size w13 w14 hu) cv_X3_96 kw345 rfl rfl ⟨(Nat.le_of_ble_eq_true rfl), (Nat.le_of_ble_eq_true rfl)⟩ hP [1, 2] rfl rfl rfl (q0 := 1) rfl (As := [.int r9, .int r10, .int r11, .int r12]) (rest := []) rfl rfl hl.1 (Nat.le_of_ble_eq_true rfl) dX3_takeClog_96 ⟨Nat.zero_le _, Nat.zero_le _⟩) hP hA [1, 2] rfl rfl (fun H locs hP => ?_)
        have hP : PD (dC, dI) A s.heap [(q0, .inr (3, [.ref q1, .ref q3, .ref q6, .ref q7, .int told])), (q1, .inr (4, [.ref q2, .int w14, .int shelf_day])), (q2, .inl (cc 0, 50, .inl w13)), (q7, .inl (cc 0, 4, .inl numbers))] H locs := hP
        refine lv_iconst (v := 1) hx hb dX3_takeClog_99 (by decide) ?_
        exact ret_z hC hr rfl hlk hP dX3_takeClog_100 (w13, w14) (Prod.mk.inj (Option.some.inj h)) rfl
      · have h := if_t c8 h
        refine lv_iconst (v := 0) hx hb dX3_takeClog_58 (by decide) ?_
        exact ret_z hC hr rfl hlk hP dX3_takeClog_59 (shelf_cells, shelf_clogs) (Prod.mk.inj (Option.some.inj h)) rfl
set_option maxHeartbeats 8000000 in
set_option maxRecDepth 100000 in
theorem c_X3_takeFeet (l : Launch) (dC : Nat → ClassId) (dI : Nat → Nat → Nat) (cc : Nat → ClassId) (q0 q1 q3 q6 q7 q4 q5 : Nat) (told : Int32) (waiting_number : Int32) (waiting_stocking : Int32) (waiting_lefts : (Nat → Int32)) (waiting_rights : (Nat → Int32)) (numbers : (Nat → Int32)) (sz : Nat) (ret : Int32) (o_waiting_lefts : (Nat → Int32)) (o_waiting_rights : (Nat → Int32)) (o_waiting_number : Int32) (hu : f_X3_takeFeet told waiting_number waiting_lefts waiting_rights numbers = some (ret, o_waiting_lefts, o_waiting_rights, o_waiting_number)) : Met l yX3_takeFeet (mw yX3_takeFeet cX3_takeFeet 1 (some .boolean)) ({ frames := 2, cells := 0, slots := 0, locals := 44 } : Room) (va_Pc [.ref q0] (mP (dC, dI) (ts cc) sz [(q0, .inr (3, [.ref q1, .ref q3, .ref q6, .ref q7, .int told])), (q3, .inr (6, [.ref q4, .ref q5, .int waiting_number, .int waiting_stocking])), (q4, .inl (cc 0, 5, .inl waiting_lefts)), (q5, .inl (cc 0, 5, .inl waiting_rights)), (q7, .inl (cc 0, 4, .inl numbers))])) ((fun A => va_Qi (fun (r : Int32) (w : (Nat → Int32) × (Nat → Int32) × Int32) => narrow .boolean (.int r) = .int r ∧ (r = ret ∧ w = (o_waiting_lefts, o_waiting_rights, o_waiting_number))) (fun (w : (Nat → Int32) × (Nat → Int32) × Int32) t => va_P (dC, dI) classes [(q0, .inr (3, [.ref q1, .ref q3, .ref q6, .ref q7, .int told])), (q3, .inr (6, [.ref q4, .ref q5, .int w.2.2, .int waiting_stocking])), (q4, .inl (cc 0, 5, .inl w.1)), (q5, .inl (cc 0, 5, .inl w.2.1)), (q7, .inl (cc 0, 4, .inl numbers))] t.heap) A) (va_A [(q0, .inr (3, [.ref q1, .ref q3, .ref q6, .ref q7, .int told])), (q3, .inr (6, [.ref q4, .ref q5, .int waiting_number, .int waiting_stocking])), (q4, .inl (cc 0, 5, .inl waiting_lefts)), (q5, .inl (cc 0, 5, .inl waiting_rights)), (q7, .inl (cc 0, 4, .inl numbers))] sz)) 0 0 (va_A [(q0, .inr (3, [.ref q1, .ref q3, .ref q6, .ref q7, .int told])), (q3, .inr (6, [.ref q4, .ref q5, .int waiting_number, .int waiting_stocking])), (q4, .inl (cc 0, 5, .inl waiting_lefts)), (q5, .inl (cc 0, 5, .inl waiting_rights)), (q7, .inl (cc 0, 4, .inl numbers))] sz) := by
  refine met_go (Qc := fun A => va_Qi (fun (r : Int32) (w : (Nat → Int32) × (Nat → Int32) × Int32) => narrow .boolean (.int r) = .int r ∧ (r = ret ∧ w = (o_waiting_lefts, o_waiting_rights, o_waiting_number))) (fun (w : (Nat → Int32) × (Nat → Int32) × Int32) t => va_P (dC, dI) classes [(q0, .inr (3, [.ref q1, .ref q3, .ref q6, .ref q7, .int told])), (q3, .inr (6, [.ref q4, .ref q5, .int w.2.2, .int waiting_stocking])), (q4, .inl (cc 0, 5, .inl w.1)), (q5, .inl (cc 0, 5, .inl w.2.1)), (q7, .inl (cc 0, 4, .inl numbers))] t.heap) A) (by decide) (Nat.le_of_ble_eq_true rfl) ?_
  intro p e s m below meth c A ls H locs hC hr hlk hin hA hP hl _
  have hC : CX p m c cX3_takeFeet 1 s ([.ref q0] : List Value).toArray RX3 (dC, dI) (ts cc) := hC
  have hx := hC.1.1
  have hb := hC.1.2
  have h := hu
  have hu0 := hu
  unfold f_X3_takeFeet at h
  have hl : lv_has ls 1 [(0, .ref q0)] := hl
  refine lv_aload_n hx hb dX3_takeFeet_0 rfl (lv_at hl 0 rfl) ?_
  refine g_get hC hP fg_X3_66 0 rfl rfl dX3_takeFeet_1 ?_
  refine lv_iconst (v := 2) hx hb dX3_takeFeet_4 (by decide) ?_
  refine lv_icmp_ne (tgt := 55) hx hb dX3_takeFeet_5 (by decide) (fun c1 => ?_) (fun c1 => ?_)
  · have h := if_f c1 h
    refine lv_iconst (v := 0) hx hb dX3_takeFeet_55 (by decide) ?_
    exact ret_z hC hr rfl hlk hP dX3_takeFeet_56 (waiting_lefts, waiting_rights, waiting_number) (Prod.mk.inj (Option.some.inj h)) rfl
  · have h := if_t c1 h
    refine lv_aload_n hx hb dX3_takeFeet_8 rfl (lv_at hl 0 rfl) ?_
    refine g_get hC hP fg_X3_21 0 rfl rfl dX3_takeFeet_9 ?_
    refine g_get hC hP fg_X3_100 1 rfl rfl dX3_takeFeet_12 ?_
    refine lv_iconst (v := 5) hx hb dX3_takeFeet_15 (by decide) ?_
    refine lv_icmp_ge (tgt := 55) hx hb dX3_takeFeet_16 (by decide) (fun c2 => ?_) (fun c2 => ?_)
    · have h := if_t c2 h
      refine lv_iconst (v := 0) hx hb dX3_takeFeet_55 (by decide) ?_
      exact ret_z hC hr rfl hlk hP dX3_takeFeet_56 (waiting_lefts, waiting_rights, waiting_number) (Prod.mk.inj (Option.some.inj h)) rfl
    · have h := if_f c2 h
      refine lv_aload_n hx hb dX3_takeFeet_19 rfl (lv_at hl 0 rfl) ?_
      refine g_get hC hP fg_X3_32 0 rfl rfl dX3_takeFeet_20 ?_
      refine lv_iconst (v := 0) hx hb dX3_takeFeet_23 (by decide) ?_
      obtain ⟨r3, hu, h⟩ := bnd_h h
      refine kc_i (kN hC (c_X9_at l dC dI cc q7 4 numbers 0 H.size r3 hu) cn_X3_88 kw332 rfl rfl ⟨(Nat.le_of_ble_eq_true rfl), (Nat.le_of_ble_eq_true rfl)⟩ hP [4] rfl rfl (As := [.ref q7, .int 0]) (rest := []) rfl rfl hl.1 (Nat.le_of_ble_eq_true rfl) dX3_takeFeet_24 ⟨Nat.zero_le _, Nat.zero_le _⟩) hP hA [4] rfl rfl (fun H locs hP => ?_)
      have hP : PD (dC, dI) A s.heap [(q0, .inr (3, [.ref q1, .ref q3, .ref q6, .ref q7, .int told])), (q3, .inr (6, [.ref q4, .ref q5, .int waiting_number, .int waiting_stocking])), (q4, .inl (cc 0, 5, .inl waiting_lefts)), (q5, .inl (cc 0, 5, .inl waiting_rights)), (q7, .inl (cc 0, 4, .inl numbers))] H locs := hP
      refine lv_bipush (v := 10) hx hb dX3_takeFeet_27 (by decide) ?_
      refine lv_bipush (v := 72) hx hb dX3_takeFeet_29 (by decide) ?_
      obtain ⟨r4, hu, h⟩ := bnd_h h
      refine kc_z (kN hC (c_X9_within l dC dI cc r3 10 72 H.size r4 hu) cn_X3_103 kw338 rfl rfl ⟨(Nat.le_of_ble_eq_true rfl), (Nat.le_of_ble_eq_true rfl)⟩ hP [] rfl rfl (As := [.int r3, .int 10, .int 72]) (rest := []) rfl rfl hl.1 (Nat.le_of_ble_eq_true rfl) dX3_takeFeet_31 ⟨Nat.zero_le _, Nat.zero_le _⟩) hP hA [] rfl rfl (fun hz_r4 H locs hP => ?_)
      have hP : PD (dC, dI) A s.heap [(q0, .inr (3, [.ref q1, .ref q3, .ref q6, .ref q7, .int told])), (q3, .inr (6, [.ref q4, .ref q5, .int waiting_number, .int waiting_stocking])), (q4, .inl (cc 0, 5, .inl waiting_lefts)), (q5, .inl (cc 0, 5, .inl waiting_rights)), (q7, .inl (cc 0, 4, .inl numbers))] H locs := hP
      refine lv_if_eq (tgt := 55) hx hb dX3_takeFeet_34 (by decide) (fun c5 => ?_) (fun c5 => ?_)
      · have h := if_t c5 h
        refine lv_iconst (v := 0) hx hb dX3_takeFeet_55 (by decide) ?_
        exact ret_z hC hr rfl hlk hP dX3_takeFeet_56 (waiting_lefts, waiting_rights, waiting_number) (Prod.mk.inj (Option.some.inj h)) rfl
      · have h := if_f c5 h
        refine lv_aload_n hx hb dX3_takeFeet_37 rfl (lv_at hl 0 rfl) ?_
        refine g_get hC hP fg_X3_32 0 rfl rfl dX3_takeFeet_38 ?_
        refine lv_iconst (v := 1) hx hb dX3_takeFeet_41 (by decide) ?_
        obtain ⟨r6, hu, h⟩ := bnd_h h
        refine kc_i (kN hC (c_X9_at l dC dI cc q7 4 numbers 1 H.size r6 hu) cn_X3_88 kw332 rfl rfl ⟨(Nat.le_of_ble_eq_true rfl), (Nat.le_of_ble_eq_true rfl)⟩ hP [4] rfl rfl (As := [.ref q7, .int 1]) (rest := []) rfl rfl hl.1 (Nat.le_of_ble_eq_true rfl) dX3_takeFeet_42 ⟨Nat.zero_le _, Nat.zero_le _⟩) hP hA [4] rfl rfl (fun H locs hP => ?_)
        have hP : PD (dC, dI) A s.heap [(q0, .inr (3, [.ref q1, .ref q3, .ref q6, .ref q7, .int told])), (q3, .inr (6, [.ref q4, .ref q5, .int waiting_number, .int waiting_stocking])), (q4, .inl (cc 0, 5, .inl waiting_lefts)), (q5, .inl (cc 0, 5, .inl waiting_rights)), (q7, .inl (cc 0, 4, .inl numbers))] H locs := hP
        refine lv_bipush (v := 10) hx hb dX3_takeFeet_45 (by decide) ?_
        refine lv_bipush (v := 72) hx hb dX3_takeFeet_47 (by decide) ?_
        obtain ⟨r7, hu, h⟩ := bnd_h h
        refine kc_z (kN hC (c_X9_within l dC dI cc r6 10 72 H.size r7 hu) cn_X3_103 kw338 rfl rfl ⟨(Nat.le_of_ble_eq_true rfl), (Nat.le_of_ble_eq_true rfl)⟩ hP [] rfl rfl (As := [.int r6, .int 10, .int 72]) (rest := []) rfl rfl hl.1 (Nat.le_of_ble_eq_true rfl) dX3_takeFeet_49 ⟨Nat.zero_le _, Nat.zero_le _⟩) hP hA [] rfl rfl (fun hz_r7 H locs hP => ?_)
        have hP : PD (dC, dI) A s.heap [(q0, .inr (3, [.ref q1, .ref q3, .ref q6, .ref q7, .int told])), (q3, .inr (6, [.ref q4, .ref q5, .int waiting_number, .int waiting_stocking])), (q4, .inl (cc 0, 5, .inl waiting_lefts)), (q5, .inl (cc 0, 5, .inl waiting_rights)), (q7, .inl (cc 0, 4, .inl numbers))] H locs := hP
        refine lv_if_ne (tgt := 57) hx hb dX3_takeFeet_52 (by decide) (fun c8 => ?_) (fun c8 => ?_)
        · have h := if_f c8 h
          refine lv_aload_n hx hb dX3_takeFeet_57 rfl (lv_at hl 0 rfl) ?_
          refine g_get hC hP fg_X3_21 0 rfl rfl dX3_takeFeet_58 ?_
          refine lv_aload_n hx hb dX3_takeFeet_61 rfl (lv_at hl 0 rfl) ?_
          refine g_get hC hP fg_X3_32 0 rfl rfl dX3_takeFeet_62 ?_
          refine lv_iconst (v := 0) hx hb dX3_takeFeet_65 (by decide) ?_
          obtain ⟨r9, hu, h⟩ := bnd_h h
          refine kc_i (kN hC (c_X9_at l dC dI cc q7 4 numbers 0 H.size r9 hu) cn_X3_88 kw332 rfl rfl ⟨(Nat.le_of_ble_eq_true rfl), (Nat.le_of_ble_eq_true rfl)⟩ hP [4] rfl rfl (As := [.ref q7, .int 0]) (rest := [.ref q3]) rfl rfl hl.1 (Nat.le_of_ble_eq_true rfl) dX3_takeFeet_66 ⟨Nat.zero_le _, Nat.zero_le _⟩) hP hA [4] rfl rfl (fun H locs hP => ?_)
          have hP : PD (dC, dI) A s.heap [(q0, .inr (3, [.ref q1, .ref q3, .ref q6, .ref q7, .int told])), (q3, .inr (6, [.ref q4, .ref q5, .int waiting_number, .int waiting_stocking])), (q4, .inl (cc 0, 5, .inl waiting_lefts)), (q5, .inl (cc 0, 5, .inl waiting_rights)), (q7, .inl (cc 0, 4, .inl numbers))] H locs := hP
          refine lv_aload_n hx hb dX3_takeFeet_69 rfl (lv_at hl 0 rfl) ?_
          refine g_get hC hP fg_X3_32 0 rfl rfl dX3_takeFeet_70 ?_
          refine lv_iconst (v := 1) hx hb dX3_takeFeet_73 (by decide) ?_
          obtain ⟨r10, hu, h⟩ := bnd_h h
          refine kc_i (kN hC (c_X9_at l dC dI cc q7 4 numbers 1 H.size r10 hu) cn_X3_88 kw332 rfl rfl ⟨(Nat.le_of_ble_eq_true rfl), (Nat.le_of_ble_eq_true rfl)⟩ hP [4] rfl rfl (As := [.ref q7, .int 1]) (rest := [.int r9, .ref q3]) rfl rfl hl.1 (Nat.le_of_ble_eq_true rfl) dX3_takeFeet_74 ⟨Nat.zero_le _, Nat.zero_le _⟩) hP hA [4] rfl rfl (fun H locs hP => ?_)
          have hP : PD (dC, dI) A s.heap [(q0, .inr (3, [.ref q1, .ref q3, .ref q6, .ref q7, .int told])), (q3, .inr (6, [.ref q4, .ref q5, .int waiting_number, .int waiting_stocking])), (q4, .inl (cc 0, 5, .inl waiting_lefts)), (q5, .inl (cc 0, 5, .inl waiting_rights)), (q7, .inl (cc 0, 4, .inl numbers))] H locs := hP
          obtain ⟨⟨w11, w12, w13⟩, hu, h⟩ := bnd_h h
          refine kc_v (kV hC (c_X6_add l dC dI cc q3 q4 q5 waiting_number waiting_stocking waiting_lefts waiting_rights r9 r10 H.size w11 w12 w13 hu) cv_X3_107 kw355 rfl rfl ⟨(Nat.le_of_ble_eq_true rfl), (Nat.le_of_ble_eq_true rfl)⟩ hP [1, 2, 3] rfl rfl rfl (q0 := 1) rfl (As := [.int r9, .int r10]) (rest := []) rfl rfl hl.1 (Nat.le_of_ble_eq_true rfl) dX3_takeFeet_77 ⟨Nat.zero_le _, Nat.zero_le _⟩) hP hA [1, 2, 3] rfl rfl (fun H locs hP => ?_)
          have hP : PD (dC, dI) A s.heap [(q0, .inr (3, [.ref q1, .ref q3, .ref q6, .ref q7, .int told])), (q3, .inr (6, [.ref q4, .ref q5, .int w13, .int waiting_stocking])), (q4, .inl (cc 0, 5, .inl w11)), (q5, .inl (cc 0, 5, .inl w12)), (q7, .inl (cc 0, 4, .inl numbers))] H locs := hP
          refine lv_iconst (v := 1) hx hb dX3_takeFeet_80 (by decide) ?_
          exact ret_z hC hr rfl hlk hP dX3_takeFeet_81 (w11, w12, w13) (Prod.mk.inj (Option.some.inj h)) rfl
        · have h := if_t c8 h
          refine lv_iconst (v := 0) hx hb dX3_takeFeet_55 (by decide) ?_
          exact ret_z hC hr rfl hlk hP dX3_takeFeet_56 (waiting_lefts, waiting_rights, waiting_number) (Prod.mk.inj (Option.some.inj h)) rfl
set_option maxHeartbeats 8000000 in
set_option maxRecDepth 100000 in
theorem c_X3_takeLog (l : Launch) (dC : Nat → ClassId) (dI : Nat → Nat → Nat) (cc : Nat → ClassId) (q0 q1 q3 q6 q7 : Nat) (told : Int32) (log_length : Int32) (log_block : Int32) (log_knots : Int64) (numbers : (Nat → Int32)) (sz : Nat) (ret : Int32) (o_log_length : Int32) (o_log_block : Int32) (hu : f_X3_takeLog told log_length log_block numbers = some (ret, o_log_length, o_log_block)) : Met l yX3_takeLog (mw yX3_takeLog cX3_takeLog 1 (some .boolean)) ({ frames := 1, cells := 0, slots := 0, locals := 22 } : Room) (va_Pc [.ref q0] (mP (dC, dI) (ts cc) sz [(q0, .inr (3, [.ref q1, .ref q3, .ref q6, .ref q7, .int told])), (q6, .inr (0, [.int log_length, .int log_block, .long log_knots])), (q7, .inl (cc 0, 4, .inl numbers))])) ((fun A => va_Qi (fun (r : Int32) (w : Int32 × Int32) => narrow .boolean (.int r) = .int r ∧ (r = ret ∧ w = (o_log_length, o_log_block))) (fun (w : Int32 × Int32) t => va_P (dC, dI) classes [(q0, .inr (3, [.ref q1, .ref q3, .ref q6, .ref q7, .int told])), (q6, .inr (0, [.int w.1, .int w.2, .long log_knots])), (q7, .inl (cc 0, 4, .inl numbers))] t.heap) A) (va_A [(q0, .inr (3, [.ref q1, .ref q3, .ref q6, .ref q7, .int told])), (q6, .inr (0, [.int log_length, .int log_block, .long log_knots])), (q7, .inl (cc 0, 4, .inl numbers))] sz)) 0 0 (va_A [(q0, .inr (3, [.ref q1, .ref q3, .ref q6, .ref q7, .int told])), (q6, .inr (0, [.int log_length, .int log_block, .long log_knots])), (q7, .inl (cc 0, 4, .inl numbers))] sz) := by
  refine met_go (Qc := fun A => va_Qi (fun (r : Int32) (w : Int32 × Int32) => narrow .boolean (.int r) = .int r ∧ (r = ret ∧ w = (o_log_length, o_log_block))) (fun (w : Int32 × Int32) t => va_P (dC, dI) classes [(q0, .inr (3, [.ref q1, .ref q3, .ref q6, .ref q7, .int told])), (q6, .inr (0, [.int w.1, .int w.2, .long log_knots])), (q7, .inl (cc 0, 4, .inl numbers))] t.heap) A) (by decide) (Nat.le_of_ble_eq_true rfl) ?_
  intro p e s m below meth c A ls H locs hC hr hlk hin hA hP hl _
  have hC : CX p m c cX3_takeLog 1 s ([.ref q0] : List Value).toArray RX3 (dC, dI) (ts cc) := hC
  have hx := hC.1.1
  have hb := hC.1.2
  have h := hu
  have hu0 := hu
  unfold f_X3_takeLog at h
  have hl : lv_has ls 1 [(0, .ref q0)] := hl
  refine lv_aload_n hx hb dX3_takeLog_0 rfl (lv_at hl 0 rfl) ?_
  refine g_get hC hP fg_X3_66 0 rfl rfl dX3_takeLog_1 ?_
  refine lv_iconst (v := 2) hx hb dX3_takeLog_4 (by decide) ?_
  refine lv_icmp_ne (tgt := 42) hx hb dX3_takeLog_5 (by decide) (fun c1 => ?_) (fun c1 => ?_)
  · have h := if_f c1 h
    refine lv_iconst (v := 0) hx hb dX3_takeLog_42 (by decide) ?_
    exact ret_z hC hr rfl hlk hP dX3_takeLog_43 (log_length, log_block) (Prod.mk.inj (Option.some.inj h)) rfl
  · have h := if_t c1 h
    refine lv_aload_n hx hb dX3_takeLog_8 rfl (lv_at hl 0 rfl) ?_
    refine g_get hC hP fg_X3_32 0 rfl rfl dX3_takeLog_9 ?_
    refine lv_iconst (v := 0) hx hb dX3_takeLog_12 (by decide) ?_
    obtain ⟨r2, hu, h⟩ := bnd_h h
    refine kc_i (kN hC (c_X9_at l dC dI cc q7 4 numbers 0 H.size r2 hu) cn_X3_88 kw332 rfl rfl ⟨(Nat.le_of_ble_eq_true rfl), (Nat.le_of_ble_eq_true rfl)⟩ hP [2] rfl rfl (As := [.ref q7, .int 0]) (rest := []) rfl rfl hl.1 (Nat.le_of_ble_eq_true rfl) dX3_takeLog_13 ⟨Nat.zero_le _, Nat.zero_le _⟩) hP hA [2] rfl rfl (fun H locs hP => ?_)
    have hP : PD (dC, dI) A s.heap [(q0, .inr (3, [.ref q1, .ref q3, .ref q6, .ref q7, .int told])), (q6, .inr (0, [.int log_length, .int log_block, .long log_knots])), (q7, .inl (cc 0, 4, .inl numbers))] H locs := hP
    refine lv_iconst (v := 1) hx hb dX3_takeLog_16 (by decide) ?_
    refine lv_bipush (v := 40) hx hb dX3_takeLog_17 (by decide) ?_
    obtain ⟨r3, hu, h⟩ := bnd_h h
    refine kc_z (kN hC (c_X9_within l dC dI cc r2 1 40 H.size r3 hu) cn_X3_103 kw338 rfl rfl ⟨(Nat.le_of_ble_eq_true rfl), (Nat.le_of_ble_eq_true rfl)⟩ hP [] rfl rfl (As := [.int r2, .int 1, .int 40]) (rest := []) rfl rfl hl.1 (Nat.le_of_ble_eq_true rfl) dX3_takeLog_19 ⟨Nat.zero_le _, Nat.zero_le _⟩) hP hA [] rfl rfl (fun hz_r3 H locs hP => ?_)
    have hP : PD (dC, dI) A s.heap [(q0, .inr (3, [.ref q1, .ref q3, .ref q6, .ref q7, .int told])), (q6, .inr (0, [.int log_length, .int log_block, .long log_knots])), (q7, .inl (cc 0, 4, .inl numbers))] H locs := hP
    refine lv_if_eq (tgt := 42) hx hb dX3_takeLog_22 (by decide) (fun c4 => ?_) (fun c4 => ?_)
    · have h := if_t c4 h
      refine lv_iconst (v := 0) hx hb dX3_takeLog_42 (by decide) ?_
      exact ret_z hC hr rfl hlk hP dX3_takeLog_43 (log_length, log_block) (Prod.mk.inj (Option.some.inj h)) rfl
    · have h := if_f c4 h
      refine lv_aload_n hx hb dX3_takeLog_25 rfl (lv_at hl 0 rfl) ?_
      refine g_get hC hP fg_X3_32 0 rfl rfl dX3_takeLog_26 ?_
      refine lv_iconst (v := 1) hx hb dX3_takeLog_29 (by decide) ?_
      obtain ⟨r5, hu, h⟩ := bnd_h h
      refine kc_i (kN hC (c_X9_at l dC dI cc q7 4 numbers 1 H.size r5 hu) cn_X3_88 kw332 rfl rfl ⟨(Nat.le_of_ble_eq_true rfl), (Nat.le_of_ble_eq_true rfl)⟩ hP [2] rfl rfl (As := [.ref q7, .int 1]) (rest := []) rfl rfl hl.1 (Nat.le_of_ble_eq_true rfl) dX3_takeLog_30 ⟨Nat.zero_le _, Nat.zero_le _⟩) hP hA [2] rfl rfl (fun H locs hP => ?_)
      have hP : PD (dC, dI) A s.heap [(q0, .inr (3, [.ref q1, .ref q3, .ref q6, .ref q7, .int told])), (q6, .inr (0, [.int log_length, .int log_block, .long log_knots])), (q7, .inl (cc 0, 4, .inl numbers))] H locs := hP
      refine lv_iconst (v := 2) hx hb dX3_takeLog_33 (by decide) ?_
      refine lv_bipush (v := 9) hx hb dX3_takeLog_34 (by decide) ?_
      obtain ⟨r6, hu, h⟩ := bnd_h h
      refine kc_z (kN hC (c_X9_within l dC dI cc r5 2 9 H.size r6 hu) cn_X3_103 kw338 rfl rfl ⟨(Nat.le_of_ble_eq_true rfl), (Nat.le_of_ble_eq_true rfl)⟩ hP [] rfl rfl (As := [.int r5, .int 2, .int 9]) (rest := []) rfl rfl hl.1 (Nat.le_of_ble_eq_true rfl) dX3_takeLog_36 ⟨Nat.zero_le _, Nat.zero_le _⟩) hP hA [] rfl rfl (fun hz_r6 H locs hP => ?_)
      have hP : PD (dC, dI) A s.heap [(q0, .inr (3, [.ref q1, .ref q3, .ref q6, .ref q7, .int told])), (q6, .inr (0, [.int log_length, .int log_block, .long log_knots])), (q7, .inl (cc 0, 4, .inl numbers))] H locs := hP
      refine lv_if_ne (tgt := 44) hx hb dX3_takeLog_39 (by decide) (fun c7 => ?_) (fun c7 => ?_)
      · have h := if_f c7 h
        refine lv_aload_n hx hb dX3_takeLog_44 rfl (lv_at hl 0 rfl) ?_
        refine g_get hC hP fg_X3_28 0 rfl rfl dX3_takeLog_45 ?_
        refine lv_aload_n hx hb dX3_takeLog_48 rfl (lv_at hl 0 rfl) ?_
        refine g_get hC hP fg_X3_32 0 rfl rfl dX3_takeLog_49 ?_
        refine lv_iconst (v := 0) hx hb dX3_takeLog_52 (by decide) ?_
        obtain ⟨r8, hu, h⟩ := bnd_h h
        refine kc_i (kN hC (c_X9_at l dC dI cc q7 4 numbers 0 H.size r8 hu) cn_X3_88 kw332 rfl rfl ⟨(Nat.le_of_ble_eq_true rfl), (Nat.le_of_ble_eq_true rfl)⟩ hP [2] rfl rfl (As := [.ref q7, .int 0]) (rest := [.ref q6]) rfl rfl hl.1 (Nat.le_of_ble_eq_true rfl) dX3_takeLog_53 ⟨Nat.zero_le _, Nat.zero_le _⟩) hP hA [2] rfl rfl (fun H locs hP => ?_)
        have hP : PD (dC, dI) A s.heap [(q0, .inr (3, [.ref q1, .ref q3, .ref q6, .ref q7, .int told])), (q6, .inr (0, [.int log_length, .int log_block, .long log_knots])), (q7, .inl (cc 0, 4, .inl numbers))] H locs := hP
        refine g_put hC hP fg_X3_110 1 rfl rfl rfl (Nat.le_of_ble_eq_true rfl) dX3_takeLog_56 (fun H locs hP => ?_)
        have hP : PD (dC, dI) A s.heap [(q0, .inr (3, [.ref q1, .ref q3, .ref q6, .ref q7, .int told])), (q6, .inr (0, [.int r8, .int log_block, .long log_knots])), (q7, .inl (cc 0, 4, .inl numbers))] H locs := hP
        refine lv_aload_n hx hb dX3_takeLog_59 rfl (lv_at hl 0 rfl) ?_
        refine g_get hC hP fg_X3_28 0 rfl rfl dX3_takeLog_60 ?_
        refine lv_aload_n hx hb dX3_takeLog_63 rfl (lv_at hl 0 rfl) ?_
        refine g_get hC hP fg_X3_32 0 rfl rfl dX3_takeLog_64 ?_
        refine lv_iconst (v := 1) hx hb dX3_takeLog_67 (by decide) ?_
        obtain ⟨r9, hu, h⟩ := bnd_h h
        refine kc_i (kN hC (c_X9_at l dC dI cc q7 4 numbers 1 H.size r9 hu) cn_X3_88 kw332 rfl rfl ⟨(Nat.le_of_ble_eq_true rfl), (Nat.le_of_ble_eq_true rfl)⟩ hP [2] rfl rfl (As := [.ref q7, .int 1]) (rest := [.ref q6]) rfl rfl hl.1 (Nat.le_of_ble_eq_true rfl) dX3_takeLog_68 ⟨Nat.zero_le _, Nat.zero_le _⟩) hP hA [2] rfl rfl (fun H locs hP => ?_)
        have hP : PD (dC, dI) A s.heap [(q0, .inr (3, [.ref q1, .ref q3, .ref q6, .ref q7, .int told])), (q6, .inr (0, [.int r8, .int log_block, .long log_knots])), (q7, .inl (cc 0, 4, .inl numbers))] H locs := hP
        refine g_put hC hP fg_X3_111 1 rfl rfl rfl (Nat.le_of_ble_eq_true rfl) dX3_takeLog_71 (fun H locs hP => ?_)
        have hP : PD (dC, dI) A s.heap [(q0, .inr (3, [.ref q1, .ref q3, .ref q6, .ref q7, .int told])), (q6, .inr (0, [.int r8, .int r9, .long log_knots])), (q7, .inl (cc 0, 4, .inl numbers))] H locs := hP
        refine lv_iconst (v := 1) hx hb dX3_takeLog_74 (by decide) ?_
        exact ret_z hC hr rfl hlk hP dX3_takeLog_75 (r8, r9) (Prod.mk.inj (Option.some.inj h)) rfl
      · have h := if_t c7 h
        refine lv_iconst (v := 0) hx hb dX3_takeLog_42 (by decide) ?_
        exact ret_z hC hr rfl hlk hP dX3_takeLog_43 (log_length, log_block) (Prod.mk.inj (Option.some.inj h)) rfl
set_option maxHeartbeats 8000000 in
set_option maxRecDepth 100000 in
theorem c_X3_takeKnot (l : Launch) (dC : Nat → ClassId) (dI : Nat → Nat → Nat) (cc : Nat → ClassId) (q0 q1 q3 q6 q7 : Nat) (told : Int32) (log_length : Int32) (log_block : Int32) (log_knots : Int64) (numbers : (Nat → Int32)) (sz : Nat) (ret : Int32) (o_log_knots : Int64) (hu : f_X3_takeKnot told log_knots numbers = some (ret, o_log_knots)) : Met l yX3_takeKnot (mw yX3_takeKnot cX3_takeKnot 1 (some .boolean)) ({ frames := 1, cells := 0, slots := 0, locals := 22 } : Room) (va_Pc [.ref q0] (mP (dC, dI) (ts cc) sz [(q0, .inr (3, [.ref q1, .ref q3, .ref q6, .ref q7, .int told])), (q6, .inr (0, [.int log_length, .int log_block, .long log_knots])), (q7, .inl (cc 0, 4, .inl numbers))])) ((fun A => va_Qi (fun (r : Int32) (w : Int64) => narrow .boolean (.int r) = .int r ∧ (r = ret ∧ w = o_log_knots)) (fun (w : Int64) t => va_P (dC, dI) classes [(q0, .inr (3, [.ref q1, .ref q3, .ref q6, .ref q7, .int told])), (q6, .inr (0, [.int log_length, .int log_block, .long w])), (q7, .inl (cc 0, 4, .inl numbers))] t.heap) A) (va_A [(q0, .inr (3, [.ref q1, .ref q3, .ref q6, .ref q7, .int told])), (q6, .inr (0, [.int log_length, .int log_block, .long log_knots])), (q7, .inl (cc 0, 4, .inl numbers))] sz)) 0 0 (va_A [(q0, .inr (3, [.ref q1, .ref q3, .ref q6, .ref q7, .int told])), (q6, .inr (0, [.int log_length, .int log_block, .long log_knots])), (q7, .inl (cc 0, 4, .inl numbers))] sz) := by
  refine met_go (Qc := fun A => va_Qi (fun (r : Int32) (w : Int64) => narrow .boolean (.int r) = .int r ∧ (r = ret ∧ w = o_log_knots)) (fun (w : Int64) t => va_P (dC, dI) classes [(q0, .inr (3, [.ref q1, .ref q3, .ref q6, .ref q7, .int told])), (q6, .inr (0, [.int log_length, .int log_block, .long w])), (q7, .inl (cc 0, 4, .inl numbers))] t.heap) A) (by decide) (Nat.le_of_ble_eq_true rfl) ?_
  intro p e s m below meth c A ls H locs hC hr hlk hin hA hP hl _
  have hC : CX p m c cX3_takeKnot 1 s ([.ref q0] : List Value).toArray RX3 (dC, dI) (ts cc) := hC
  have hx := hC.1.1
  have hb := hC.1.2
  have h := hu
  have hu0 := hu
  unfold f_X3_takeKnot at h
  have hl : lv_has ls 1 [(0, .ref q0)] := hl
  refine lv_aload_n hx hb dX3_takeKnot_0 rfl (lv_at hl 0 rfl) ?_
  refine g_get hC hP fg_X3_66 0 rfl rfl dX3_takeKnot_1 ?_
  refine lv_iconst (v := 1) hx hb dX3_takeKnot_4 (by decide) ?_
  refine lv_icmp_ne (tgt := 25) hx hb dX3_takeKnot_5 (by decide) (fun c1 => ?_) (fun c1 => ?_)
  · have h := if_f c1 h
    refine lv_iconst (v := 0) hx hb dX3_takeKnot_25 (by decide) ?_
    exact ret_z hC hr rfl hlk hP dX3_takeKnot_26 log_knots (Prod.mk.inj (Option.some.inj h)) rfl
  · have h := if_t c1 h
    refine lv_aload_n hx hb dX3_takeKnot_8 rfl (lv_at hl 0 rfl) ?_
    refine g_get hC hP fg_X3_32 0 rfl rfl dX3_takeKnot_9 ?_
    refine lv_iconst (v := 0) hx hb dX3_takeKnot_12 (by decide) ?_
    obtain ⟨r2, hu, h⟩ := bnd_h h
    refine kc_i (kN hC (c_X9_at l dC dI cc q7 4 numbers 0 H.size r2 hu) cn_X3_88 kw332 rfl rfl ⟨(Nat.le_of_ble_eq_true rfl), (Nat.le_of_ble_eq_true rfl)⟩ hP [2] rfl rfl (As := [.ref q7, .int 0]) (rest := []) rfl rfl hl.1 (Nat.le_of_ble_eq_true rfl) dX3_takeKnot_13 ⟨Nat.zero_le _, Nat.zero_le _⟩) hP hA [2] rfl rfl (fun H locs hP => ?_)
    have hP : PD (dC, dI) A s.heap [(q0, .inr (3, [.ref q1, .ref q3, .ref q6, .ref q7, .int told])), (q6, .inr (0, [.int log_length, .int log_block, .long log_knots])), (q7, .inl (cc 0, 4, .inl numbers))] H locs := hP
    refine lv_iconst (v := 0) hx hb dX3_takeKnot_16 (by decide) ?_
    refine lv_bipush (v := 39) hx hb dX3_takeKnot_17 (by decide) ?_
    obtain ⟨r3, hu, h⟩ := bnd_h h
    refine kc_z (kN hC (c_X9_within l dC dI cc r2 0 39 H.size r3 hu) cn_X3_103 kw338 rfl rfl ⟨(Nat.le_of_ble_eq_true rfl), (Nat.le_of_ble_eq_true rfl)⟩ hP [] rfl rfl (As := [.int r2, .int 0, .int 39]) (rest := []) rfl rfl hl.1 (Nat.le_of_ble_eq_true rfl) dX3_takeKnot_19 ⟨Nat.zero_le _, Nat.zero_le _⟩) hP hA [] rfl rfl (fun hz_r3 H locs hP => ?_)
    have hP : PD (dC, dI) A s.heap [(q0, .inr (3, [.ref q1, .ref q3, .ref q6, .ref q7, .int told])), (q6, .inr (0, [.int log_length, .int log_block, .long log_knots])), (q7, .inl (cc 0, 4, .inl numbers))] H locs := hP
    refine lv_if_ne (tgt := 27) hx hb dX3_takeKnot_22 (by decide) (fun c4 => ?_) (fun c4 => ?_)
    · have h := if_f c4 h
      refine lv_aload_n hx hb dX3_takeKnot_27 rfl (lv_at hl 0 rfl) ?_
      refine g_get hC hP fg_X3_28 0 rfl rfl dX3_takeKnot_28 ?_
      refine lv_dup hx hb dX3_takeKnot_31 rfl ?_
      refine g_get hC hP fg_X3_114 1 rfl rfl dX3_takeKnot_32 ?_
      refine lv_lconst (v := 1) hx hb dX3_takeKnot_35 (by decide) ?_
      refine lv_aload_n hx hb dX3_takeKnot_36 rfl (lv_at hl 0 rfl) ?_
      refine g_get hC hP fg_X3_32 0 rfl rfl dX3_takeKnot_37 ?_
      refine lv_iconst (v := 0) hx hb dX3_takeKnot_40 (by decide) ?_
      obtain ⟨r5, hu, h⟩ := bnd_h h
      refine kc_i (kN hC (c_X9_at l dC dI cc q7 4 numbers 0 H.size r5 hu) cn_X3_88 kw332 rfl rfl ⟨(Nat.le_of_ble_eq_true rfl), (Nat.le_of_ble_eq_true rfl)⟩ hP [2] rfl rfl (As := [.ref q7, .int 0]) (rest := [.long 1, .long log_knots, .ref q6]) rfl rfl hl.1 (Nat.le_of_ble_eq_true rfl) dX3_takeKnot_41 ⟨Nat.zero_le _, Nat.zero_le _⟩) hP hA [2] rfl rfl (fun H locs hP => ?_)
      have hP : PD (dC, dI) A s.heap [(q0, .inr (3, [.ref q1, .ref q3, .ref q6, .ref q7, .int told])), (q6, .inr (0, [.int log_length, .int log_block, .long log_knots])), (q7, .inl (cc 0, 4, .inl numbers))] H locs := hP
      refine lv_lshl hx hb dX3_takeKnot_44 rfl ?_
      refine lv_lor hx hb dX3_takeKnot_45 ?_
      refine lv_topl (fun v6 ev => ?_)
      have h := nm_h ev h
      refine g_put hC hP fg_X3_114 1 rfl rfl rfl (Nat.le_of_ble_eq_true rfl) dX3_takeKnot_46 (fun H locs hP => ?_)
      have hP : PD (dC, dI) A s.heap [(q0, .inr (3, [.ref q1, .ref q3, .ref q6, .ref q7, .int told])), (q6, .inr (0, [.int log_length, .int log_block, .long v6])), (q7, .inl (cc 0, 4, .inl numbers))] H locs := hP
      refine lv_iconst (v := 1) hx hb dX3_takeKnot_49 (by decide) ?_
      exact ret_z hC hr rfl hlk hP dX3_takeKnot_50 v6 (Prod.mk.inj (Option.some.inj h)) rfl
    · have h := if_t c4 h
      refine lv_iconst (v := 0) hx hb dX3_takeKnot_25 (by decide) ?_
      exact ret_z hC hr rfl hlk hP dX3_takeKnot_26 log_knots (Prod.mk.inj (Option.some.inj h)) rfl
set_option maxHeartbeats 8000000 in
set_option maxRecDepth 100000 in
theorem c_X3_takeStocking (l : Launch) (dC : Nat → ClassId) (dI : Nat → Nat → Nat) (cc : Nat → ClassId) (q0 q1 q3 q6 q7 q4 q5 : Nat) (told : Int32) (waiting_number : Int32) (waiting_stocking : Int32) (numbers : (Nat → Int32)) (sz : Nat) (ret : Int32) (o_waiting_stocking : Int32) (hu : f_X3_takeStocking told waiting_stocking numbers = some (ret, o_waiting_stocking)) : Met l yX3_takeStocking (mw yX3_takeStocking cX3_takeStocking 1 (some .boolean)) ({ frames := 1, cells := 0, slots := 0, locals := 22 } : Room) (va_Pc [.ref q0] (mP (dC, dI) (ts cc) sz [(q0, .inr (3, [.ref q1, .ref q3, .ref q6, .ref q7, .int told])), (q3, .inr (6, [.ref q4, .ref q5, .int waiting_number, .int waiting_stocking])), (q7, .inl (cc 0, 4, .inl numbers))])) ((fun A => va_Qi (fun (r : Int32) (w : Int32) => narrow .boolean (.int r) = .int r ∧ (r = ret ∧ w = o_waiting_stocking)) (fun (w : Int32) t => va_P (dC, dI) classes [(q0, .inr (3, [.ref q1, .ref q3, .ref q6, .ref q7, .int told])), (q3, .inr (6, [.ref q4, .ref q5, .int waiting_number, .int w])), (q7, .inl (cc 0, 4, .inl numbers))] t.heap) A) (va_A [(q0, .inr (3, [.ref q1, .ref q3, .ref q6, .ref q7, .int told])), (q3, .inr (6, [.ref q4, .ref q5, .int waiting_number, .int waiting_stocking])), (q7, .inl (cc 0, 4, .inl numbers))] sz)) 0 0 (va_A [(q0, .inr (3, [.ref q1, .ref q3, .ref q6, .ref q7, .int told])), (q3, .inr (6, [.ref q4, .ref q5, .int waiting_number, .int waiting_stocking])), (q7, .inl (cc 0, 4, .inl numbers))] sz) := by
  refine met_go (Qc := fun A => va_Qi (fun (r : Int32) (w : Int32) => narrow .boolean (.int r) = .int r ∧ (r = ret ∧ w = o_waiting_stocking)) (fun (w : Int32) t => va_P (dC, dI) classes [(q0, .inr (3, [.ref q1, .ref q3, .ref q6, .ref q7, .int told])), (q3, .inr (6, [.ref q4, .ref q5, .int waiting_number, .int w])), (q7, .inl (cc 0, 4, .inl numbers))] t.heap) A) (by decide) (Nat.le_of_ble_eq_true rfl) ?_
  intro p e s m below meth c A ls H locs hC hr hlk hin hA hP hl _
  have hC : CX p m c cX3_takeStocking 1 s ([.ref q0] : List Value).toArray RX3 (dC, dI) (ts cc) := hC
  have hx := hC.1.1
  have hb := hC.1.2
  have h := hu
  have hu0 := hu
  unfold f_X3_takeStocking at h
  have hl : lv_has ls 1 [(0, .ref q0)] := hl
  refine lv_aload_n hx hb dX3_takeStocking_0 rfl (lv_at hl 0 rfl) ?_
  refine g_get hC hP fg_X3_66 0 rfl rfl dX3_takeStocking_1 ?_
  refine lv_iconst (v := 1) hx hb dX3_takeStocking_4 (by decide) ?_
  refine lv_icmp_ne (tgt := 25) hx hb dX3_takeStocking_5 (by decide) (fun c1 => ?_) (fun c1 => ?_)
  · have h := if_f c1 h
    refine lv_iconst (v := 0) hx hb dX3_takeStocking_25 (by decide) ?_
    exact ret_z hC hr rfl hlk hP dX3_takeStocking_26 waiting_stocking (Prod.mk.inj (Option.some.inj h)) rfl
  · have h := if_t c1 h
    refine lv_aload_n hx hb dX3_takeStocking_8 rfl (lv_at hl 0 rfl) ?_
    refine g_get hC hP fg_X3_32 0 rfl rfl dX3_takeStocking_9 ?_
    refine lv_iconst (v := 0) hx hb dX3_takeStocking_12 (by decide) ?_
    obtain ⟨r2, hu, h⟩ := bnd_h h
    refine kc_i (kN hC (c_X9_at l dC dI cc q7 4 numbers 0 H.size r2 hu) cn_X3_88 kw332 rfl rfl ⟨(Nat.le_of_ble_eq_true rfl), (Nat.le_of_ble_eq_true rfl)⟩ hP [2] rfl rfl (As := [.ref q7, .int 0]) (rest := []) rfl rfl hl.1 (Nat.le_of_ble_eq_true rfl) dX3_takeStocking_13 ⟨Nat.zero_le _, Nat.zero_le _⟩) hP hA [2] rfl rfl (fun H locs hP => ?_)
    have hP : PD (dC, dI) A s.heap [(q0, .inr (3, [.ref q1, .ref q3, .ref q6, .ref q7, .int told])), (q3, .inr (6, [.ref q4, .ref q5, .int waiting_number, .int waiting_stocking])), (q7, .inl (cc 0, 4, .inl numbers))] H locs := hP
    refine lv_iconst (v := 0) hx hb dX3_takeStocking_16 (by decide) ?_
    refine lv_bipush (v := 6) hx hb dX3_takeStocking_17 (by decide) ?_
    obtain ⟨r3, hu, h⟩ := bnd_h h
    refine kc_z (kN hC (c_X9_within l dC dI cc r2 0 6 H.size r3 hu) cn_X3_103 kw338 rfl rfl ⟨(Nat.le_of_ble_eq_true rfl), (Nat.le_of_ble_eq_true rfl)⟩ hP [] rfl rfl (As := [.int r2, .int 0, .int 6]) (rest := []) rfl rfl hl.1 (Nat.le_of_ble_eq_true rfl) dX3_takeStocking_19 ⟨Nat.zero_le _, Nat.zero_le _⟩) hP hA [] rfl rfl (fun hz_r3 H locs hP => ?_)
    have hP : PD (dC, dI) A s.heap [(q0, .inr (3, [.ref q1, .ref q3, .ref q6, .ref q7, .int told])), (q3, .inr (6, [.ref q4, .ref q5, .int waiting_number, .int waiting_stocking])), (q7, .inl (cc 0, 4, .inl numbers))] H locs := hP
    refine lv_if_ne (tgt := 27) hx hb dX3_takeStocking_22 (by decide) (fun c4 => ?_) (fun c4 => ?_)
    · have h := if_f c4 h
      refine lv_aload_n hx hb dX3_takeStocking_27 rfl (lv_at hl 0 rfl) ?_
      refine g_get hC hP fg_X3_21 0 rfl rfl dX3_takeStocking_28 ?_
      refine lv_aload_n hx hb dX3_takeStocking_31 rfl (lv_at hl 0 rfl) ?_
      refine g_get hC hP fg_X3_32 0 rfl rfl dX3_takeStocking_32 ?_
      refine lv_iconst (v := 0) hx hb dX3_takeStocking_35 (by decide) ?_
      obtain ⟨r5, hu, h⟩ := bnd_h h
      refine kc_i (kN hC (c_X9_at l dC dI cc q7 4 numbers 0 H.size r5 hu) cn_X3_88 kw332 rfl rfl ⟨(Nat.le_of_ble_eq_true rfl), (Nat.le_of_ble_eq_true rfl)⟩ hP [2] rfl rfl (As := [.ref q7, .int 0]) (rest := [.ref q3]) rfl rfl hl.1 (Nat.le_of_ble_eq_true rfl) dX3_takeStocking_36 ⟨Nat.zero_le _, Nat.zero_le _⟩) hP hA [2] rfl rfl (fun H locs hP => ?_)
      have hP : PD (dC, dI) A s.heap [(q0, .inr (3, [.ref q1, .ref q3, .ref q6, .ref q7, .int told])), (q3, .inr (6, [.ref q4, .ref q5, .int waiting_number, .int waiting_stocking])), (q7, .inl (cc 0, 4, .inl numbers))] H locs := hP
      refine g_put hC hP fg_X3_118 1 rfl rfl rfl (Nat.le_of_ble_eq_true rfl) dX3_takeStocking_39 (fun H locs hP => ?_)
      have hP : PD (dC, dI) A s.heap [(q0, .inr (3, [.ref q1, .ref q3, .ref q6, .ref q7, .int told])), (q3, .inr (6, [.ref q4, .ref q5, .int waiting_number, .int r5])), (q7, .inl (cc 0, 4, .inl numbers))] H locs := hP
      refine lv_iconst (v := 1) hx hb dX3_takeStocking_42 (by decide) ?_
      exact ret_z hC hr rfl hlk hP dX3_takeStocking_43 r5 (Prod.mk.inj (Option.some.inj h)) rfl
    · have h := if_t c4 h
      refine lv_iconst (v := 0) hx hb dX3_takeStocking_25 (by decide) ?_
      exact ret_z hC hr rfl hlk hP dX3_takeStocking_26 waiting_stocking (Prod.mk.inj (Option.some.inj h)) rfl
set_option maxHeartbeats 8000000 in
set_option maxRecDepth 100000 in
theorem c_X3_take (l : Launch) (dC : Nat → ClassId) (dI : Nat → Nat → Nat) (cc : Nat → ClassId) (q0 q1 q3 q6 q7 q2 q4 q5 : Nat) (told : Int32) (shelf_clogs : Int32) (shelf_day : Int32) (shelf_cells : (Nat → Int32)) (waiting_number : Int32) (waiting_stocking : Int32) (waiting_lefts : (Nat → Int32)) (waiting_rights : (Nat → Int32)) (log_length : Int32) (log_block : Int32) (log_knots : Int64) (numbers : (Nat → Int32)) (x1 : Int32) (sz : Nat) (ret : Int32) (o_shelf_cells : (Nat → Int32)) (o_shelf_clogs : Int32) (o_waiting_lefts : (Nat → Int32)) (o_waiting_rights : (Nat → Int32)) (o_waiting_number : Int32) (o_waiting_stocking : Int32) (o_log_length : Int32) (o_log_block : Int32) (o_log_knots : Int64) (hu : f_X3_take x1 told shelf_clogs shelf_day shelf_cells waiting_number waiting_stocking waiting_lefts waiting_rights log_length log_block log_knots numbers = some (ret, o_shelf_cells, o_shelf_clogs, o_waiting_lefts, o_waiting_rights, o_waiting_number, o_waiting_stocking, o_log_length, o_log_block, o_log_knots)) : Met l yX3_take (mw yX3_take cX3_take 2 (some .boolean)) ({ frames := 3, cells := 0, slots := 0, locals := 67 } : Room) (va_Pc [.ref q0, .int x1] (mP (dC, dI) (ts cc) sz [(q0, .inr (3, [.ref q1, .ref q3, .ref q6, .ref q7, .int told])), (q1, .inr (4, [.ref q2, .int shelf_clogs, .int shelf_day])), (q2, .inl (cc 0, 50, .inl shelf_cells)), (q3, .inr (6, [.ref q4, .ref q5, .int waiting_number, .int waiting_stocking])), (q4, .inl (cc 0, 5, .inl waiting_lefts)), (q5, .inl (cc 0, 5, .inl waiting_rights)), (q6, .inr (0, [.int log_length, .int log_block, .long log_knots])), (q7, .inl (cc 0, 4, .inl numbers))])) ((fun A => va_Qi (fun (r : Int32) (w : (Nat → Int32) × Int32 × (Nat → Int32) × (Nat → Int32) × Int32 × Int32 × Int32 × Int32 × Int64) => narrow .boolean (.int r) = .int r ∧ (r = ret ∧ w = (o_shelf_cells, o_shelf_clogs, o_waiting_lefts, o_waiting_rights, o_waiting_number, o_waiting_stocking, o_log_length, o_log_block, o_log_knots))) (fun (w : (Nat → Int32) × Int32 × (Nat → Int32) × (Nat → Int32) × Int32 × Int32 × Int32 × Int32 × Int64) t => va_P (dC, dI) classes [(q0, .inr (3, [.ref q1, .ref q3, .ref q6, .ref q7, .int told])), (q1, .inr (4, [.ref q2, .int w.2.1, .int shelf_day])), (q2, .inl (cc 0, 50, .inl w.1)), (q3, .inr (6, [.ref q4, .ref q5, .int w.2.2.2.2.1, .int w.2.2.2.2.2.1])), (q4, .inl (cc 0, 5, .inl w.2.2.1)), (q5, .inl (cc 0, 5, .inl w.2.2.2.1)), (q6, .inr (0, [.int w.2.2.2.2.2.2.1, .int w.2.2.2.2.2.2.2.1, .long w.2.2.2.2.2.2.2.2])), (q7, .inl (cc 0, 4, .inl numbers))] t.heap) A) (va_A [(q0, .inr (3, [.ref q1, .ref q3, .ref q6, .ref q7, .int told])), (q1, .inr (4, [.ref q2, .int shelf_clogs, .int shelf_day])), (q2, .inl (cc 0, 50, .inl shelf_cells)), (q3, .inr (6, [.ref q4, .ref q5, .int waiting_number, .int waiting_stocking])), (q4, .inl (cc 0, 5, .inl waiting_lefts)), (q5, .inl (cc 0, 5, .inl waiting_rights)), (q6, .inr (0, [.int log_length, .int log_block, .long log_knots])), (q7, .inl (cc 0, 4, .inl numbers))] sz)) 0 0 (va_A [(q0, .inr (3, [.ref q1, .ref q3, .ref q6, .ref q7, .int told])), (q1, .inr (4, [.ref q2, .int shelf_clogs, .int shelf_day])), (q2, .inl (cc 0, 50, .inl shelf_cells)), (q3, .inr (6, [.ref q4, .ref q5, .int waiting_number, .int waiting_stocking])), (q4, .inl (cc 0, 5, .inl waiting_lefts)), (q5, .inl (cc 0, 5, .inl waiting_rights)), (q6, .inr (0, [.int log_length, .int log_block, .long log_knots])), (q7, .inl (cc 0, 4, .inl numbers))] sz) := by
  refine met_go (Qc := fun A => va_Qi (fun (r : Int32) (w : (Nat → Int32) × Int32 × (Nat → Int32) × (Nat → Int32) × Int32 × Int32 × Int32 × Int32 × Int64) => narrow .boolean (.int r) = .int r ∧ (r = ret ∧ w = (o_shelf_cells, o_shelf_clogs, o_waiting_lefts, o_waiting_rights, o_waiting_number, o_waiting_stocking, o_log_length, o_log_block, o_log_knots))) (fun (w : (Nat → Int32) × Int32 × (Nat → Int32) × (Nat → Int32) × Int32 × Int32 × Int32 × Int32 × Int64) t => va_P (dC, dI) classes [(q0, .inr (3, [.ref q1, .ref q3, .ref q6, .ref q7, .int told])), (q1, .inr (4, [.ref q2, .int w.2.1, .int shelf_day])), (q2, .inl (cc 0, 50, .inl w.1)), (q3, .inr (6, [.ref q4, .ref q5, .int w.2.2.2.2.1, .int w.2.2.2.2.2.1])), (q4, .inl (cc 0, 5, .inl w.2.2.1)), (q5, .inl (cc 0, 5, .inl w.2.2.2.1)), (q6, .inr (0, [.int w.2.2.2.2.2.2.1, .int w.2.2.2.2.2.2.2.1, .long w.2.2.2.2.2.2.2.2])), (q7, .inl (cc 0, 4, .inl numbers))] t.heap) A) (by decide) (Nat.le_of_ble_eq_true rfl) ?_
  intro p e s m below meth c A ls H locs hC hr hlk hin hA hP hl _
  have hC : CX p m c cX3_take 2 s ([.ref q0, .int x1] : List Value).toArray RX3 (dC, dI) (ts cc) := hC
  have hx := hC.1.1
  have hb := hC.1.2
  have h := hu
  have hu0 := hu
  unfold f_X3_take at h
  have hl : lv_has ls 2 [(0, .ref q0), (1, .int x1)] := hl
  refine lv_iload_n hx hb dX3_take_0 rfl (lv_at hl 1 rfl) ?_
  by_cases c1 : x1 = 99
  · have h := if_t c1 h
    refine lv_lookup (tgt := 52) hx hb dX3_take_1 (by decide) (by first | (rw [c1]; done) | (rw [c1]; rfl)) (by decide) ?_
    refine lv_aload_n hx hb dX3_take_52 rfl (lv_at hl 0 rfl) ?_
    obtain ⟨⟨r2, w3, w4⟩, hu, h⟩ := bnd_h h
    refine kc_z (kV hC (c_X3_takeClog l dC dI cc q0 q1 q3 q6 q7 q2 told shelf_clogs shelf_day shelf_cells numbers H.size r2 w3 w4 hu) cv_X3_69 kw329 rfl rfl ⟨(Nat.le_of_ble_eq_true rfl), (Nat.le_of_ble_eq_true rfl)⟩ hP [0, 1, 2, 7] rfl rfl rfl (q0 := 0) rfl (As := []) (rest := []) rfl rfl hl.1 (Nat.le_of_ble_eq_true rfl) dX3_take_53 ⟨Nat.zero_le _, Nat.zero_le _⟩) hP hA [0, 1, 2, 7] rfl rfl (fun hz_r2 H locs hP => ?_)
    have hP : PD (dC, dI) A s.heap [(q0, .inr (3, [.ref q1, .ref q3, .ref q6, .ref q7, .int told])), (q1, .inr (4, [.ref q2, .int w4, .int shelf_day])), (q2, .inl (cc 0, 50, .inl w3)), (q3, .inr (6, [.ref q4, .ref q5, .int waiting_number, .int waiting_stocking])), (q4, .inl (cc 0, 5, .inl waiting_lefts)), (q5, .inl (cc 0, 5, .inl waiting_rights)), (q6, .inr (0, [.int log_length, .int log_block, .long log_knots])), (q7, .inl (cc 0, 4, .inl numbers))] H locs := hP
    exact ret_z hC hr hz_r2 hlk hP dX3_take_56 (w3, w4, waiting_lefts, waiting_rights, waiting_number, waiting_stocking, log_length, log_block, log_knots) (Prod.mk.inj (Option.some.inj h)) rfl
  · have h := if_f c1 h
    by_cases c5 : x1 = 102
    · have h := if_t c5 h
      refine lv_lookup (tgt := 57) hx hb dX3_take_1 (by decide) (by first | (rw [c5]; done) | (rw [c5]; rfl)) (by decide) ?_
      refine lv_aload_n hx hb dX3_take_57 rfl (lv_at hl 0 rfl) ?_
      obtain ⟨⟨r6, w7, w8, w9⟩, hu, h⟩ := bnd_h h
      refine kc_z (kV hC (c_X3_takeFeet l dC dI cc q0 q1 q3 q6 q7 q4 q5 told waiting_number waiting_stocking waiting_lefts waiting_rights numbers H.size r6 w7 w8 w9 hu) cv_X3_73 kw350 rfl rfl ⟨(Nat.le_of_ble_eq_true rfl), (Nat.le_of_ble_eq_true rfl)⟩ hP [0, 3, 4, 5, 7] rfl rfl rfl (q0 := 0) rfl (As := []) (rest := []) rfl rfl hl.1 (Nat.le_of_ble_eq_true rfl) dX3_take_58 ⟨Nat.zero_le _, Nat.zero_le _⟩) hP hA [0, 3, 4, 5, 7] rfl rfl (fun hz_r6 H locs hP => ?_)
      have hP : PD (dC, dI) A s.heap [(q0, .inr (3, [.ref q1, .ref q3, .ref q6, .ref q7, .int told])), (q1, .inr (4, [.ref q2, .int shelf_clogs, .int shelf_day])), (q2, .inl (cc 0, 50, .inl shelf_cells)), (q3, .inr (6, [.ref q4, .ref q5, .int w9, .int waiting_stocking])), (q4, .inl (cc 0, 5, .inl w7)), (q5, .inl (cc 0, 5, .inl w8)), (q6, .inr (0, [.int log_length, .int log_block, .long log_knots])), (q7, .inl (cc 0, 4, .inl numbers))] H locs := hP
      exact ret_z hC hr hz_r6 hlk hP dX3_take_61 (shelf_cells, shelf_clogs, w7, w8, w9, waiting_stocking, log_length, log_block, log_knots) (Prod.mk.inj (Option.some.inj h)) rfl
    · have h := if_f c5 h
      by_cases c10 : x1 = 103
      · have h := if_t c10 h
        refine lv_lookup (tgt := 62) hx hb dX3_take_1 (by decide) (by first | (rw [c10]; done) | (rw [c10]; rfl)) (by decide) ?_
        refine lv_aload_n hx hb dX3_take_62 rfl (lv_at hl 0 rfl) ?_
        obtain ⟨⟨r11, w12, w13⟩, hu, h⟩ := bnd_h h
        refine kc_z (kV hC (c_X3_takeLog l dC dI cc q0 q1 q3 q6 q7 told log_length log_block log_knots numbers H.size r11 w12 w13 hu) cv_X3_76 kw360 rfl rfl ⟨(Nat.le_of_ble_eq_true rfl), (Nat.le_of_ble_eq_true rfl)⟩ hP [0, 6, 7] rfl rfl rfl (q0 := 0) rfl (As := []) (rest := []) rfl rfl hl.1 (Nat.le_of_ble_eq_true rfl) dX3_take_63 ⟨Nat.zero_le _, Nat.zero_le _⟩) hP hA [0, 6, 7] rfl rfl (fun hz_r11 H locs hP => ?_)
        have hP : PD (dC, dI) A s.heap [(q0, .inr (3, [.ref q1, .ref q3, .ref q6, .ref q7, .int told])), (q1, .inr (4, [.ref q2, .int shelf_clogs, .int shelf_day])), (q2, .inl (cc 0, 50, .inl shelf_cells)), (q3, .inr (6, [.ref q4, .ref q5, .int waiting_number, .int waiting_stocking])), (q4, .inl (cc 0, 5, .inl waiting_lefts)), (q5, .inl (cc 0, 5, .inl waiting_rights)), (q6, .inr (0, [.int w12, .int w13, .long log_knots])), (q7, .inl (cc 0, 4, .inl numbers))] H locs := hP
        exact ret_z hC hr hz_r11 hlk hP dX3_take_66 (shelf_cells, shelf_clogs, waiting_lefts, waiting_rights, waiting_number, waiting_stocking, w12, w13, log_knots) (Prod.mk.inj (Option.some.inj h)) rfl
      · have h := if_f c10 h
        by_cases c14 : x1 = 107
        · have h := if_t c14 h
          refine lv_lookup (tgt := 67) hx hb dX3_take_1 (by decide) (by first | (rw [c14]; done) | (rw [c14]; rfl)) (by decide) ?_
          refine lv_aload_n hx hb dX3_take_67 rfl (lv_at hl 0 rfl) ?_
          obtain ⟨⟨r15, w16⟩, hu, h⟩ := bnd_h h
          refine kc_z (kV hC (c_X3_takeKnot l dC dI cc q0 q1 q3 q6 q7 told log_length log_block log_knots numbers H.size r15 w16 hu) cv_X3_79 kw364 rfl rfl ⟨(Nat.le_of_ble_eq_true rfl), (Nat.le_of_ble_eq_true rfl)⟩ hP [0, 6, 7] rfl rfl rfl (q0 := 0) rfl (As := []) (rest := []) rfl rfl hl.1 (Nat.le_of_ble_eq_true rfl) dX3_take_68 ⟨Nat.zero_le _, Nat.zero_le _⟩) hP hA [0, 6, 7] rfl rfl (fun hz_r15 H locs hP => ?_)
          have hP : PD (dC, dI) A s.heap [(q0, .inr (3, [.ref q1, .ref q3, .ref q6, .ref q7, .int told])), (q1, .inr (4, [.ref q2, .int shelf_clogs, .int shelf_day])), (q2, .inl (cc 0, 50, .inl shelf_cells)), (q3, .inr (6, [.ref q4, .ref q5, .int waiting_number, .int waiting_stocking])), (q4, .inl (cc 0, 5, .inl waiting_lefts)), (q5, .inl (cc 0, 5, .inl waiting_rights)), (q6, .inr (0, [.int log_length, .int log_block, .long w16])), (q7, .inl (cc 0, 4, .inl numbers))] H locs := hP
          exact ret_z hC hr hz_r15 hlk hP dX3_take_71 (shelf_cells, shelf_clogs, waiting_lefts, waiting_rights, waiting_number, waiting_stocking, log_length, log_block, w16) (Prod.mk.inj (Option.some.inj h)) rfl
        · have h := if_f c14 h
          by_cases c17 : x1 = 115
          · have h := if_t c17 h
            refine lv_lookup (tgt := 72) hx hb dX3_take_1 (by decide) (by first | (rw [c17]; done) | (rw [c17]; rfl)) (by decide) ?_
            refine lv_aload_n hx hb dX3_take_72 rfl (lv_at hl 0 rfl) ?_
            obtain ⟨⟨r18, w19⟩, hu, h⟩ := bnd_h h
            refine kc_z (kV hC (c_X3_takeStocking l dC dI cc q0 q1 q3 q6 q7 q4 q5 told waiting_number waiting_stocking numbers H.size r18 w19 hu) cv_X3_82 kw368 rfl rfl ⟨(Nat.le_of_ble_eq_true rfl), (Nat.le_of_ble_eq_true rfl)⟩ hP [0, 3, 7] rfl rfl rfl (q0 := 0) rfl (As := []) (rest := []) rfl rfl hl.1 (Nat.le_of_ble_eq_true rfl) dX3_take_73 ⟨Nat.zero_le _, Nat.zero_le _⟩) hP hA [0, 3, 7] rfl rfl (fun hz_r18 H locs hP => ?_)
            have hP : PD (dC, dI) A s.heap [(q0, .inr (3, [.ref q1, .ref q3, .ref q6, .ref q7, .int told])), (q1, .inr (4, [.ref q2, .int shelf_clogs, .int shelf_day])), (q2, .inl (cc 0, 50, .inl shelf_cells)), (q3, .inr (6, [.ref q4, .ref q5, .int waiting_number, .int w19])), (q4, .inl (cc 0, 5, .inl waiting_lefts)), (q5, .inl (cc 0, 5, .inl waiting_rights)), (q6, .inr (0, [.int log_length, .int log_block, .long log_knots])), (q7, .inl (cc 0, 4, .inl numbers))] H locs := hP
            exact ret_z hC hr hz_r18 hlk hP dX3_take_76 (shelf_cells, shelf_clogs, waiting_lefts, waiting_rights, waiting_number, w19, log_length, log_block, log_knots) (Prod.mk.inj (Option.some.inj h)) rfl
          · have h := if_f c17 h
            refine lv_lookup (tgt := 77) hx hb dX3_take_1 (by decide) (sw_out_X3_take_1 c1 c5 c10 c14 c17) (by decide) ?_
            refine lv_iconst (v := 0) hx hb dX3_take_77 (by decide) ?_
            exact ret_z hC hr rfl hlk hP dX3_take_78 (shelf_cells, shelf_clogs, waiting_lefts, waiting_rights, waiting_number, waiting_stocking, log_length, log_block, log_knots) (Prod.mk.inj (Option.some.inj h)) rfl
set_option maxHeartbeats 8000000 in
set_option maxRecDepth 100000 in
theorem c_X3_read (l : Launch) (dC : Nat → ClassId) (dI : Nat → Nat → Nat) (cc : Nat → ClassId) (q0 q1 q3 q6 q7 q2 q4 q5 q8 q9 : Nat) (told : Int32) (shelf_clogs : Int32) (shelf_day : Int32) (shelf_cells : (Nat → Int32)) (waiting_number : Int32) (waiting_stocking : Int32) (waiting_lefts : (Nat → Int32)) (waiting_rights : (Nat → Int32)) (log_length : Int32) (log_block : Int32) (log_knots : Int64) (numbers : (Nat → Int32)) (o1_length : Int32) (o1_letters : (Nat → Int32)) (sz : Nat) (ret : Int32) (o_shelf_cells : (Nat → Int32)) (o_shelf_clogs : Int32) (o_shelf_day : Int32) (o_waiting_lefts : (Nat → Int32)) (o_waiting_rights : (Nat → Int32)) (o_waiting_number : Int32) (o_waiting_stocking : Int32) (o_log_length : Int32) (o_log_block : Int32) (o_log_knots : Int64) (o_numbers : (Nat → Int32)) (o_told : Int32) (hu : f_X3_read told shelf_cells waiting_lefts waiting_rights numbers o1_length o1_letters = some (ret, o_shelf_cells, o_shelf_clogs, o_shelf_day, o_waiting_lefts, o_waiting_rights, o_waiting_number, o_waiting_stocking, o_log_length, o_log_block, o_log_knots, o_numbers, o_told)) : Met l yX3_read (mw yX3_read cX3_read 5 (some .int)) ({ frames := 4, cells := 0, slots := 0, locals := 88 } : Room) (va_Pc [.ref q0, .ref q8] (mP (dC, dI) (ts cc) sz [(q0, .inr (3, [.ref q1, .ref q3, .ref q6, .ref q7, .int told])), (q1, .inr (4, [.ref q2, .int shelf_clogs, .int shelf_day])), (q2, .inl (cc 0, 50, .inl shelf_cells)), (q3, .inr (6, [.ref q4, .ref q5, .int waiting_number, .int waiting_stocking])), (q4, .inl (cc 0, 5, .inl waiting_lefts)), (q5, .inl (cc 0, 5, .inl waiting_rights)), (q6, .inr (0, [.int log_length, .int log_block, .long log_knots])), (q7, .inl (cc 0, 4, .inl numbers)), (q8, .inr (5, [.ref q9, .int o1_length])), (q9, .inl (cc 1, 200, .inl o1_letters))])) ((fun A => va_Qi (fun (r : Int32) (w : (Nat → Int32) × Int32 × Int32 × (Nat → Int32) × (Nat → Int32) × Int32 × Int32 × Int32 × Int32 × Int64 × (Nat → Int32) × Int32) => r = ret ∧ w = (o_shelf_cells, o_shelf_clogs, o_shelf_day, o_waiting_lefts, o_waiting_rights, o_waiting_number, o_waiting_stocking, o_log_length, o_log_block, o_log_knots, o_numbers, o_told)) (fun (w : (Nat → Int32) × Int32 × Int32 × (Nat → Int32) × (Nat → Int32) × Int32 × Int32 × Int32 × Int32 × Int64 × (Nat → Int32) × Int32) t => va_P (dC, dI) classes [(q0, .inr (3, [.ref q1, .ref q3, .ref q6, .ref q7, .int w.2.2.2.2.2.2.2.2.2.2.2])), (q1, .inr (4, [.ref q2, .int w.2.1, .int w.2.2.1])), (q2, .inl (cc 0, 50, .inl w.1)), (q3, .inr (6, [.ref q4, .ref q5, .int w.2.2.2.2.2.1, .int w.2.2.2.2.2.2.1])), (q4, .inl (cc 0, 5, .inl w.2.2.2.1)), (q5, .inl (cc 0, 5, .inl w.2.2.2.2.1)), (q6, .inr (0, [.int w.2.2.2.2.2.2.2.1, .int w.2.2.2.2.2.2.2.2.1, .long w.2.2.2.2.2.2.2.2.2.1])), (q7, .inl (cc 0, 4, .inl w.2.2.2.2.2.2.2.2.2.2.1)), (q8, .inr (5, [.ref q9, .int o1_length])), (q9, .inl (cc 1, 200, .inl o1_letters))] t.heap) A) (va_A [(q0, .inr (3, [.ref q1, .ref q3, .ref q6, .ref q7, .int told])), (q1, .inr (4, [.ref q2, .int shelf_clogs, .int shelf_day])), (q2, .inl (cc 0, 50, .inl shelf_cells)), (q3, .inr (6, [.ref q4, .ref q5, .int waiting_number, .int waiting_stocking])), (q4, .inl (cc 0, 5, .inl waiting_lefts)), (q5, .inl (cc 0, 5, .inl waiting_rights)), (q6, .inr (0, [.int log_length, .int log_block, .long log_knots])), (q7, .inl (cc 0, 4, .inl numbers)), (q8, .inr (5, [.ref q9, .int o1_length])), (q9, .inl (cc 1, 200, .inl o1_letters))] sz)) 0 0 (va_A [(q0, .inr (3, [.ref q1, .ref q3, .ref q6, .ref q7, .int told])), (q1, .inr (4, [.ref q2, .int shelf_clogs, .int shelf_day])), (q2, .inl (cc 0, 50, .inl shelf_cells)), (q3, .inr (6, [.ref q4, .ref q5, .int waiting_number, .int waiting_stocking])), (q4, .inl (cc 0, 5, .inl waiting_lefts)), (q5, .inl (cc 0, 5, .inl waiting_rights)), (q6, .inr (0, [.int log_length, .int log_block, .long log_knots])), (q7, .inl (cc 0, 4, .inl numbers)), (q8, .inr (5, [.ref q9, .int o1_length])), (q9, .inl (cc 1, 200, .inl o1_letters))] sz) := by
  refine met_go (Qc := fun A => va_Qi (fun (r : Int32) (w : (Nat → Int32) × Int32 × Int32 × (Nat → Int32) × (Nat → Int32) × Int32 × Int32 × Int32 × Int32 × Int64 × (Nat → Int32) × Int32) => r = ret ∧ w = (o_shelf_cells, o_shelf_clogs, o_shelf_day, o_waiting_lefts, o_waiting_rights, o_waiting_number, o_waiting_stocking, o_log_length, o_log_block, o_log_knots, o_numbers, o_told)) (fun (w : (Nat → Int32) × Int32 × Int32 × (Nat → Int32) × (Nat → Int32) × Int32 × Int32 × Int32 × Int32 × Int64 × (Nat → Int32) × Int32) t => va_P (dC, dI) classes [(q0, .inr (3, [.ref q1, .ref q3, .ref q6, .ref q7, .int w.2.2.2.2.2.2.2.2.2.2.2])), (q1, .inr (4, [.ref q2, .int w.2.1, .int w.2.2.1])), (q2, .inl (cc 0, 50, .inl w.1)), (q3, .inr (6, [.ref q4, .ref q5, .int w.2.2.2.2.2.1, .int w.2.2.2.2.2.2.1])), (q4, .inl (cc 0, 5, .inl w.2.2.2.1)), (q5, .inl (cc 0, 5, .inl w.2.2.2.2.1)), (q6, .inr (0, [.int w.2.2.2.2.2.2.2.1, .int w.2.2.2.2.2.2.2.2.1, .long w.2.2.2.2.2.2.2.2.2.1])), (q7, .inl (cc 0, 4, .inl w.2.2.2.2.2.2.2.2.2.2.1)), (q8, .inr (5, [.ref q9, .int o1_length])), (q9, .inl (cc 1, 200, .inl o1_letters))] t.heap) A) (by decide) (Nat.le_of_ble_eq_true rfl) ?_
  intro p e s m below meth c A ls H locs hC hr hlk hin hA hP hl _
  have hC : CX p m c cX3_read 5 s ([.ref q0, .ref q8] : List Value).toArray RX3 (dC, dI) (ts cc) := hC
  have hx := hC.1.1
  have hb := hC.1.2
  have h := hu
  have hu0 := hu
  unfold f_X3_read at h
  have hl : lv_has ls 5 [(0, .ref q0), (1, .ref q8)] := hl
  refine W_abs (fun Z eZ => ?_)
  refine lv_aload_n hx hb dX3_read_0 rfl (lv_at hl 0 rfl) ?_
  refine g_get hC hP fg_X3_12 0 rfl rfl dX3_read_1 ?_
  obtain ⟨⟨w1, w2⟩, hu, h⟩ := bnd_h h
  refine kc_v (kV hC (c_X4_clear l dC dI cc q1 q2 shelf_clogs shelf_day H.size w1 w2 hu) cv_X3_36 kw297 rfl rfl ⟨(Nat.le_of_ble_eq_true rfl), (Nat.le_of_ble_eq_true rfl)⟩ hP [1] rfl rfl rfl (q0 := 1) rfl (As := []) (rest := []) rfl rfl hl.1 (Nat.le_of_ble_eq_true rfl) dX3_read_4 ⟨Nat.zero_le _, Nat.zero_le _⟩) hP hA [1] rfl rfl (fun H locs hP => ?_)
  have hP : PD (dC, dI) A s.heap [(q0, .inr (3, [.ref q1, .ref q3, .ref q6, .ref q7, .int told])), (q1, .inr (4, [.ref q2, .int w1, .int w2])), (q2, .inl (cc 0, 50, .inl shelf_cells)), (q3, .inr (6, [.ref q4, .ref q5, .int waiting_number, .int waiting_stocking])), (q4, .inl (cc 0, 5, .inl waiting_lefts)), (q5, .inl (cc 0, 5, .inl waiting_rights)), (q6, .inr (0, [.int log_length, .int log_block, .long log_knots])), (q7, .inl (cc 0, 4, .inl numbers)), (q8, .inr (5, [.ref q9, .int o1_length])), (q9, .inl (cc 1, 200, .inl o1_letters))] H locs := hP
  refine lv_aload_n hx hb dX3_read_7 rfl (lv_at hl 0 rfl) ?_
  refine g_get hC hP fg_X3_21 0 rfl rfl dX3_read_8 ?_
  obtain ⟨⟨w3, w4⟩, hu, h⟩ := bnd_h h
  refine kc_v (kV hC (c_X6_clear l dC dI cc q3 q4 q5 waiting_number waiting_stocking H.size w3 w4 hu) cv_X3_39 kw301 rfl rfl ⟨(Nat.le_of_ble_eq_true rfl), (Nat.le_of_ble_eq_true rfl)⟩ hP [3] rfl rfl rfl (q0 := 3) rfl (As := []) (rest := []) rfl rfl hl.1 (Nat.le_of_ble_eq_true rfl) dX3_read_11 ⟨Nat.zero_le _, Nat.zero_le _⟩) hP hA [3] rfl rfl (fun H locs hP => ?_)
  have hP : PD (dC, dI) A s.heap [(q0, .inr (3, [.ref q1, .ref q3, .ref q6, .ref q7, .int told])), (q1, .inr (4, [.ref q2, .int w1, .int w2])), (q2, .inl (cc 0, 50, .inl shelf_cells)), (q3, .inr (6, [.ref q4, .ref q5, .int w3, .int w4])), (q4, .inl (cc 0, 5, .inl waiting_lefts)), (q5, .inl (cc 0, 5, .inl waiting_rights)), (q6, .inr (0, [.int log_length, .int log_block, .long log_knots])), (q7, .inl (cc 0, 4, .inl numbers)), (q8, .inr (5, [.ref q9, .int o1_length])), (q9, .inl (cc 1, 200, .inl o1_letters))] H locs := hP
  refine lv_aload_n hx hb dX3_read_14 rfl (lv_at hl 0 rfl) ?_
  refine g_get hC hP fg_X3_28 0 rfl rfl dX3_read_15 ?_
  obtain ⟨⟨w5, w6, w7⟩, hu, h⟩ := bnd_h h
  refine kc_v (kV hC (c_X0_clear l dC dI cc q6 log_length log_block log_knots H.size w5 w6 w7 hu) cv_X3_40 kw305 rfl rfl ⟨(Nat.le_of_ble_eq_true rfl), (Nat.le_of_ble_eq_true rfl)⟩ hP [6] rfl rfl rfl (q0 := 6) rfl (As := []) (rest := []) rfl rfl hl.1 (Nat.le_of_ble_eq_true rfl) dX3_read_18 ⟨Nat.zero_le _, Nat.zero_le _⟩) hP hA [6] rfl rfl (fun H locs hP => ?_)
  have hP : PD (dC, dI) A s.heap [(q0, .inr (3, [.ref q1, .ref q3, .ref q6, .ref q7, .int told])), (q1, .inr (4, [.ref q2, .int w1, .int w2])), (q2, .inl (cc 0, 50, .inl shelf_cells)), (q3, .inr (6, [.ref q4, .ref q5, .int w3, .int w4])), (q4, .inl (cc 0, 5, .inl waiting_lefts)), (q5, .inl (cc 0, 5, .inl waiting_rights)), (q6, .inr (0, [.int w5, .int w6, .long w7])), (q7, .inl (cc 0, 4, .inl numbers)), (q8, .inr (5, [.ref q9, .int o1_length])), (q9, .inl (cc 1, 200, .inl o1_letters))] H locs := hP
  refine lv_aload_n hx hb dX3_read_21 rfl (lv_at hl 1 rfl) ?_
  refine lv_ifnonnull (tgt := 28) hx hb dX3_read_22 (by decide) ?_
  refine lv_iconst (v := 0) hx hb dX3_read_28 (by decide) ?_
  refine lv_istore_n (lv' := [(2, .int 0), (0, .ref q0), (1, .ref q8)]) hx hb dX3_read_29 rfl hl (by decide) rfl (fun ls hl => ?_)
  refine lv_iconst (v := 0) hx hb dX3_read_30 (by decide) ?_
  refine lv_istore_n (lv' := [(3, .int 0), (2, .int 0), (0, .ref q0), (1, .ref q8)]) hx hb dX3_read_31 rfl hl (by decide) rfl (fun ls hl => ?_)
  obtain ⟨z, hlp, hk, hj⟩ := bndE_h h
  have L1 : ∀ (n : Nat) (j8 : Int32) (j9 : Int32) (w10 : Int32) (w11 : Int32) (w12 : (Nat → Int32)) (w13 : Int32) (w14 : Int32) (w15 : (Nat → Int32)) (w16 : (Nat → Int32)) (w17 : Int32) (w18 : Int32) (w19 : Int64) (w20 : (Nat → Int32)) (z : ((Int32 × Int32 × Int32 × Int32 × (Nat → Int32) × Int32 × Int32 × (Nat → Int32) × (Nat → Int32) × Int32 × Int32 × Int64 × (Nat → Int32)) ⊕ (Int32 × (Nat → Int32) × Int32 × Int32 × (Nat → Int32) × (Nat → Int32) × Int32 × Int32 × Int32 × Int32 × Int64 × (Nat → Int32) × Int32))), lp (u13 (b_X3_read_1 o1_length o1_letters w2)) n (j8, j9, w10, w11, w12, w13, w14, w15, w16, w17, w18, w19, w20) = some z → ∀ (H : Heap) (locs : List Loc) (ls : Array Slot), PD (dC, dI) A s.heap [(q0, .inr (3, [.ref q1, .ref q3, .ref q6, .ref q7, .int w10])), (q1, .inr (4, [.ref q2, .int w11, .int w2])), (q2, .inl (cc 0, 50, .inl w12)), (q3, .inr (6, [.ref q4, .ref q5, .int w13, .int w14])), (q4, .inl (cc 0, 5, .inl w15)), (q5, .inl (cc 0, 5, .inl w16)), (q6, .inr (0, [.int w17, .int w18, .long w19])), (q7, .inl (cc 0, 4, .inl w20)), (q8, .inr (5, [.ref q9, .int o1_length])), (q9, .inl (cc 1, 200, .inl o1_letters))] H locs → lv_has ls 5 [(0, .ref q0), (1, .ref q8), (2, .int j8), (3, .int j9)] → (∀ (j8x : Int32) (j9x : Int32) (w10x : Int32) (w11x : Int32) (w12x : (Nat → Int32)) (w13x : Int32) (w14x : Int32) (w15x : (Nat → Int32)) (w16x : (Nat → Int32)) (w17x : Int32) (w18x : Int32) (w19x : Int64) (w20x : (Nat → Int32)), z = .inl (j8x, j9x, w10x, w11x, w12x, w13x, w14x, w15x, w16x, w17x, w18x, w19x, w20x) → ∀ (H : Heap) (locs : List Loc) (ls : Array Slot), PD (dC, dI) A s.heap [(q0, .inr (3, [.ref q1, .ref q3, .ref q6, .ref q7, .int w10x])), (q1, .inr (4, [.ref q2, .int w11x, .int w2])), (q2, .inl (cc 0, 50, .inl w12x)), (q3, .inr (6, [.ref q4, .ref q5, .int w13x, .int w14x])), (q4, .inl (cc 0, 5, .inl w15x)), (q5, .inl (cc 0, 5, .inl w16x)), (q6, .inr (0, [.int w17x, .int w18x, .long w19x])), (q7, .inl (cc 0, 4, .inl w20x)), (q8, .inr (5, [.ref q9, .int o1_length])), (q9, .inl (cc 1, 200, .inl o1_letters))] H locs → lv_has ls 5 [(0, .ref q0), (1, .ref q8), (2, .int j8x), (3, .int j9x)] → W p l e ({ frames := 4, cells := 0, slots := 0, locals := 88 } : Room) s m ([.ref q0, .ref q8] : List Value).toArray below meth c H locs 0 0 Z (F0 m 85 ls [])) → (∀ q, z = .inr q → q = (ret, o_shelf_cells, o_shelf_clogs, o_shelf_day, o_waiting_lefts, o_waiting_rights, o_waiting_number, o_waiting_stocking, o_log_length, o_log_block, o_log_knots, o_numbers, o_told)) → W p l e ({ frames := 4, cells := 0, slots := 0, locals := 88 } : Room) s m ([.ref q0, .ref q8] : List Value).toArray below meth c H locs 0 0 Z (F0 m 32 ls []) := by
    intro n
    induction n with
    | zero => intro j8 j9 w10 w11 w12 w13 w14 w15 w16 w17 w18 w19 w20 z h; exact (lp_0 h).elim
    | succ n ih =>
      intro j8 j9 w10 w11 w12 w13 w14 w15 w16 w17 w18 w19 w20 z h H locs ls hP hl KK KR
      obtain ⟨y, h, hz⟩ := lp_h h
      refine lv_iload_n hx hb dX3_read_32 rfl (lv_at hl 3 rfl) ?_
      refine lv_sipush (v := 200) hx hb dX3_read_33 (by decide) ?_
      refine lv_icmp_ge (tgt := 85) hx hb dX3_read_36 (by decide) (fun c21 => ?_) (fun c21 => ?_)
      · have h := if_t c21 h
        exact KK j8 j9 w10 w11 w12 w13 w14 w15 w16 w17 w18 w19 w20 (lp_e h hz).symm H locs ls hP (lv_sub hl [0, 1, 2, 3] rfl)
      · have h := if_f c21 h
        refine lv_iload_n hx hb dX3_read_39 rfl (lv_at hl 2 rfl) ?_
        refine lv_aload_n hx hb dX3_read_40 rfl (lv_at hl 1 rfl) ?_
        refine g_get hC hP fg_X3_41 8 rfl rfl dX3_read_41 ?_
        refine lv_icmp_ge (tgt := 85) hx hb dX3_read_44 (by decide) (fun c22 => ?_) (fun c22 => ?_)
        · have h := if_t c22 h
          exact KK j8 j9 w10 w11 w12 w13 w14 w15 w16 w17 w18 w19 w20 (lp_e h hz).symm H locs ls hP (lv_sub hl [0, 1, 2, 3] rfl)
        · have h := if_f c22 h
          refine lv_aload_n hx hb dX3_read_47 rfl (lv_at hl 0 rfl) ?_
          refine lv_aload_n hx hb dX3_read_48 rfl (lv_at hl 1 rfl) ?_
          refine lv_iload_n hx hb dX3_read_49 rfl (lv_at hl 2 rfl) ?_
          refine lv_iconst (v := 1) hx hb dX3_read_50 (by decide) ?_
          refine lv_iadd hx hb dX3_read_51 ?_
          obtain ⟨⟨r23, w24, w25⟩, hu, h⟩ := bnd_h h
          refine kc_i (kV hC (c_X3_readNumbers l dC dI cc q0 q1 q3 q6 q7 q8 q9 w10 w20 o1_length o1_letters (j8 + 1) H.size r23 w24 w25 hu) cv_X3_47 kw309 rfl rfl ⟨(Nat.le_of_ble_eq_true rfl), (Nat.le_of_ble_eq_true rfl)⟩ hP [0, 7, 8, 9] rfl rfl rfl (q0 := 0) rfl (As := [.ref q8, .int (j8 + 1)]) (rest := []) rfl rfl hl.1 (Nat.le_of_ble_eq_true rfl) dX3_read_52 ⟨Nat.zero_le _, Nat.zero_le _⟩) hP hA [0, 7, 8, 9] rfl rfl (fun H locs hP => ?_)
          have hP : PD (dC, dI) A s.heap [(q0, .inr (3, [.ref q1, .ref q3, .ref q6, .ref q7, .int w25])), (q1, .inr (4, [.ref q2, .int w11, .int w2])), (q2, .inl (cc 0, 50, .inl w12)), (q3, .inr (6, [.ref q4, .ref q5, .int w13, .int w14])), (q4, .inl (cc 0, 5, .inl w15)), (q5, .inl (cc 0, 5, .inl w16)), (q6, .inr (0, [.int w17, .int w18, .long w19])), (q7, .inl (cc 0, 4, .inl w24)), (q8, .inr (5, [.ref q9, .int o1_length])), (q9, .inl (cc 1, 200, .inl o1_letters))] H locs := hP
          refine lv_istore (lv' := [(4, .int r23), (0, .ref q0), (1, .ref q8), (2, .int j8), (3, .int j9)]) hx hb dX3_read_55 hl (by decide) rfl (fun ls hl => ?_)
          refine lv_iload hx hb dX3_read_57 (lv_at hl 0 rfl) ?_
          refine lv_if_lt (tgt := 74) hx hb dX3_read_59 (by decide) (fun c26 => ?_) (fun c26 => ?_)
          · have h := if_t c26 h
            refine lv_iload_n hx hb dX3_read_74 rfl (lv_at hl 3 rfl) ?_
            rw [eZ]
            exact ret_i hC hr hlk hP dX3_read_75 (w12, w11, w2, w15, w16, w13, w14, w17, w18, w19, w24, w25) (Prod.mk.inj (KR _ (lp_e h hz).symm)) rfl
          · have h := if_f c26 h
            refine lv_aload_n hx hb dX3_read_62 rfl (lv_at hl 1 rfl) ?_
            refine lv_aload_n hx hb dX3_read_63 rfl (lv_at hl 2 rfl) ?_
            refine lv_iload_n hx hb dX3_read_64 rfl (lv_at hl 3 rfl) ?_
            obtain ⟨r27, hu, h⟩ := bnd_h h
            refine kc_i (kV hC (c_X5_letterAt l dC dI cc q8 q9 o1_length o1_letters j8 H.size r27 hu) cv_X3_51 kw317 rfl rfl ⟨(Nat.le_of_ble_eq_true rfl), (Nat.le_of_ble_eq_true rfl)⟩ hP [8, 9] rfl rfl rfl (q0 := 8) rfl (As := [.int j8]) (rest := [.ref q0]) rfl rfl hl.1 (Nat.le_of_ble_eq_true rfl) dX3_read_65 ⟨Nat.zero_le _, Nat.zero_le _⟩) hP hA [8, 9] rfl rfl (fun H locs hP => ?_)
            have hP : PD (dC, dI) A s.heap [(q0, .inr (3, [.ref q1, .ref q3, .ref q6, .ref q7, .int w25])), (q1, .inr (4, [.ref q2, .int w11, .int w2])), (q2, .inl (cc 0, 50, .inl w12)), (q3, .inr (6, [.ref q4, .ref q5, .int w13, .int w14])), (q4, .inl (cc 0, 5, .inl w15)), (q5, .inl (cc 0, 5, .inl w16)), (q6, .inr (0, [.int w17, .int w18, .long w19])), (q7, .inl (cc 0, 4, .inl w24)), (q8, .inr (5, [.ref q9, .int o1_length])), (q9, .inl (cc 1, 200, .inl o1_letters))] H locs := hP
            obtain ⟨⟨r28, w29, w30, w31, w32, w33, w34, w35, w36, w37⟩, hu, h⟩ := bnd_h h
            refine kc_z (kV hC (c_X3_take l dC dI cc q0 q1 q3 q6 q7 q2 q4 q5 w25 w11 w2 w12 w13 w14 w15 w16 w17 w18 w19 w24 r27 H.size r28 w29 w30 w31 w32 w33 w34 w35 w36 w37 hu) cv_X3_55 kw325 rfl rfl ⟨(Nat.le_of_ble_eq_true rfl), (Nat.le_of_ble_eq_true rfl)⟩ hP [0, 1, 2, 3, 4, 5, 6, 7] rfl rfl rfl (q0 := 0) rfl (As := [.int r27]) (rest := []) rfl rfl hl.1 (Nat.le_of_ble_eq_true rfl) dX3_read_68 ⟨Nat.zero_le _, Nat.zero_le _⟩) hP hA [0, 1, 2, 3, 4, 5, 6, 7] rfl rfl (fun hz_r28 H locs hP => ?_)
            have hP : PD (dC, dI) A s.heap [(q0, .inr (3, [.ref q1, .ref q3, .ref q6, .ref q7, .int w25])), (q1, .inr (4, [.ref q2, .int w30, .int w2])), (q2, .inl (cc 0, 50, .inl w29)), (q3, .inr (6, [.ref q4, .ref q5, .int w33, .int w34])), (q4, .inl (cc 0, 5, .inl w31)), (q5, .inl (cc 0, 5, .inl w32)), (q6, .inr (0, [.int w35, .int w36, .long w37])), (q7, .inl (cc 0, 4, .inl w24)), (q8, .inr (5, [.ref q9, .int o1_length])), (q9, .inl (cc 1, 200, .inl o1_letters))] H locs := hP
            refine lv_if_ne (tgt := 76) hx hb dX3_read_71 (by decide) (fun c38 => ?_) (fun c38 => ?_)
            · have h := if_f c38 h
              refine lv_iload hx hb dX3_read_76 (lv_at hl 0 rfl) ?_
              refine lv_istore_n (lv' := [(2, .int r23), (4, .int r23), (0, .ref q0), (1, .ref q8), (3, .int j9)]) hx hb dX3_read_78 rfl hl (by decide) rfl (fun ls hl => ?_)
              refine lv_iinc (v := (j9 + 1)) (lv' := [(3, .int (j9 + 1)), (2, .int r23), (4, .int r23), (0, .ref q0), (1, .ref q8)]) hx hb dX3_read_79 hl (k := 4) rfl rfl (by decide) rfl (fun ls hl => ?_)
              refine lv_goto (tgt := 32) hx hb dX3_read_82 (by decide) ?_
              exact ih _ _ _ _ _ _ _ _ _ _ _ _ _ _ (lp_n h hz) H locs ls hP (lv_sub hl [3, 4, 1, 0] rfl) KK KR
            · have h := if_t c38 h
              refine lv_iload_n hx hb dX3_read_74 rfl (lv_at hl 3 rfl) ?_
              rw [eZ]
              exact ret_i hC hr hlk hP dX3_read_75 (w29, w30, w2, w31, w32, w33, w34, w35, w36, w37, w24, w25) (Prod.mk.inj (KR _ (lp_e h hz).symm)) rfl
  refine L1 FU _ _ _ _ _ _ _ _ _ _ _ _ _ z hlp H locs ls hP (lv_sub hl [2, 3, 1, 0] rfl) (fun j8x j9x w10x w11x w12x w13x w14x w15x w16x w17x w18x w19x w20x e H locs ls hP hl => ?_) (fun q e => Option.some.inj (hj q e))
  have h := hk _ e
  refine lv_bipush (v := -4) hx hb dX3_read_85 (by decide) ?_
  rw [eZ]
  exact ret_i hC hr hlk hP dX3_read_87 (w12x, w11x, w2, w15x, w16x, w13x, w14x, w17x, w18x, w19x, w20x, w10x) (Prod.mk.inj (Option.some.inj h)) rfl
