theorem arrV_cong {cI : ClassId} {N : Nat} {f g : Nat → Value} (h : ∀ j, j < N → f j = g j) : arrV cI N f = arrV cI N g := by
  unfold arrV
  congr 2
  funext j
  exact h j.val j.isLt
def sel8 (a0 a1 a2 a3 a4 a5 a6 a7 : Nat) (j : Nat) : Nat := if j = 0 then a0 else if j = 1 then a1 else if j = 2 then a2 else if j = 3 then a3 else if j = 4 then a4 else if j = 5 then a5 else if j = 6 then a6 else a7
def sel2 (a0 a1 : Nat) (j : Nat) : Nat := if j = 0 then a0 else a1
set_option maxHeartbeats 8000000 in
set_option maxRecDepth 100000 in
theorem c_X0_init (l : Launch) (dC : Nat → ClassId) (dI : Nat → Nat → Nat) (cc : Nat → ClassId) (q0 : Nat) (sz : Nat) : Met l yX0_init (mw yX0_init cX0_init 1 none) ({ frames := 1, cells := 0, slots := 0, locals := 12 } : Room) (va_Pc [.ref q0] (mP (dC, dI) (ts cc) sz [(q0, .inr (0, [.int 0, .int 0, .long 0]))])) ((fun A => va_Qv (fun (_ : Unit) => True) (fun (u : Unit) t => va_P (dC, dI) classes [(q0, .inr (0, [.int 0, .int 0, .long 0]))] t.heap ∧ va_D A [(q0, .inr (0, [.int 0, .int 0, .long 0]))]) A) (va_A [(q0, .inr (0, [.int 0, .int 0, .long 0]))] sz)) 0 0 (va_A [(q0, .inr (0, [.int 0, .int 0, .long 0]))] sz) := by
  refine met_go (Qc := fun A => va_Qv (fun (_ : Unit) => True) (fun (u : Unit) t => va_P (dC, dI) classes [(q0, .inr (0, [.int 0, .int 0, .long 0]))] t.heap ∧ va_D A [(q0, .inr (0, [.int 0, .int 0, .long 0]))]) A) (by decide) (Nat.le_of_ble_eq_true rfl) ?_
  intro p e s m below meth c A ls H locs hC hr hlk hin hA hP hl _
  have hC : CX p m c cX0_init 1 s ([.ref q0] : List Value).toArray RX0 (dC, dI) (ts cc) := hC
  have hin : meth.name = "<init>" := hin
  have hx := hC.1.1
  have hb := hC.1.2
  have hl : lv_has ls 1 [(0, .ref q0)] := hl
  refine lv_aload_n hx hb dX0_init_0 rfl (lv_at hl 0 rfl) ?_
  refine g_objInit hC kw104 kw27 kw28 hl.1 dX0_init_1 (Nat.le_of_ble_eq_true rfl) (Nat.le_of_ble_eq_true rfl) ?_
  exact ret_n hC hr hlk hP dX0_init_4 () rfl
set_option maxHeartbeats 8000000 in
set_option maxRecDepth 100000 in
theorem c_X5_init (l : Launch) (dC : Nat → ClassId) (dI : Nat → Nat → Nat) (cc : Nat → ClassId) (q0 : Nat) (sz : Nat) : Met l yX5_init (mw yX5_init cX5_init 1 none) ({ frames := 1, cells := 1, slots := 200, locals := 12 } : Room) (va_Pc [.ref q0] (mP (dC, dI) (ts cc) sz [(q0, .inr (5, [.null, .int 0]))])) ((fun A => va_Qv (fun (_ : Nat) => True) (fun (u : Nat) t => va_P (dC, dI) classes [(q0, .inr (5, [.ref u, .int 0])), (u, .inl (cc 1, 200, .inl (fun _ => 0)))] t.heap ∧ va_D A [(q0, .inr (5, [.ref u, .int 0])), (u, .inl (cc 1, 200, .inl (fun _ => 0)))]) A) (va_A [(q0, .inr (5, [.null, .int 0]))] sz)) 1 200 (va_A [(q0, .inr (5, [.null, .int 0]))] sz) := by
  refine met_go (Qc := fun A => va_Qv (fun (_ : Nat) => True) (fun (u : Nat) t => va_P (dC, dI) classes [(q0, .inr (5, [.ref u, .int 0])), (u, .inl (cc 1, 200, .inl (fun _ => 0)))] t.heap ∧ va_D A [(q0, .inr (5, [.ref u, .int 0])), (u, .inl (cc 1, 200, .inl (fun _ => 0)))]) A) (by decide) (Nat.le_of_ble_eq_true rfl) ?_
  intro p e s m below meth c A ls H locs hC hr hlk hin hA hP hl _
  have hC : CX p m c cX5_init 1 s ([.ref q0] : List Value).toArray RX5 (dC, dI) (ts cc) := hC
  have hin : meth.name = "<init>" := hin
  have hx := hC.1.1
  have hb := hC.1.2
  have hl : lv_has ls 1 [(0, .ref q0)] := hl
  refine lv_aload_n hx hb dX5_init_0 rfl (lv_at hl 0 rfl) ?_
  refine g_objInit hC kw34 kw27 kw28 hl.1 dX5_init_1 (Nat.le_of_ble_eq_true rfl) (Nat.le_of_ble_eq_true rfl) ?_
  refine lv_aload_n hx hb dX5_init_4 rfl (lv_at hl 0 rfl) ?_
  refine lv_sipush (v := 200) hx hb dX5_init_5 (by decide) ?_
  refine g_newa (atype := .char) hC hP hA kw44 rfl 1 rfl (200, .inl (fun _ => 0)) (fun _ => rfl) (by decide) (by decide) (Nat.le_of_ble_eq_true rfl) (Nat.le_of_ble_eq_true rfl) (Nat.le_of_ble_eq_true rfl) dX5_init_8 (fun q1 H hP => ?_)
  refine W.widen (k := 1) (n := 200) (Nat.le_of_ble_eq_true rfl) (Nat.le_of_ble_eq_true rfl) ?_
  have hP : PD (dC, dI) A s.heap [(q0, .inr (5, [.null, .int 0])), (q1, .inl (cc 1, 200, .inl (fun _ => 0)))] H locs := hP
  refine g_putF hC hP fg_X5_9 hin (C9 := RX5) (T9 := TX5) (N9 := 2) rfl rfl 0 rfl rfl rfl (Nat.le_of_ble_eq_true rfl) dX5_init_10 (fun H locs hP => ?_)
  have hP : PD (dC, dI) A s.heap [(q0, .inr (5, [.ref q1, .int 0])), (q1, .inl (cc 1, 200, .inl (fun _ => 0)))] H locs := hP
  exact ret_n hC hr hlk hP dX5_init_13 q1 rfl
set_option maxHeartbeats 8000000 in
set_option maxRecDepth 100000 in
theorem c_X6_init (l : Launch) (dC : Nat → ClassId) (dI : Nat → Nat → Nat) (cc : Nat → ClassId) (q0 : Nat) (sz : Nat) : Met l yX6_init (mw yX6_init cX6_init 1 none) ({ frames := 1, cells := 2, slots := 10, locals := 12 } : Room) (va_Pc [.ref q0] (mP (dC, dI) (ts cc) sz [(q0, .inr (6, [.null, .null, .int 0, .int 0]))])) ((fun A => va_Qv (fun (_ : Nat × Nat) => True) (fun (u : Nat × Nat) t => va_P (dC, dI) classes [(q0, .inr (6, [.ref u.1, .ref u.2, .int 0, .int 0])), (u.1, .inl (cc 0, 5, .inl (fun _ => 0))), (u.2, .inl (cc 0, 5, .inl (fun _ => 0)))] t.heap ∧ va_D A [(q0, .inr (6, [.ref u.1, .ref u.2, .int 0, .int 0])), (u.1, .inl (cc 0, 5, .inl (fun _ => 0))), (u.2, .inl (cc 0, 5, .inl (fun _ => 0)))]) A) (va_A [(q0, .inr (6, [.null, .null, .int 0, .int 0]))] sz)) 2 10 (va_A [(q0, .inr (6, [.null, .null, .int 0, .int 0]))] sz) := by
  refine met_go (Qc := fun A => va_Qv (fun (_ : Nat × Nat) => True) (fun (u : Nat × Nat) t => va_P (dC, dI) classes [(q0, .inr (6, [.ref u.1, .ref u.2, .int 0, .int 0])), (u.1, .inl (cc 0, 5, .inl (fun _ => 0))), (u.2, .inl (cc 0, 5, .inl (fun _ => 0)))] t.heap ∧ va_D A [(q0, .inr (6, [.ref u.1, .ref u.2, .int 0, .int 0])), (u.1, .inl (cc 0, 5, .inl (fun _ => 0))), (u.2, .inl (cc 0, 5, .inl (fun _ => 0)))]) A) (by decide) (Nat.le_of_ble_eq_true rfl) ?_
  intro p e s m below meth c A ls H locs hC hr hlk hin hA hP hl _
  have hC : CX p m c cX6_init 1 s ([.ref q0] : List Value).toArray RX6 (dC, dI) (ts cc) := hC
  have hin : meth.name = "<init>" := hin
  have hx := hC.1.1
  have hb := hC.1.2
  have hl : lv_has ls 1 [(0, .ref q0)] := hl
  refine lv_aload_n hx hb dX6_init_0 rfl (lv_at hl 0 rfl) ?_
  refine g_objInit hC kw80 kw27 kw28 hl.1 dX6_init_1 (Nat.le_of_ble_eq_true rfl) (Nat.le_of_ble_eq_true rfl) ?_
  refine lv_aload_n hx hb dX6_init_4 rfl (lv_at hl 0 rfl) ?_
  refine lv_iconst (v := 5) hx hb dX6_init_5 (by decide) ?_
  refine g_newa (atype := .int) hC hP hA kw74 rfl 0 rfl (5, .inl (fun _ => 0)) (fun _ => rfl) (by decide) (by decide) (Nat.le_of_ble_eq_true rfl) (Nat.le_of_ble_eq_true rfl) (Nat.le_of_ble_eq_true rfl) dX6_init_6 (fun q1 H hP => ?_)
  refine W.widen (k := 1) (n := 5) (Nat.le_of_ble_eq_true rfl) (Nat.le_of_ble_eq_true rfl) ?_
  have hP : PD (dC, dI) A s.heap [(q0, .inr (6, [.null, .null, .int 0, .int 0])), (q1, .inl (cc 0, 5, .inl (fun _ => 0)))] H locs := hP
  refine g_putF hC hP fg_X6_9 hin (C9 := RX6) (T9 := TX6) (N9 := 4) rfl rfl 0 rfl rfl rfl (Nat.le_of_ble_eq_true rfl) dX6_init_8 (fun H locs hP => ?_)
  have hP : PD (dC, dI) A s.heap [(q0, .inr (6, [.ref q1, .null, .int 0, .int 0])), (q1, .inl (cc 0, 5, .inl (fun _ => 0)))] H locs := hP
  refine lv_aload_n hx hb dX6_init_11 rfl (lv_at hl 0 rfl) ?_
  refine lv_iconst (v := 5) hx hb dX6_init_12 (by decide) ?_
  refine g_newa (atype := .int) hC hP hA kw74 rfl 0 rfl (5, .inl (fun _ => 0)) (fun _ => rfl) (by decide) (by decide) (Nat.le_of_ble_eq_true rfl) (Nat.le_of_ble_eq_true rfl) (Nat.le_of_ble_eq_true rfl) dX6_init_13 (fun q2 H hP => ?_)
  refine W.widen (k := 2) (n := 10) (Nat.le_of_ble_eq_true rfl) (Nat.le_of_ble_eq_true rfl) ?_
  have hP : PD (dC, dI) A s.heap [(q0, .inr (6, [.ref q1, .null, .int 0, .int 0])), (q1, .inl (cc 0, 5, .inl (fun _ => 0))), (q2, .inl (cc 0, 5, .inl (fun _ => 0)))] H locs := hP
  refine g_putF hC hP fg_X6_15 hin (C9 := RX6) (T9 := TX6) (N9 := 4) rfl rfl 0 rfl rfl rfl (Nat.le_of_ble_eq_true rfl) dX6_init_15 (fun H locs hP => ?_)
  have hP : PD (dC, dI) A s.heap [(q0, .inr (6, [.ref q1, .ref q2, .int 0, .int 0])), (q1, .inl (cc 0, 5, .inl (fun _ => 0))), (q2, .inl (cc 0, 5, .inl (fun _ => 0)))] H locs := hP
  exact ret_n hC hr hlk hP dX6_init_18 (q1, q2) rfl
set_option maxHeartbeats 8000000 in
set_option maxRecDepth 100000 in
theorem c_X7_init (l : Launch) (dC : Nat → ClassId) (dI : Nat → Nat → Nat) (cc : Nat → ClassId) (q0 : Nat) (sz : Nat) : Met l yX7_init (mw yX7_init cX7_init 1 none) ({ frames := 1, cells := 3, slots := 24, locals := 12 } : Room) (va_Pc [.ref q0] (mP (dC, dI) (ts cc) sz [(q0, .inr (7, [.null, .null, .null, .int 0]))])) ((fun A => va_Qv (fun (_ : Nat × Nat × Nat) => True) (fun (u : Nat × Nat × Nat) t => va_P (dC, dI) classes [(q0, .inr (7, [.ref u.1, .ref u.2.1, .ref u.2.2, .int 0])), (u.1, .inl (cc 0, 8, .inl (fun _ => 0))), (u.2.1, .inl (cc 0, 8, .inl (fun _ => 0))), (u.2.2, .inl (cc 0, 8, .inl (fun _ => 0)))] t.heap ∧ va_D A [(q0, .inr (7, [.ref u.1, .ref u.2.1, .ref u.2.2, .int 0])), (u.1, .inl (cc 0, 8, .inl (fun _ => 0))), (u.2.1, .inl (cc 0, 8, .inl (fun _ => 0))), (u.2.2, .inl (cc 0, 8, .inl (fun _ => 0)))]) A) (va_A [(q0, .inr (7, [.null, .null, .null, .int 0]))] sz)) 3 24 (va_A [(q0, .inr (7, [.null, .null, .null, .int 0]))] sz) := by
  refine met_go (Qc := fun A => va_Qv (fun (_ : Nat × Nat × Nat) => True) (fun (u : Nat × Nat × Nat) t => va_P (dC, dI) classes [(q0, .inr (7, [.ref u.1, .ref u.2.1, .ref u.2.2, .int 0])), (u.1, .inl (cc 0, 8, .inl (fun _ => 0))), (u.2.1, .inl (cc 0, 8, .inl (fun _ => 0))), (u.2.2, .inl (cc 0, 8, .inl (fun _ => 0)))] t.heap ∧ va_D A [(q0, .inr (7, [.ref u.1, .ref u.2.1, .ref u.2.2, .int 0])), (u.1, .inl (cc 0, 8, .inl (fun _ => 0))), (u.2.1, .inl (cc 0, 8, .inl (fun _ => 0))), (u.2.2, .inl (cc 0, 8, .inl (fun _ => 0)))]) A) (by decide) (Nat.le_of_ble_eq_true rfl) ?_
  intro p e s m below meth c A ls H locs hC hr hlk hin hA hP hl _
  have hC : CX p m c cX7_init 1 s ([.ref q0] : List Value).toArray RX7 (dC, dI) (ts cc) := hC
  have hin : meth.name = "<init>" := hin
  have hx := hC.1.1
  have hb := hC.1.2
  have hl : lv_has ls 1 [(0, .ref q0)] := hl
  refine lv_aload_n hx hb dX7_init_0 rfl (lv_at hl 0 rfl) ?_
  refine g_objInit hC kw148 kw27 kw28 hl.1 dX7_init_1 (Nat.le_of_ble_eq_true rfl) (Nat.le_of_ble_eq_true rfl) ?_
  refine lv_aload_n hx hb dX7_init_4 rfl (lv_at hl 0 rfl) ?_
  refine lv_bipush (v := 8) hx hb dX7_init_5 (by decide) ?_
  refine g_newa (atype := .int) hC hP hA kw74 rfl 0 rfl (8, .inl (fun _ => 0)) (fun _ => rfl) (by decide) (by decide) (Nat.le_of_ble_eq_true rfl) (Nat.le_of_ble_eq_true rfl) (Nat.le_of_ble_eq_true rfl) dX7_init_7 (fun q1 H hP => ?_)
  refine W.widen (k := 1) (n := 8) (Nat.le_of_ble_eq_true rfl) (Nat.le_of_ble_eq_true rfl) ?_
  have hP : PD (dC, dI) A s.heap [(q0, .inr (7, [.null, .null, .null, .int 0])), (q1, .inl (cc 0, 8, .inl (fun _ => 0)))] H locs := hP
  refine g_putF hC hP fg_X7_9 hin (C9 := RX7) (T9 := TX7) (N9 := 4) rfl rfl 0 rfl rfl rfl (Nat.le_of_ble_eq_true rfl) dX7_init_9 (fun H locs hP => ?_)
  have hP : PD (dC, dI) A s.heap [(q0, .inr (7, [.ref q1, .null, .null, .int 0])), (q1, .inl (cc 0, 8, .inl (fun _ => 0)))] H locs := hP
  refine lv_aload_n hx hb dX7_init_12 rfl (lv_at hl 0 rfl) ?_
  refine lv_bipush (v := 8) hx hb dX7_init_13 (by decide) ?_
  refine g_newa (atype := .int) hC hP hA kw74 rfl 0 rfl (8, .inl (fun _ => 0)) (fun _ => rfl) (by decide) (by decide) (Nat.le_of_ble_eq_true rfl) (Nat.le_of_ble_eq_true rfl) (Nat.le_of_ble_eq_true rfl) dX7_init_15 (fun q2 H hP => ?_)
  refine W.widen (k := 2) (n := 16) (Nat.le_of_ble_eq_true rfl) (Nat.le_of_ble_eq_true rfl) ?_
  have hP : PD (dC, dI) A s.heap [(q0, .inr (7, [.ref q1, .null, .null, .int 0])), (q1, .inl (cc 0, 8, .inl (fun _ => 0))), (q2, .inl (cc 0, 8, .inl (fun _ => 0)))] H locs := hP
  refine g_putF hC hP fg_X7_15 hin (C9 := RX7) (T9 := TX7) (N9 := 4) rfl rfl 0 rfl rfl rfl (Nat.le_of_ble_eq_true rfl) dX7_init_17 (fun H locs hP => ?_)
  have hP : PD (dC, dI) A s.heap [(q0, .inr (7, [.ref q1, .ref q2, .null, .int 0])), (q1, .inl (cc 0, 8, .inl (fun _ => 0))), (q2, .inl (cc 0, 8, .inl (fun _ => 0)))] H locs := hP
  refine lv_aload_n hx hb dX7_init_20 rfl (lv_at hl 0 rfl) ?_
  refine lv_bipush (v := 8) hx hb dX7_init_21 (by decide) ?_
  refine g_newa (atype := .int) hC hP hA kw74 rfl 0 rfl (8, .inl (fun _ => 0)) (fun _ => rfl) (by decide) (by decide) (Nat.le_of_ble_eq_true rfl) (Nat.le_of_ble_eq_true rfl) (Nat.le_of_ble_eq_true rfl) dX7_init_23 (fun q3 H hP => ?_)
  refine W.widen (k := 3) (n := 24) (Nat.le_of_ble_eq_true rfl) (Nat.le_of_ble_eq_true rfl) ?_
  have hP : PD (dC, dI) A s.heap [(q0, .inr (7, [.ref q1, .ref q2, .null, .int 0])), (q1, .inl (cc 0, 8, .inl (fun _ => 0))), (q2, .inl (cc 0, 8, .inl (fun _ => 0))), (q3, .inl (cc 0, 8, .inl (fun _ => 0)))] H locs := hP
  refine g_putF hC hP fg_X7_18 hin (C9 := RX7) (T9 := TX7) (N9 := 4) rfl rfl 0 rfl rfl rfl (Nat.le_of_ble_eq_true rfl) dX7_init_25 (fun H locs hP => ?_)
  have hP : PD (dC, dI) A s.heap [(q0, .inr (7, [.ref q1, .ref q2, .ref q3, .int 0])), (q1, .inl (cc 0, 8, .inl (fun _ => 0))), (q2, .inl (cc 0, 8, .inl (fun _ => 0))), (q3, .inl (cc 0, 8, .inl (fun _ => 0)))] H locs := hP
  exact ret_n hC hr hlk hP dX7_init_28 (q1, q2, q3) rfl
set_option maxHeartbeats 8000000 in
set_option maxRecDepth 100000 in
theorem c_X4_init (l : Launch) (dC : Nat → ClassId) (dI : Nat → Nat → Nat) (cc : Nat → ClassId) (q0 : Nat) (sz : Nat) : Met l yX4_init (mw yX4_init cX4_init 1 none) ({ frames := 1, cells := 1, slots := 50, locals := 12 } : Room) (va_Pc [.ref q0] (mP (dC, dI) (ts cc) sz [(q0, .inr (4, [.null, .int 0, .int 0]))])) ((fun A => va_Qv (fun (_ : Nat) => True) (fun (u : Nat) t => va_P (dC, dI) classes [(q0, .inr (4, [.ref u, .int 0, .int 0])), (u, .inl (cc 0, 50, .inl (fun _ => 0)))] t.heap ∧ va_D A [(q0, .inr (4, [.ref u, .int 0, .int 0])), (u, .inl (cc 0, 50, .inl (fun _ => 0)))]) A) (va_A [(q0, .inr (4, [.null, .int 0, .int 0]))] sz)) 1 50 (va_A [(q0, .inr (4, [.null, .int 0, .int 0]))] sz) := by
  refine met_go (Qc := fun A => va_Qv (fun (_ : Nat) => True) (fun (u : Nat) t => va_P (dC, dI) classes [(q0, .inr (4, [.ref u, .int 0, .int 0])), (u, .inl (cc 0, 50, .inl (fun _ => 0)))] t.heap ∧ va_D A [(q0, .inr (4, [.ref u, .int 0, .int 0])), (u, .inl (cc 0, 50, .inl (fun _ => 0)))]) A) (by decide) (Nat.le_of_ble_eq_true rfl) ?_
  intro p e s m below meth c A ls H locs hC hr hlk hin hA hP hl _
  have hC : CX p m c cX4_init 1 s ([.ref q0] : List Value).toArray RX4 (dC, dI) (ts cc) := hC
  have hin : meth.name = "<init>" := hin
  have hx := hC.1.1
  have hb := hC.1.2
  have hl : lv_has ls 1 [(0, .ref q0)] := hl
  refine lv_aload_n hx hb dX4_init_0 rfl (lv_at hl 0 rfl) ?_
  refine g_objInit hC kw56 kw27 kw28 hl.1 dX4_init_1 (Nat.le_of_ble_eq_true rfl) (Nat.le_of_ble_eq_true rfl) ?_
  refine lv_aload_n hx hb dX4_init_4 rfl (lv_at hl 0 rfl) ?_
  refine lv_bipush (v := 50) hx hb dX4_init_5 (by decide) ?_
  refine g_newa (atype := .int) hC hP hA kw74 rfl 0 rfl (50, .inl (fun _ => 0)) (fun _ => rfl) (by decide) (by decide) (Nat.le_of_ble_eq_true rfl) (Nat.le_of_ble_eq_true rfl) (Nat.le_of_ble_eq_true rfl) dX4_init_7 (fun q1 H hP => ?_)
  refine W.widen (k := 1) (n := 50) (Nat.le_of_ble_eq_true rfl) (Nat.le_of_ble_eq_true rfl) ?_
  have hP : PD (dC, dI) A s.heap [(q0, .inr (4, [.null, .int 0, .int 0])), (q1, .inl (cc 0, 50, .inl (fun _ => 0)))] H locs := hP
  refine g_putF hC hP fg_X4_9 hin (C9 := RX4) (T9 := TX4) (N9 := 3) rfl rfl 0 rfl rfl rfl (Nat.le_of_ble_eq_true rfl) dX4_init_9 (fun H locs hP => ?_)
  have hP : PD (dC, dI) A s.heap [(q0, .inr (4, [.ref q1, .int 0, .int 0])), (q1, .inl (cc 0, 50, .inl (fun _ => 0)))] H locs := hP
  exact ret_n hC hr hlk hP dX4_init_12 q1 rfl
set_option maxHeartbeats 8000000 in
set_option maxRecDepth 100000 in
theorem c_X8_init (l : Launch) (dC : Nat → ClassId) (dI : Nat → Nat → Nat) (cc : Nat → ClassId) (q0 : Nat) (sz : Nat) : Met l yX8_init (mw yX8_init cX8_init 1 none) ({ frames := 2, cells := 2, slots := 53, locals := 32 } : Room) (va_Pc [.ref q0] (mP (dC, dI) (ts cc) sz [(q0, .inr (8, [.null, .int 0]))])) ((fun A => va_Qv (fun (_ : Nat × Nat) => True) (fun (u : Nat × Nat) t => va_P (dC, dI) classes [(q0, .inr (8, [.ref u.1, .int 0])), (u.1, .inr (4, [.ref u.2, .int 0, .int 0])), (u.2, .inl (cc 0, 50, .inl (fun _ => 0)))] t.heap ∧ va_D A [(q0, .inr (8, [.ref u.1, .int 0])), (u.1, .inr (4, [.ref u.2, .int 0, .int 0])), (u.2, .inl (cc 0, 50, .inl (fun _ => 0)))]) A) (va_A [(q0, .inr (8, [.null, .int 0]))] sz)) 2 53 (va_A [(q0, .inr (8, [.null, .int 0]))] sz) := by
  refine met_go (Qc := fun A => va_Qv (fun (_ : Nat × Nat) => True) (fun (u : Nat × Nat) t => va_P (dC, dI) classes [(q0, .inr (8, [.ref u.1, .int 0])), (u.1, .inr (4, [.ref u.2, .int 0, .int 0])), (u.2, .inl (cc 0, 50, .inl (fun _ => 0)))] t.heap ∧ va_D A [(q0, .inr (8, [.ref u.1, .int 0])), (u.1, .inr (4, [.ref u.2, .int 0, .int 0])), (u.2, .inl (cc 0, 50, .inl (fun _ => 0)))]) A) (by decide) (Nat.le_of_ble_eq_true rfl) ?_
  intro p e s m below meth c A ls H locs hC hr hlk hin hA hP hl _
  have hC : CX p m c cX8_init 1 s ([.ref q0] : List Value).toArray RX8 (dC, dI) (ts cc) := hC
  have hin : meth.name = "<init>" := hin
  have hx := hC.1.1
  have hb := hC.1.2
  have hl : lv_has ls 1 [(0, .ref q0)] := hl
  refine lv_aload_n hx hb dX8_init_0 rfl (lv_at hl 0 rfl) ?_
  refine g_objInit hC kw221 kw27 kw28 hl.1 dX8_init_1 (Nat.le_of_ble_eq_true rfl) (Nat.le_of_ble_eq_true rfl) ?_
  refine lv_aload_n hx hb dX8_init_4 rfl (lv_at hl 0 rfl) ?_
  refine g_new hC hP hA nw_X8_9 (Nat.le_of_ble_eq_true rfl) (Nat.le_of_ble_eq_true rfl) dX8_init_5 (fun q1 H hP => ?_)
  refine W.widen (k := 1) (n := 3) (Nat.le_of_ble_eq_true rfl) (Nat.le_of_ble_eq_true rfl) ?_
  have hP : PD (dC, dI) A s.heap [(q0, .inr (8, [.null, .int 0])), (q1, .inr (4, [.null, .int 0, .int 0]))] H locs := hP
  refine lv_dup hx hb dX8_init_8 rfl ?_
  refine kc_n (wr := [(q0, .inr (8, [.null, .int 0]))]) (kI hC (c_X4_init l dC dI cc q1 H.size) ci_X8_11 kw55 rfl rfl ⟨(Nat.le_of_ble_eq_true rfl), (Nat.le_of_ble_eq_true rfl)⟩ hP [1] rfl rfl (As := []) (rest := [.ref q1, .ref q0]) rfl rfl hl.1 (Nat.le_of_ble_eq_true rfl) dX8_init_9 ⟨(Nat.le_of_ble_eq_true rfl), (Nat.le_of_ble_eq_true rfl)⟩) hP hA [1] [0] rfl rfl rfl (by decide) (fun q2 H locs hP => ?_)
  refine W.widen (k := 2) (n := 53) (Nat.le_of_ble_eq_true rfl) (Nat.le_of_ble_eq_true rfl) ?_
  have hP : PD (dC, dI) A s.heap [(q0, .inr (8, [.null, .int 0])), (q1, .inr (4, [.ref q2, .int 0, .int 0])), (q2, .inl (cc 0, 50, .inl (fun _ => 0)))] H locs := hP
  refine g_putF hC hP fg_X8_12 hin (C9 := RX8) (T9 := TX8) (N9 := 2) rfl rfl 0 rfl rfl rfl (Nat.le_of_ble_eq_true rfl) dX8_init_12 (fun H locs hP => ?_)
  have hP : PD (dC, dI) A s.heap [(q0, .inr (8, [.ref q1, .int 0])), (q1, .inr (4, [.ref q2, .int 0, .int 0])), (q2, .inl (cc 0, 50, .inl (fun _ => 0)))] H locs := hP
  exact ret_n hC hr hlk hP dX8_init_15 (q1, q2) rfl
set_option maxHeartbeats 8000000 in
set_option maxRecDepth 100000 in
theorem c_X2_init_8 (l : Launch) (dC : Nat → ClassId) (dI : Nat → Nat → Nat) (cc : Nat → ClassId) (q0 : Nat) (sz : Nat) : Met l yX2_init (mw yX2_init cX2_init 3 none) ({ frames := 2, cells := 17, slots := 432, locals := 32 } : Room) (va_Pc [.ref q0, .int 8] (mP (dC, dI) (ts cc) sz [(q0, .inr (2, [.null, .int 0]))])) ((fun A => va_Qv (fun (_ : Nat × (Nat → Nat) × (Nat → Nat)) => True) (fun (u : Nat × (Nat → Nat) × (Nat → Nat)) t => va_P (dC, dI) classes [(q0, .inr (2, [.ref u.1, .int 0])), (u.1, .inl (cc 3, 8, .inr (.inr (.inr (.inr fun j => some (u.2.1 ((fun j => j) j))))))), ((u.2.1 0), .inr (4, [.ref (u.2.2 0), .int ((fun _ => 0) 0), .int ((fun _ => 0) 0)])), ((u.2.2 0), .inl (cc 0, 50, .inl ((fun _ _ => 0) 0))), ((u.2.1 1), .inr (4, [.ref (u.2.2 1), .int ((fun _ => 0) 1), .int ((fun _ => 0) 1)])), ((u.2.2 1), .inl (cc 0, 50, .inl ((fun _ _ => 0) 1))), ((u.2.1 2), .inr (4, [.ref (u.2.2 2), .int ((fun _ => 0) 2), .int ((fun _ => 0) 2)])), ((u.2.2 2), .inl (cc 0, 50, .inl ((fun _ _ => 0) 2))), ((u.2.1 3), .inr (4, [.ref (u.2.2 3), .int ((fun _ => 0) 3), .int ((fun _ => 0) 3)])), ((u.2.2 3), .inl (cc 0, 50, .inl ((fun _ _ => 0) 3))), ((u.2.1 4), .inr (4, [.ref (u.2.2 4), .int ((fun _ => 0) 4), .int ((fun _ => 0) 4)])), ((u.2.2 4), .inl (cc 0, 50, .inl ((fun _ _ => 0) 4))), ((u.2.1 5), .inr (4, [.ref (u.2.2 5), .int ((fun _ => 0) 5), .int ((fun _ => 0) 5)])), ((u.2.2 5), .inl (cc 0, 50, .inl ((fun _ _ => 0) 5))), ((u.2.1 6), .inr (4, [.ref (u.2.2 6), .int ((fun _ => 0) 6), .int ((fun _ => 0) 6)])), ((u.2.2 6), .inl (cc 0, 50, .inl ((fun _ _ => 0) 6))), ((u.2.1 7), .inr (4, [.ref (u.2.2 7), .int ((fun _ => 0) 7), .int ((fun _ => 0) 7)])), ((u.2.2 7), .inl (cc 0, 50, .inl ((fun _ _ => 0) 7)))] t.heap ∧ va_D A [(q0, .inr (2, [.ref u.1, .int 0])), (u.1, .inl (cc 3, 8, .inr (.inr (.inr (.inr fun j => some (u.2.1 ((fun j => j) j))))))), ((u.2.1 0), .inr (4, [.ref (u.2.2 0), .int ((fun _ => 0) 0), .int ((fun _ => 0) 0)])), ((u.2.2 0), .inl (cc 0, 50, .inl ((fun _ _ => 0) 0))), ((u.2.1 1), .inr (4, [.ref (u.2.2 1), .int ((fun _ => 0) 1), .int ((fun _ => 0) 1)])), ((u.2.2 1), .inl (cc 0, 50, .inl ((fun _ _ => 0) 1))), ((u.2.1 2), .inr (4, [.ref (u.2.2 2), .int ((fun _ => 0) 2), .int ((fun _ => 0) 2)])), ((u.2.2 2), .inl (cc 0, 50, .inl ((fun _ _ => 0) 2))), ((u.2.1 3), .inr (4, [.ref (u.2.2 3), .int ((fun _ => 0) 3), .int ((fun _ => 0) 3)])), ((u.2.2 3), .inl (cc 0, 50, .inl ((fun _ _ => 0) 3))), ((u.2.1 4), .inr (4, [.ref (u.2.2 4), .int ((fun _ => 0) 4), .int ((fun _ => 0) 4)])), ((u.2.2 4), .inl (cc 0, 50, .inl ((fun _ _ => 0) 4))), ((u.2.1 5), .inr (4, [.ref (u.2.2 5), .int ((fun _ => 0) 5), .int ((fun _ => 0) 5)])), ((u.2.2 5), .inl (cc 0, 50, .inl ((fun _ _ => 0) 5))), ((u.2.1 6), .inr (4, [.ref (u.2.2 6), .int ((fun _ => 0) 6), .int ((fun _ => 0) 6)])), ((u.2.2 6), .inl (cc 0, 50, .inl ((fun _ _ => 0) 6))), ((u.2.1 7), .inr (4, [.ref (u.2.2 7), .int ((fun _ => 0) 7), .int ((fun _ => 0) 7)])), ((u.2.2 7), .inl (cc 0, 50, .inl ((fun _ _ => 0) 7)))]) A) (va_A [(q0, .inr (2, [.null, .int 0]))] sz)) 17 432 (va_A [(q0, .inr (2, [.null, .int 0]))] sz) := by
  refine met_go (Qc := fun A => va_Qv (fun (_ : Nat × (Nat → Nat) × (Nat → Nat)) => True) (fun (u : Nat × (Nat → Nat) × (Nat → Nat)) t => va_P (dC, dI) classes [(q0, .inr (2, [.ref u.1, .int 0])), (u.1, .inl (cc 3, 8, .inr (.inr (.inr (.inr fun j => some (u.2.1 ((fun j => j) j))))))), ((u.2.1 0), .inr (4, [.ref (u.2.2 0), .int ((fun _ => 0) 0), .int ((fun _ => 0) 0)])), ((u.2.2 0), .inl (cc 0, 50, .inl ((fun _ _ => 0) 0))), ((u.2.1 1), .inr (4, [.ref (u.2.2 1), .int ((fun _ => 0) 1), .int ((fun _ => 0) 1)])), ((u.2.2 1), .inl (cc 0, 50, .inl ((fun _ _ => 0) 1))), ((u.2.1 2), .inr (4, [.ref (u.2.2 2), .int ((fun _ => 0) 2), .int ((fun _ => 0) 2)])), ((u.2.2 2), .inl (cc 0, 50, .inl ((fun _ _ => 0) 2))), ((u.2.1 3), .inr (4, [.ref (u.2.2 3), .int ((fun _ => 0) 3), .int ((fun _ => 0) 3)])), ((u.2.2 3), .inl (cc 0, 50, .inl ((fun _ _ => 0) 3))), ((u.2.1 4), .inr (4, [.ref (u.2.2 4), .int ((fun _ => 0) 4), .int ((fun _ => 0) 4)])), ((u.2.2 4), .inl (cc 0, 50, .inl ((fun _ _ => 0) 4))), ((u.2.1 5), .inr (4, [.ref (u.2.2 5), .int ((fun _ => 0) 5), .int ((fun _ => 0) 5)])), ((u.2.2 5), .inl (cc 0, 50, .inl ((fun _ _ => 0) 5))), ((u.2.1 6), .inr (4, [.ref (u.2.2 6), .int ((fun _ => 0) 6), .int ((fun _ => 0) 6)])), ((u.2.2 6), .inl (cc 0, 50, .inl ((fun _ _ => 0) 6))), ((u.2.1 7), .inr (4, [.ref (u.2.2 7), .int ((fun _ => 0) 7), .int ((fun _ => 0) 7)])), ((u.2.2 7), .inl (cc 0, 50, .inl ((fun _ _ => 0) 7)))] t.heap ∧ va_D A [(q0, .inr (2, [.ref u.1, .int 0])), (u.1, .inl (cc 3, 8, .inr (.inr (.inr (.inr fun j => some (u.2.1 ((fun j => j) j))))))), ((u.2.1 0), .inr (4, [.ref (u.2.2 0), .int ((fun _ => 0) 0), .int ((fun _ => 0) 0)])), ((u.2.2 0), .inl (cc 0, 50, .inl ((fun _ _ => 0) 0))), ((u.2.1 1), .inr (4, [.ref (u.2.2 1), .int ((fun _ => 0) 1), .int ((fun _ => 0) 1)])), ((u.2.2 1), .inl (cc 0, 50, .inl ((fun _ _ => 0) 1))), ((u.2.1 2), .inr (4, [.ref (u.2.2 2), .int ((fun _ => 0) 2), .int ((fun _ => 0) 2)])), ((u.2.2 2), .inl (cc 0, 50, .inl ((fun _ _ => 0) 2))), ((u.2.1 3), .inr (4, [.ref (u.2.2 3), .int ((fun _ => 0) 3), .int ((fun _ => 0) 3)])), ((u.2.2 3), .inl (cc 0, 50, .inl ((fun _ _ => 0) 3))), ((u.2.1 4), .inr (4, [.ref (u.2.2 4), .int ((fun _ => 0) 4), .int ((fun _ => 0) 4)])), ((u.2.2 4), .inl (cc 0, 50, .inl ((fun _ _ => 0) 4))), ((u.2.1 5), .inr (4, [.ref (u.2.2 5), .int ((fun _ => 0) 5), .int ((fun _ => 0) 5)])), ((u.2.2 5), .inl (cc 0, 50, .inl ((fun _ _ => 0) 5))), ((u.2.1 6), .inr (4, [.ref (u.2.2 6), .int ((fun _ => 0) 6), .int ((fun _ => 0) 6)])), ((u.2.2 6), .inl (cc 0, 50, .inl ((fun _ _ => 0) 6))), ((u.2.1 7), .inr (4, [.ref (u.2.2 7), .int ((fun _ => 0) 7), .int ((fun _ => 0) 7)])), ((u.2.2 7), .inl (cc 0, 50, .inl ((fun _ _ => 0) 7)))]) A) (by decide) (Nat.le_of_ble_eq_true rfl) ?_
  intro p e s m below meth c A ls H locs hC hr hlk hin hA hP hl _
  have hC : CX p m c cX2_init 3 s ([.ref q0, .int 8] : List Value).toArray RX2 (dC, dI) (ts cc) := hC
  have hin : meth.name = "<init>" := hin
  have hx := hC.1.1
  have hb := hC.1.2
  have hl : lv_has ls 3 [(0, .ref q0), (1, .int 8)] := hl
  refine lv_aload_n hx hb dX2_init_0 rfl (lv_at hl 0 rfl) ?_
  refine g_objInit hC kw168 kw27 kw28 hl.1 dX2_init_1 (Nat.le_of_ble_eq_true rfl) (Nat.le_of_ble_eq_true rfl) ?_
  refine lv_aload_n hx hb dX2_init_4 rfl (lv_at hl 0 rfl) ?_
  refine lv_iconst (v := 1) hx hb dX2_init_5 (by decide) ?_
  refine lv_iload_n hx hb dX2_init_6 rfl (lv_at hl 1 rfl) ?_
  refine g_max hC hl.1 mh_X2_7 (Nat.le_of_ble_eq_true rfl) (Nat.le_of_ble_eq_true rfl) (Nat.le_of_ble_eq_true rfl) (Nat.le_of_ble_eq_true rfl) dX2_init_7 ?_
  rw [show (if (1 : Int32) < 8 then (8 : Int32) else 1) = 8 from by decide]
  refine g_newq (N' := 8) hC hP hA kw172 3 rfl (by decide) (by decide) (Nat.le_of_ble_eq_true rfl) (Nat.le_of_ble_eq_true rfl) (Nat.le_of_ble_eq_true rfl) dX2_init_10 (fun q1 H hP => ?_)
  refine W.widen (k := 1) (n := 8) (Nat.le_of_ble_eq_true rfl) (Nat.le_of_ble_eq_true rfl) ?_
  have hP : PD (dC, dI) A s.heap [(q0, .inr (2, [.null, .int 0])), (q1, .inl (cc 3, 8, .inr (.inr (.inr (.inr (fun _ => none))))))] H locs := hP
  refine g_putF hC hP fg_X2_15 hin (C9 := RX2) (T9 := TX2) (N9 := 2) rfl rfl 0 rfl rfl rfl (Nat.le_of_ble_eq_true rfl) dX2_init_13 (fun H locs hP => ?_)
  have hP : PD (dC, dI) A s.heap [(q0, .inr (2, [.ref q1, .int 0])), (q1, .inl (cc 3, 8, .inr (.inr (.inr (.inr (fun _ => none))))))] H locs := hP
  refine lv_iconst (v := 0) hx hb dX2_init_16 (by decide) ?_
  refine lv_istore_n (lv' := [(2, .int 0), (0, .ref q0), (1, .int 8)]) hx hb dX2_init_17 rfl hl (by decide) rfl (fun ls hl => ?_)
  refine lv_iload_n hx hb dX2_init_18 rfl (lv_at hl 0 rfl) ?_
  refine lv_aload_n hx hb dX2_init_19 rfl (lv_at hl 1 rfl) ?_
  refine g_get hC hP fg_X2_15 0 rfl rfl dX2_init_20 ?_
  refine g_alen hC hP 1 3 rfl rfl (v := 8) rfl dX2_init_23 ?_
  refine lv_icmp_ge (tgt := 46) hx hb dX2_init_24 (by decide) (fun c => absurd c (by decide)) (fun _ => ?_)
  refine lv_aload_n hx hb dX2_init_27 rfl (lv_at hl 1 rfl) ?_
  refine g_get hC hP fg_X2_15 0 rfl rfl dX2_init_28 ?_
  refine lv_iload_n hx hb dX2_init_31 rfl (lv_at hl 0 rfl) ?_
  refine g_new hC hP hA nw_X2_13 (Nat.le_of_ble_eq_true rfl) (Nat.le_of_ble_eq_true rfl) dX2_init_32 (fun q2 H hP => ?_)
  refine W.widen (k := 2) (n := 11) (Nat.le_of_ble_eq_true rfl) (Nat.le_of_ble_eq_true rfl) ?_
  have hP : PD (dC, dI) A s.heap [(q0, .inr (2, [.ref q1, .int 0])), (q1, .inl (cc 3, 8, .inr (.inr (.inr (.inr (fun _ => none)))))), (q2, .inr (4, [.null, .int 0, .int 0]))] H locs := hP
  refine lv_dup hx hb dX2_init_35 rfl ?_
  refine kc_n (wr := [(q0, .inr (2, [.ref q1, .int 0])), (q1, .inl (cc 3, 8, .inr (.inr (.inr (.inr (fun _ => none))))))]) (kI hC (c_X4_init l dC dI cc q2 H.size) ci_X2_21 kw55 rfl rfl ⟨(Nat.le_of_ble_eq_true rfl), (Nat.le_of_ble_eq_true rfl)⟩ hP [2] rfl rfl (As := []) (rest := [.ref q2, .int 0, .ref q1]) rfl rfl hl.1 (Nat.le_of_ble_eq_true rfl) dX2_init_36 ⟨(Nat.le_of_ble_eq_true rfl), (Nat.le_of_ble_eq_true rfl)⟩) hP hA [2] [0, 1] rfl rfl rfl (by decide) (fun q3 H locs hP => ?_)
  refine W.widen (k := 3) (n := 61) (Nat.le_of_ble_eq_true rfl) (Nat.le_of_ble_eq_true rfl) ?_
  have hP : PD (dC, dI) A s.heap [(q0, .inr (2, [.ref q1, .int 0])), (q1, .inl (cc 3, 8, .inr (.inr (.inr (.inr (fun _ => none)))))), (q2, .inr (4, [.ref q3, .int 0, .int 0])), (q3, .inl (cc 0, 50, .inl (fun _ => 0)))] H locs := hP
  refine g_aast (r := (RX4, TX4, 3)) hC hP 1 3 (qk := 2) (ci := 4) rfl rfl rfl rfl (by unfold vp_in; decide) dX2_init_39 (fun H locs hP => ?_)
  have hP : PD (dC, dI) A s.heap [(q0, .inr (2, [.ref q1, .int 0])), (q1, .inl (cc 3, 8, .inr (.inr (.inr (.inr (va_up (fun _ => none) (0 : Int32).toNatClampNeg (some q2))))))), (q2, .inr (4, [.ref q3, .int 0, .int 0])), (q3, .inl (cc 0, 50, .inl (fun _ => 0)))] H locs := hP
  refine lv_iinc (v := 1) (lv' := [(2, .int 1), (0, .ref q0), (1, .int 8)]) hx hb dX2_init_40 hl (k := 0) rfl (by decide) (by decide) rfl (fun ls hl => ?_)
  refine lv_goto (tgt := 18) hx hb dX2_init_43 (by decide) ?_
  refine lv_iload_n hx hb dX2_init_18 rfl (lv_at hl 0 rfl) ?_
  refine lv_aload_n hx hb dX2_init_19 rfl (lv_at hl 1 rfl) ?_
  refine g_get hC hP fg_X2_15 0 rfl rfl dX2_init_20 ?_
  refine g_alen hC hP 1 3 rfl rfl (v := 8) rfl dX2_init_23 ?_
  refine lv_icmp_ge (tgt := 46) hx hb dX2_init_24 (by decide) (fun c => absurd c (by decide)) (fun _ => ?_)
  refine lv_aload_n hx hb dX2_init_27 rfl (lv_at hl 1 rfl) ?_
  refine g_get hC hP fg_X2_15 0 rfl rfl dX2_init_28 ?_
  refine lv_iload_n hx hb dX2_init_31 rfl (lv_at hl 0 rfl) ?_
  refine g_new hC hP hA nw_X2_13 (Nat.le_of_ble_eq_true rfl) (Nat.le_of_ble_eq_true rfl) dX2_init_32 (fun q4 H hP => ?_)
  refine W.widen (k := 4) (n := 64) (Nat.le_of_ble_eq_true rfl) (Nat.le_of_ble_eq_true rfl) ?_
  have hP : PD (dC, dI) A s.heap [(q0, .inr (2, [.ref q1, .int 0])), (q1, .inl (cc 3, 8, .inr (.inr (.inr (.inr (va_up (fun _ => none) (0 : Int32).toNatClampNeg (some q2))))))), (q2, .inr (4, [.ref q3, .int 0, .int 0])), (q3, .inl (cc 0, 50, .inl (fun _ => 0))), (q4, .inr (4, [.null, .int 0, .int 0]))] H locs := hP
  refine lv_dup hx hb dX2_init_35 rfl ?_
  refine kc_n (wr := [(q0, .inr (2, [.ref q1, .int 0])), (q1, .inl (cc 3, 8, .inr (.inr (.inr (.inr (va_up (fun _ => none) (0 : Int32).toNatClampNeg (some q2))))))), (q2, .inr (4, [.ref q3, .int 0, .int 0])), (q3, .inl (cc 0, 50, .inl (fun _ => 0)))]) (kI hC (c_X4_init l dC dI cc q4 H.size) ci_X2_21 kw55 rfl rfl ⟨(Nat.le_of_ble_eq_true rfl), (Nat.le_of_ble_eq_true rfl)⟩ hP [4] rfl rfl (As := []) (rest := [.ref q4, .int 1, .ref q1]) rfl rfl hl.1 (Nat.le_of_ble_eq_true rfl) dX2_init_36 ⟨(Nat.le_of_ble_eq_true rfl), (Nat.le_of_ble_eq_true rfl)⟩) hP hA [4] [0, 1, 2, 3] rfl rfl rfl (by decide) (fun q5 H locs hP => ?_)
  refine W.widen (k := 5) (n := 114) (Nat.le_of_ble_eq_true rfl) (Nat.le_of_ble_eq_true rfl) ?_
  have hP : PD (dC, dI) A s.heap [(q0, .inr (2, [.ref q1, .int 0])), (q1, .inl (cc 3, 8, .inr (.inr (.inr (.inr (va_up (fun _ => none) (0 : Int32).toNatClampNeg (some q2))))))), (q2, .inr (4, [.ref q3, .int 0, .int 0])), (q3, .inl (cc 0, 50, .inl (fun _ => 0))), (q4, .inr (4, [.ref q5, .int 0, .int 0])), (q5, .inl (cc 0, 50, .inl (fun _ => 0)))] H locs := hP
  refine g_aast (r := (RX4, TX4, 3)) hC hP 1 3 (qk := 4) (ci := 4) rfl rfl rfl rfl (by unfold vp_in; decide) dX2_init_39 (fun H locs hP => ?_)
  have hP : PD (dC, dI) A s.heap [(q0, .inr (2, [.ref q1, .int 0])), (q1, .inl (cc 3, 8, .inr (.inr (.inr (.inr (va_up (va_up (fun _ => none) (0 : Int32).toNatClampNeg (some q2)) (1 : Int32).toNatClampNeg (some q4))))))), (q2, .inr (4, [.ref q3, .int 0, .int 0])), (q3, .inl (cc 0, 50, .inl (fun _ => 0))), (q4, .inr (4, [.ref q5, .int 0, .int 0])), (q5, .inl (cc 0, 50, .inl (fun _ => 0)))] H locs := hP
  refine lv_iinc (v := 2) (lv' := [(2, .int 2), (0, .ref q0), (1, .int 8)]) hx hb dX2_init_40 hl (k := 0) rfl (by decide) (by decide) rfl (fun ls hl => ?_)
  refine lv_goto (tgt := 18) hx hb dX2_init_43 (by decide) ?_
  refine lv_iload_n hx hb dX2_init_18 rfl (lv_at hl 0 rfl) ?_
  refine lv_aload_n hx hb dX2_init_19 rfl (lv_at hl 1 rfl) ?_
  refine g_get hC hP fg_X2_15 0 rfl rfl dX2_init_20 ?_
  refine g_alen hC hP 1 3 rfl rfl (v := 8) rfl dX2_init_23 ?_
  refine lv_icmp_ge (tgt := 46) hx hb dX2_init_24 (by decide) (fun c => absurd c (by decide)) (fun _ => ?_)
  refine lv_aload_n hx hb dX2_init_27 rfl (lv_at hl 1 rfl) ?_
  refine g_get hC hP fg_X2_15 0 rfl rfl dX2_init_28 ?_
  refine lv_iload_n hx hb dX2_init_31 rfl (lv_at hl 0 rfl) ?_
  refine g_new hC hP hA nw_X2_13 (Nat.le_of_ble_eq_true rfl) (Nat.le_of_ble_eq_true rfl) dX2_init_32 (fun q6 H hP => ?_)
  refine W.widen (k := 6) (n := 117) (Nat.le_of_ble_eq_true rfl) (Nat.le_of_ble_eq_true rfl) ?_
  have hP : PD (dC, dI) A s.heap [(q0, .inr (2, [.ref q1, .int 0])), (q1, .inl (cc 3, 8, .inr (.inr (.inr (.inr (va_up (va_up (fun _ => none) (0 : Int32).toNatClampNeg (some q2)) (1 : Int32).toNatClampNeg (some q4))))))), (q2, .inr (4, [.ref q3, .int 0, .int 0])), (q3, .inl (cc 0, 50, .inl (fun _ => 0))), (q4, .inr (4, [.ref q5, .int 0, .int 0])), (q5, .inl (cc 0, 50, .inl (fun _ => 0))), (q6, .inr (4, [.null, .int 0, .int 0]))] H locs := hP
  refine lv_dup hx hb dX2_init_35 rfl ?_
  refine kc_n (wr := [(q0, .inr (2, [.ref q1, .int 0])), (q1, .inl (cc 3, 8, .inr (.inr (.inr (.inr (va_up (va_up (fun _ => none) (0 : Int32).toNatClampNeg (some q2)) (1 : Int32).toNatClampNeg (some q4))))))), (q2, .inr (4, [.ref q3, .int 0, .int 0])), (q3, .inl (cc 0, 50, .inl (fun _ => 0))), (q4, .inr (4, [.ref q5, .int 0, .int 0])), (q5, .inl (cc 0, 50, .inl (fun _ => 0)))]) (kI hC (c_X4_init l dC dI cc q6 H.size) ci_X2_21 kw55 rfl rfl ⟨(Nat.le_of_ble_eq_true rfl), (Nat.le_of_ble_eq_true rfl)⟩ hP [6] rfl rfl (As := []) (rest := [.ref q6, .int 2, .ref q1]) rfl rfl hl.1 (Nat.le_of_ble_eq_true rfl) dX2_init_36 ⟨(Nat.le_of_ble_eq_true rfl), (Nat.le_of_ble_eq_true rfl)⟩) hP hA [6] [0, 1, 2, 3, 4, 5] rfl rfl rfl (by decide) (fun q7 H locs hP => ?_)
  refine W.widen (k := 7) (n := 167) (Nat.le_of_ble_eq_true rfl) (Nat.le_of_ble_eq_true rfl) ?_
  have hP : PD (dC, dI) A s.heap [(q0, .inr (2, [.ref q1, .int 0])), (q1, .inl (cc 3, 8, .inr (.inr (.inr (.inr (va_up (va_up (fun _ => none) (0 : Int32).toNatClampNeg (some q2)) (1 : Int32).toNatClampNeg (some q4))))))), (q2, .inr (4, [.ref q3, .int 0, .int 0])), (q3, .inl (cc 0, 50, .inl (fun _ => 0))), (q4, .inr (4, [.ref q5, .int 0, .int 0])), (q5, .inl (cc 0, 50, .inl (fun _ => 0))), (q6, .inr (4, [.ref q7, .int 0, .int 0])), (q7, .inl (cc 0, 50, .inl (fun _ => 0)))] H locs := hP
  refine g_aast (r := (RX4, TX4, 3)) hC hP 1 3 (qk := 6) (ci := 4) rfl rfl rfl rfl (by unfold vp_in; decide) dX2_init_39 (fun H locs hP => ?_)
  have hP : PD (dC, dI) A s.heap [(q0, .inr (2, [.ref q1, .int 0])), (q1, .inl (cc 3, 8, .inr (.inr (.inr (.inr (va_up (va_up (va_up (fun _ => none) (0 : Int32).toNatClampNeg (some q2)) (1 : Int32).toNatClampNeg (some q4)) (2 : Int32).toNatClampNeg (some q6))))))), (q2, .inr (4, [.ref q3, .int 0, .int 0])), (q3, .inl (cc 0, 50, .inl (fun _ => 0))), (q4, .inr (4, [.ref q5, .int 0, .int 0])), (q5, .inl (cc 0, 50, .inl (fun _ => 0))), (q6, .inr (4, [.ref q7, .int 0, .int 0])), (q7, .inl (cc 0, 50, .inl (fun _ => 0)))] H locs := hP
  refine lv_iinc (v := 3) (lv' := [(2, .int 3), (0, .ref q0), (1, .int 8)]) hx hb dX2_init_40 hl (k := 0) rfl (by decide) (by decide) rfl (fun ls hl => ?_)
  refine lv_goto (tgt := 18) hx hb dX2_init_43 (by decide) ?_
  refine lv_iload_n hx hb dX2_init_18 rfl (lv_at hl 0 rfl) ?_
  refine lv_aload_n hx hb dX2_init_19 rfl (lv_at hl 1 rfl) ?_
  refine g_get hC hP fg_X2_15 0 rfl rfl dX2_init_20 ?_
  refine g_alen hC hP 1 3 rfl rfl (v := 8) rfl dX2_init_23 ?_
  refine lv_icmp_ge (tgt := 46) hx hb dX2_init_24 (by decide) (fun c => absurd c (by decide)) (fun _ => ?_)
  refine lv_aload_n hx hb dX2_init_27 rfl (lv_at hl 1 rfl) ?_
  refine g_get hC hP fg_X2_15 0 rfl rfl dX2_init_28 ?_
  refine lv_iload_n hx hb dX2_init_31 rfl (lv_at hl 0 rfl) ?_
  refine g_new hC hP hA nw_X2_13 (Nat.le_of_ble_eq_true rfl) (Nat.le_of_ble_eq_true rfl) dX2_init_32 (fun q8 H hP => ?_)
  refine W.widen (k := 8) (n := 170) (Nat.le_of_ble_eq_true rfl) (Nat.le_of_ble_eq_true rfl) ?_
  have hP : PD (dC, dI) A s.heap [(q0, .inr (2, [.ref q1, .int 0])), (q1, .inl (cc 3, 8, .inr (.inr (.inr (.inr (va_up (va_up (va_up (fun _ => none) (0 : Int32).toNatClampNeg (some q2)) (1 : Int32).toNatClampNeg (some q4)) (2 : Int32).toNatClampNeg (some q6))))))), (q2, .inr (4, [.ref q3, .int 0, .int 0])), (q3, .inl (cc 0, 50, .inl (fun _ => 0))), (q4, .inr (4, [.ref q5, .int 0, .int 0])), (q5, .inl (cc 0, 50, .inl (fun _ => 0))), (q6, .inr (4, [.ref q7, .int 0, .int 0])), (q7, .inl (cc 0, 50, .inl (fun _ => 0))), (q8, .inr (4, [.null, .int 0, .int 0]))] H locs := hP
  refine lv_dup hx hb dX2_init_35 rfl ?_
  refine kc_n (wr := [(q0, .inr (2, [.ref q1, .int 0])), (q1, .inl (cc 3, 8, .inr (.inr (.inr (.inr (va_up (va_up (va_up (fun _ => none) (0 : Int32).toNatClampNeg (some q2)) (1 : Int32).toNatClampNeg (some q4)) (2 : Int32).toNatClampNeg (some q6))))))), (q2, .inr (4, [.ref q3, .int 0, .int 0])), (q3, .inl (cc 0, 50, .inl (fun _ => 0))), (q4, .inr (4, [.ref q5, .int 0, .int 0])), (q5, .inl (cc 0, 50, .inl (fun _ => 0))), (q6, .inr (4, [.ref q7, .int 0, .int 0])), (q7, .inl (cc 0, 50, .inl (fun _ => 0)))]) (kI hC (c_X4_init l dC dI cc q8 H.size) ci_X2_21 kw55 rfl rfl ⟨(Nat.le_of_ble_eq_true rfl), (Nat.le_of_ble_eq_true rfl)⟩ hP [8] rfl rfl (As := []) (rest := [.ref q8, .int 3, .ref q1]) rfl rfl hl.1 (Nat.le_of_ble_eq_true rfl) dX2_init_36 ⟨(Nat.le_of_ble_eq_true rfl), (Nat.le_of_ble_eq_true rfl)⟩) hP hA [8] [0, 1, 2, 3, 4, 5, 6, 7] rfl rfl rfl (by decide) (fun q9 H locs hP => ?_)
  refine W.widen (k := 9) (n := 220) (Nat.le_of_ble_eq_true rfl) (Nat.le_of_ble_eq_true rfl) ?_
  have hP : PD (dC, dI) A s.heap [(q0, .inr (2, [.ref q1, .int 0])), (q1, .inl (cc 3, 8, .inr (.inr (.inr (.inr (va_up (va_up (va_up (fun _ => none) (0 : Int32).toNatClampNeg (some q2)) (1 : Int32).toNatClampNeg (some q4)) (2 : Int32).toNatClampNeg (some q6))))))), (q2, .inr (4, [.ref q3, .int 0, .int 0])), (q3, .inl (cc 0, 50, .inl (fun _ => 0))), (q4, .inr (4, [.ref q5, .int 0, .int 0])), (q5, .inl (cc 0, 50, .inl (fun _ => 0))), (q6, .inr (4, [.ref q7, .int 0, .int 0])), (q7, .inl (cc 0, 50, .inl (fun _ => 0))), (q8, .inr (4, [.ref q9, .int 0, .int 0])), (q9, .inl (cc 0, 50, .inl (fun _ => 0)))] H locs := hP
  refine g_aast (r := (RX4, TX4, 3)) hC hP 1 3 (qk := 8) (ci := 4) rfl rfl rfl rfl (by unfold vp_in; decide) dX2_init_39 (fun H locs hP => ?_)
  have hP : PD (dC, dI) A s.heap [(q0, .inr (2, [.ref q1, .int 0])), (q1, .inl (cc 3, 8, .inr (.inr (.inr (.inr (va_up (va_up (va_up (va_up (fun _ => none) (0 : Int32).toNatClampNeg (some q2)) (1 : Int32).toNatClampNeg (some q4)) (2 : Int32).toNatClampNeg (some q6)) (3 : Int32).toNatClampNeg (some q8))))))), (q2, .inr (4, [.ref q3, .int 0, .int 0])), (q3, .inl (cc 0, 50, .inl (fun _ => 0))), (q4, .inr (4, [.ref q5, .int 0, .int 0])), (q5, .inl (cc 0, 50, .inl (fun _ => 0))), (q6, .inr (4, [.ref q7, .int 0, .int 0])), (q7, .inl (cc 0, 50, .inl (fun _ => 0))), (q8, .inr (4, [.ref q9, .int 0, .int 0])), (q9, .inl (cc 0, 50, .inl (fun _ => 0)))] H locs := hP
  refine lv_iinc (v := 4) (lv' := [(2, .int 4), (0, .ref q0), (1, .int 8)]) hx hb dX2_init_40 hl (k := 0) rfl (by decide) (by decide) rfl (fun ls hl => ?_)
  refine lv_goto (tgt := 18) hx hb dX2_init_43 (by decide) ?_
  refine lv_iload_n hx hb dX2_init_18 rfl (lv_at hl 0 rfl) ?_
  refine lv_aload_n hx hb dX2_init_19 rfl (lv_at hl 1 rfl) ?_
  refine g_get hC hP fg_X2_15 0 rfl rfl dX2_init_20 ?_
  refine g_alen hC hP 1 3 rfl rfl (v := 8) rfl dX2_init_23 ?_
  refine lv_icmp_ge (tgt := 46) hx hb dX2_init_24 (by decide) (fun c => absurd c (by decide)) (fun _ => ?_)
  refine lv_aload_n hx hb dX2_init_27 rfl (lv_at hl 1 rfl) ?_
  refine g_get hC hP fg_X2_15 0 rfl rfl dX2_init_28 ?_
  refine lv_iload_n hx hb dX2_init_31 rfl (lv_at hl 0 rfl) ?_
  refine g_new hC hP hA nw_X2_13 (Nat.le_of_ble_eq_true rfl) (Nat.le_of_ble_eq_true rfl) dX2_init_32 (fun q10 H hP => ?_)
  refine W.widen (k := 10) (n := 223) (Nat.le_of_ble_eq_true rfl) (Nat.le_of_ble_eq_true rfl) ?_
  have hP : PD (dC, dI) A s.heap [(q0, .inr (2, [.ref q1, .int 0])), (q1, .inl (cc 3, 8, .inr (.inr (.inr (.inr (va_up (va_up (va_up (va_up (fun _ => none) (0 : Int32).toNatClampNeg (some q2)) (1 : Int32).toNatClampNeg (some q4)) (2 : Int32).toNatClampNeg (some q6)) (3 : Int32).toNatClampNeg (some q8))))))), (q2, .inr (4, [.ref q3, .int 0, .int 0])), (q3, .inl (cc 0, 50, .inl (fun _ => 0))), (q4, .inr (4, [.ref q5, .int 0, .int 0])), (q5, .inl (cc 0, 50, .inl (fun _ => 0))), (q6, .inr (4, [.ref q7, .int 0, .int 0])), (q7, .inl (cc 0, 50, .inl (fun _ => 0))), (q8, .inr (4, [.ref q9, .int 0, .int 0])), (q9, .inl (cc 0, 50, .inl (fun _ => 0))), (q10, .inr (4, [.null, .int 0, .int 0]))] H locs := hP
  refine lv_dup hx hb dX2_init_35 rfl ?_
  refine kc_n (wr := [(q0, .inr (2, [.ref q1, .int 0])), (q1, .inl (cc 3, 8, .inr (.inr (.inr (.inr (va_up (va_up (va_up (va_up (fun _ => none) (0 : Int32).toNatClampNeg (some q2)) (1 : Int32).toNatClampNeg (some q4)) (2 : Int32).toNatClampNeg (some q6)) (3 : Int32).toNatClampNeg (some q8))))))), (q2, .inr (4, [.ref q3, .int 0, .int 0])), (q3, .inl (cc 0, 50, .inl (fun _ => 0))), (q4, .inr (4, [.ref q5, .int 0, .int 0])), (q5, .inl (cc 0, 50, .inl (fun _ => 0))), (q6, .inr (4, [.ref q7, .int 0, .int 0])), (q7, .inl (cc 0, 50, .inl (fun _ => 0))), (q8, .inr (4, [.ref q9, .int 0, .int 0])), (q9, .inl (cc 0, 50, .inl (fun _ => 0)))]) (kI hC (c_X4_init l dC dI cc q10 H.size) ci_X2_21 kw55 rfl rfl ⟨(Nat.le_of_ble_eq_true rfl), (Nat.le_of_ble_eq_true rfl)⟩ hP [10] rfl rfl (As := []) (rest := [.ref q10, .int 4, .ref q1]) rfl rfl hl.1 (Nat.le_of_ble_eq_true rfl) dX2_init_36 ⟨(Nat.le_of_ble_eq_true rfl), (Nat.le_of_ble_eq_true rfl)⟩) hP hA [10] [0, 1, 2, 3, 4, 5, 6, 7, 8, 9] rfl rfl rfl (by decide) (fun q11 H locs hP => ?_)
  refine W.widen (k := 11) (n := 273) (Nat.le_of_ble_eq_true rfl) (Nat.le_of_ble_eq_true rfl) ?_
  have hP : PD (dC, dI) A s.heap [(q0, .inr (2, [.ref q1, .int 0])), (q1, .inl (cc 3, 8, .inr (.inr (.inr (.inr (va_up (va_up (va_up (va_up (fun _ => none) (0 : Int32).toNatClampNeg (some q2)) (1 : Int32).toNatClampNeg (some q4)) (2 : Int32).toNatClampNeg (some q6)) (3 : Int32).toNatClampNeg (some q8))))))), (q2, .inr (4, [.ref q3, .int 0, .int 0])), (q3, .inl (cc 0, 50, .inl (fun _ => 0))), (q4, .inr (4, [.ref q5, .int 0, .int 0])), (q5, .inl (cc 0, 50, .inl (fun _ => 0))), (q6, .inr (4, [.ref q7, .int 0, .int 0])), (q7, .inl (cc 0, 50, .inl (fun _ => 0))), (q8, .inr (4, [.ref q9, .int 0, .int 0])), (q9, .inl (cc 0, 50, .inl (fun _ => 0))), (q10, .inr (4, [.ref q11, .int 0, .int 0])), (q11, .inl (cc 0, 50, .inl (fun _ => 0)))] H locs := hP
  refine g_aast (r := (RX4, TX4, 3)) hC hP 1 3 (qk := 10) (ci := 4) rfl rfl rfl rfl (by unfold vp_in; decide) dX2_init_39 (fun H locs hP => ?_)
  have hP : PD (dC, dI) A s.heap [(q0, .inr (2, [.ref q1, .int 0])), (q1, .inl (cc 3, 8, .inr (.inr (.inr (.inr (va_up (va_up (va_up (va_up (va_up (fun _ => none) (0 : Int32).toNatClampNeg (some q2)) (1 : Int32).toNatClampNeg (some q4)) (2 : Int32).toNatClampNeg (some q6)) (3 : Int32).toNatClampNeg (some q8)) (4 : Int32).toNatClampNeg (some q10))))))), (q2, .inr (4, [.ref q3, .int 0, .int 0])), (q3, .inl (cc 0, 50, .inl (fun _ => 0))), (q4, .inr (4, [.ref q5, .int 0, .int 0])), (q5, .inl (cc 0, 50, .inl (fun _ => 0))), (q6, .inr (4, [.ref q7, .int 0, .int 0])), (q7, .inl (cc 0, 50, .inl (fun _ => 0))), (q8, .inr (4, [.ref q9, .int 0, .int 0])), (q9, .inl (cc 0, 50, .inl (fun _ => 0))), (q10, .inr (4, [.ref q11, .int 0, .int 0])), (q11, .inl (cc 0, 50, .inl (fun _ => 0)))] H locs := hP
  refine lv_iinc (v := 5) (lv' := [(2, .int 5), (0, .ref q0), (1, .int 8)]) hx hb dX2_init_40 hl (k := 0) rfl (by decide) (by decide) rfl (fun ls hl => ?_)
  refine lv_goto (tgt := 18) hx hb dX2_init_43 (by decide) ?_
  refine lv_iload_n hx hb dX2_init_18 rfl (lv_at hl 0 rfl) ?_
  refine lv_aload_n hx hb dX2_init_19 rfl (lv_at hl 1 rfl) ?_
  refine g_get hC hP fg_X2_15 0 rfl rfl dX2_init_20 ?_
  refine g_alen hC hP 1 3 rfl rfl (v := 8) rfl dX2_init_23 ?_
  refine lv_icmp_ge (tgt := 46) hx hb dX2_init_24 (by decide) (fun c => absurd c (by decide)) (fun _ => ?_)
  refine lv_aload_n hx hb dX2_init_27 rfl (lv_at hl 1 rfl) ?_
  refine g_get hC hP fg_X2_15 0 rfl rfl dX2_init_28 ?_
  refine lv_iload_n hx hb dX2_init_31 rfl (lv_at hl 0 rfl) ?_
  refine g_new hC hP hA nw_X2_13 (Nat.le_of_ble_eq_true rfl) (Nat.le_of_ble_eq_true rfl) dX2_init_32 (fun q12 H hP => ?_)
  refine W.widen (k := 12) (n := 276) (Nat.le_of_ble_eq_true rfl) (Nat.le_of_ble_eq_true rfl) ?_
  have hP : PD (dC, dI) A s.heap [(q0, .inr (2, [.ref q1, .int 0])), (q1, .inl (cc 3, 8, .inr (.inr (.inr (.inr (va_up (va_up (va_up (va_up (va_up (fun _ => none) (0 : Int32).toNatClampNeg (some q2)) (1 : Int32).toNatClampNeg (some q4)) (2 : Int32).toNatClampNeg (some q6)) (3 : Int32).toNatClampNeg (some q8)) (4 : Int32).toNatClampNeg (some q10))))))), (q2, .inr (4, [.ref q3, .int 0, .int 0])), (q3, .inl (cc 0, 50, .inl (fun _ => 0))), (q4, .inr (4, [.ref q5, .int 0, .int 0])), (q5, .inl (cc 0, 50, .inl (fun _ => 0))), (q6, .inr (4, [.ref q7, .int 0, .int 0])), (q7, .inl (cc 0, 50, .inl (fun _ => 0))), (q8, .inr (4, [.ref q9, .int 0, .int 0])), (q9, .inl (cc 0, 50, .inl (fun _ => 0))), (q10, .inr (4, [.ref q11, .int 0, .int 0])), (q11, .inl (cc 0, 50, .inl (fun _ => 0))), (q12, .inr (4, [.null, .int 0, .int 0]))] H locs := hP
  refine lv_dup hx hb dX2_init_35 rfl ?_
  refine kc_n (wr := [(q0, .inr (2, [.ref q1, .int 0])), (q1, .inl (cc 3, 8, .inr (.inr (.inr (.inr (va_up (va_up (va_up (va_up (va_up (fun _ => none) (0 : Int32).toNatClampNeg (some q2)) (1 : Int32).toNatClampNeg (some q4)) (2 : Int32).toNatClampNeg (some q6)) (3 : Int32).toNatClampNeg (some q8)) (4 : Int32).toNatClampNeg (some q10))))))), (q2, .inr (4, [.ref q3, .int 0, .int 0])), (q3, .inl (cc 0, 50, .inl (fun _ => 0))), (q4, .inr (4, [.ref q5, .int 0, .int 0])), (q5, .inl (cc 0, 50, .inl (fun _ => 0))), (q6, .inr (4, [.ref q7, .int 0, .int 0])), (q7, .inl (cc 0, 50, .inl (fun _ => 0))), (q8, .inr (4, [.ref q9, .int 0, .int 0])), (q9, .inl (cc 0, 50, .inl (fun _ => 0))), (q10, .inr (4, [.ref q11, .int 0, .int 0])), (q11, .inl (cc 0, 50, .inl (fun _ => 0)))]) (kI hC (c_X4_init l dC dI cc q12 H.size) ci_X2_21 kw55 rfl rfl ⟨(Nat.le_of_ble_eq_true rfl), (Nat.le_of_ble_eq_true rfl)⟩ hP [12] rfl rfl (As := []) (rest := [.ref q12, .int 5, .ref q1]) rfl rfl hl.1 (Nat.le_of_ble_eq_true rfl) dX2_init_36 ⟨(Nat.le_of_ble_eq_true rfl), (Nat.le_of_ble_eq_true rfl)⟩) hP hA [12] [0, 1, 2, 3, 4, 5, 6, 7, 8, 9, 10, 11] rfl rfl rfl (by decide) (fun q13 H locs hP => ?_)
  refine W.widen (k := 13) (n := 326) (Nat.le_of_ble_eq_true rfl) (Nat.le_of_ble_eq_true rfl) ?_
  have hP : PD (dC, dI) A s.heap [(q0, .inr (2, [.ref q1, .int 0])), (q1, .inl (cc 3, 8, .inr (.inr (.inr (.inr (va_up (va_up (va_up (va_up (va_up (fun _ => none) (0 : Int32).toNatClampNeg (some q2)) (1 : Int32).toNatClampNeg (some q4)) (2 : Int32).toNatClampNeg (some q6)) (3 : Int32).toNatClampNeg (some q8)) (4 : Int32).toNatClampNeg (some q10))))))), (q2, .inr (4, [.ref q3, .int 0, .int 0])), (q3, .inl (cc 0, 50, .inl (fun _ => 0))), (q4, .inr (4, [.ref q5, .int 0, .int 0])), (q5, .inl (cc 0, 50, .inl (fun _ => 0))), (q6, .inr (4, [.ref q7, .int 0, .int 0])), (q7, .inl (cc 0, 50, .inl (fun _ => 0))), (q8, .inr (4, [.ref q9, .int 0, .int 0])), (q9, .inl (cc 0, 50, .inl (fun _ => 0))), (q10, .inr (4, [.ref q11, .int 0, .int 0])), (q11, .inl (cc 0, 50, .inl (fun _ => 0))), (q12, .inr (4, [.ref q13, .int 0, .int 0])), (q13, .inl (cc 0, 50, .inl (fun _ => 0)))] H locs := hP
  refine g_aast (r := (RX4, TX4, 3)) hC hP 1 3 (qk := 12) (ci := 4) rfl rfl rfl rfl (by unfold vp_in; decide) dX2_init_39 (fun H locs hP => ?_)
  have hP : PD (dC, dI) A s.heap [(q0, .inr (2, [.ref q1, .int 0])), (q1, .inl (cc 3, 8, .inr (.inr (.inr (.inr (va_up (va_up (va_up (va_up (va_up (va_up (fun _ => none) (0 : Int32).toNatClampNeg (some q2)) (1 : Int32).toNatClampNeg (some q4)) (2 : Int32).toNatClampNeg (some q6)) (3 : Int32).toNatClampNeg (some q8)) (4 : Int32).toNatClampNeg (some q10)) (5 : Int32).toNatClampNeg (some q12))))))), (q2, .inr (4, [.ref q3, .int 0, .int 0])), (q3, .inl (cc 0, 50, .inl (fun _ => 0))), (q4, .inr (4, [.ref q5, .int 0, .int 0])), (q5, .inl (cc 0, 50, .inl (fun _ => 0))), (q6, .inr (4, [.ref q7, .int 0, .int 0])), (q7, .inl (cc 0, 50, .inl (fun _ => 0))), (q8, .inr (4, [.ref q9, .int 0, .int 0])), (q9, .inl (cc 0, 50, .inl (fun _ => 0))), (q10, .inr (4, [.ref q11, .int 0, .int 0])), (q11, .inl (cc 0, 50, .inl (fun _ => 0))), (q12, .inr (4, [.ref q13, .int 0, .int 0])), (q13, .inl (cc 0, 50, .inl (fun _ => 0)))] H locs := hP
  refine lv_iinc (v := 6) (lv' := [(2, .int 6), (0, .ref q0), (1, .int 8)]) hx hb dX2_init_40 hl (k := 0) rfl (by decide) (by decide) rfl (fun ls hl => ?_)
  refine lv_goto (tgt := 18) hx hb dX2_init_43 (by decide) ?_
  refine lv_iload_n hx hb dX2_init_18 rfl (lv_at hl 0 rfl) ?_
  refine lv_aload_n hx hb dX2_init_19 rfl (lv_at hl 1 rfl) ?_
  refine g_get hC hP fg_X2_15 0 rfl rfl dX2_init_20 ?_
  refine g_alen hC hP 1 3 rfl rfl (v := 8) rfl dX2_init_23 ?_
  refine lv_icmp_ge (tgt := 46) hx hb dX2_init_24 (by decide) (fun c => absurd c (by decide)) (fun _ => ?_)
  refine lv_aload_n hx hb dX2_init_27 rfl (lv_at hl 1 rfl) ?_
  refine g_get hC hP fg_X2_15 0 rfl rfl dX2_init_28 ?_
  refine lv_iload_n hx hb dX2_init_31 rfl (lv_at hl 0 rfl) ?_
  refine g_new hC hP hA nw_X2_13 (Nat.le_of_ble_eq_true rfl) (Nat.le_of_ble_eq_true rfl) dX2_init_32 (fun q14 H hP => ?_)
  refine W.widen (k := 14) (n := 329) (Nat.le_of_ble_eq_true rfl) (Nat.le_of_ble_eq_true rfl) ?_
  have hP : PD (dC, dI) A s.heap [(q0, .inr (2, [.ref q1, .int 0])), (q1, .inl (cc 3, 8, .inr (.inr (.inr (.inr (va_up (va_up (va_up (va_up (va_up (va_up (fun _ => none) (0 : Int32).toNatClampNeg (some q2)) (1 : Int32).toNatClampNeg (some q4)) (2 : Int32).toNatClampNeg (some q6)) (3 : Int32).toNatClampNeg (some q8)) (4 : Int32).toNatClampNeg (some q10)) (5 : Int32).toNatClampNeg (some q12))))))), (q2, .inr (4, [.ref q3, .int 0, .int 0])), (q3, .inl (cc 0, 50, .inl (fun _ => 0))), (q4, .inr (4, [.ref q5, .int 0, .int 0])), (q5, .inl (cc 0, 50, .inl (fun _ => 0))), (q6, .inr (4, [.ref q7, .int 0, .int 0])), (q7, .inl (cc 0, 50, .inl (fun _ => 0))), (q8, .inr (4, [.ref q9, .int 0, .int 0])), (q9, .inl (cc 0, 50, .inl (fun _ => 0))), (q10, .inr (4, [.ref q11, .int 0, .int 0])), (q11, .inl (cc 0, 50, .inl (fun _ => 0))), (q12, .inr (4, [.ref q13, .int 0, .int 0])), (q13, .inl (cc 0, 50, .inl (fun _ => 0))), (q14, .inr (4, [.null, .int 0, .int 0]))] H locs := hP
  refine lv_dup hx hb dX2_init_35 rfl ?_
  refine kc_n (wr := [(q0, .inr (2, [.ref q1, .int 0])), (q1, .inl (cc 3, 8, .inr (.inr (.inr (.inr (va_up (va_up (va_up (va_up (va_up (va_up (fun _ => none) (0 : Int32).toNatClampNeg (some q2)) (1 : Int32).toNatClampNeg (some q4)) (2 : Int32).toNatClampNeg (some q6)) (3 : Int32).toNatClampNeg (some q8)) (4 : Int32).toNatClampNeg (some q10)) (5 : Int32).toNatClampNeg (some q12))))))), (q2, .inr (4, [.ref q3, .int 0, .int 0])), (q3, .inl (cc 0, 50, .inl (fun _ => 0))), (q4, .inr (4, [.ref q5, .int 0, .int 0])), (q5, .inl (cc 0, 50, .inl (fun _ => 0))), (q6, .inr (4, [.ref q7, .int 0, .int 0])), (q7, .inl (cc 0, 50, .inl (fun _ => 0))), (q8, .inr (4, [.ref q9, .int 0, .int 0])), (q9, .inl (cc 0, 50, .inl (fun _ => 0))), (q10, .inr (4, [.ref q11, .int 0, .int 0])), (q11, .inl (cc 0, 50, .inl (fun _ => 0))), (q12, .inr (4, [.ref q13, .int 0, .int 0])), (q13, .inl (cc 0, 50, .inl (fun _ => 0)))]) (kI hC (c_X4_init l dC dI cc q14 H.size) ci_X2_21 kw55 rfl rfl ⟨(Nat.le_of_ble_eq_true rfl), (Nat.le_of_ble_eq_true rfl)⟩ hP [14] rfl rfl (As := []) (rest := [.ref q14, .int 6, .ref q1]) rfl rfl hl.1 (Nat.le_of_ble_eq_true rfl) dX2_init_36 ⟨(Nat.le_of_ble_eq_true rfl), (Nat.le_of_ble_eq_true rfl)⟩) hP hA [14] [0, 1, 2, 3, 4, 5, 6, 7, 8, 9, 10, 11, 12, 13] rfl rfl rfl (by decide) (fun q15 H locs hP => ?_)
  refine W.widen (k := 15) (n := 379) (Nat.le_of_ble_eq_true rfl) (Nat.le_of_ble_eq_true rfl) ?_
  have hP : PD (dC, dI) A s.heap [(q0, .inr (2, [.ref q1, .int 0])), (q1, .inl (cc 3, 8, .inr (.inr (.inr (.inr (va_up (va_up (va_up (va_up (va_up (va_up (fun _ => none) (0 : Int32).toNatClampNeg (some q2)) (1 : Int32).toNatClampNeg (some q4)) (2 : Int32).toNatClampNeg (some q6)) (3 : Int32).toNatClampNeg (some q8)) (4 : Int32).toNatClampNeg (some q10)) (5 : Int32).toNatClampNeg (some q12))))))), (q2, .inr (4, [.ref q3, .int 0, .int 0])), (q3, .inl (cc 0, 50, .inl (fun _ => 0))), (q4, .inr (4, [.ref q5, .int 0, .int 0])), (q5, .inl (cc 0, 50, .inl (fun _ => 0))), (q6, .inr (4, [.ref q7, .int 0, .int 0])), (q7, .inl (cc 0, 50, .inl (fun _ => 0))), (q8, .inr (4, [.ref q9, .int 0, .int 0])), (q9, .inl (cc 0, 50, .inl (fun _ => 0))), (q10, .inr (4, [.ref q11, .int 0, .int 0])), (q11, .inl (cc 0, 50, .inl (fun _ => 0))), (q12, .inr (4, [.ref q13, .int 0, .int 0])), (q13, .inl (cc 0, 50, .inl (fun _ => 0))), (q14, .inr (4, [.ref q15, .int 0, .int 0])), (q15, .inl (cc 0, 50, .inl (fun _ => 0)))] H locs := hP
  refine g_aast (r := (RX4, TX4, 3)) hC hP 1 3 (qk := 14) (ci := 4) rfl rfl rfl rfl (by unfold vp_in; decide) dX2_init_39 (fun H locs hP => ?_)
  have hP : PD (dC, dI) A s.heap [(q0, .inr (2, [.ref q1, .int 0])), (q1, .inl (cc 3, 8, .inr (.inr (.inr (.inr (va_up (va_up (va_up (va_up (va_up (va_up (va_up (fun _ => none) (0 : Int32).toNatClampNeg (some q2)) (1 : Int32).toNatClampNeg (some q4)) (2 : Int32).toNatClampNeg (some q6)) (3 : Int32).toNatClampNeg (some q8)) (4 : Int32).toNatClampNeg (some q10)) (5 : Int32).toNatClampNeg (some q12)) (6 : Int32).toNatClampNeg (some q14))))))), (q2, .inr (4, [.ref q3, .int 0, .int 0])), (q3, .inl (cc 0, 50, .inl (fun _ => 0))), (q4, .inr (4, [.ref q5, .int 0, .int 0])), (q5, .inl (cc 0, 50, .inl (fun _ => 0))), (q6, .inr (4, [.ref q7, .int 0, .int 0])), (q7, .inl (cc 0, 50, .inl (fun _ => 0))), (q8, .inr (4, [.ref q9, .int 0, .int 0])), (q9, .inl (cc 0, 50, .inl (fun _ => 0))), (q10, .inr (4, [.ref q11, .int 0, .int 0])), (q11, .inl (cc 0, 50, .inl (fun _ => 0))), (q12, .inr (4, [.ref q13, .int 0, .int 0])), (q13, .inl (cc 0, 50, .inl (fun _ => 0))), (q14, .inr (4, [.ref q15, .int 0, .int 0])), (q15, .inl (cc 0, 50, .inl (fun _ => 0)))] H locs := hP
  refine lv_iinc (v := 7) (lv' := [(2, .int 7), (0, .ref q0), (1, .int 8)]) hx hb dX2_init_40 hl (k := 0) rfl (by decide) (by decide) rfl (fun ls hl => ?_)
  refine lv_goto (tgt := 18) hx hb dX2_init_43 (by decide) ?_
  refine lv_iload_n hx hb dX2_init_18 rfl (lv_at hl 0 rfl) ?_
  refine lv_aload_n hx hb dX2_init_19 rfl (lv_at hl 1 rfl) ?_
  refine g_get hC hP fg_X2_15 0 rfl rfl dX2_init_20 ?_
  refine g_alen hC hP 1 3 rfl rfl (v := 8) rfl dX2_init_23 ?_
  refine lv_icmp_ge (tgt := 46) hx hb dX2_init_24 (by decide) (fun c => absurd c (by decide)) (fun _ => ?_)
  refine lv_aload_n hx hb dX2_init_27 rfl (lv_at hl 1 rfl) ?_
  refine g_get hC hP fg_X2_15 0 rfl rfl dX2_init_28 ?_
  refine lv_iload_n hx hb dX2_init_31 rfl (lv_at hl 0 rfl) ?_
  refine g_new hC hP hA nw_X2_13 (Nat.le_of_ble_eq_true rfl) (Nat.le_of_ble_eq_true rfl) dX2_init_32 (fun q16 H hP => ?_)
  refine W.widen (k := 16) (n := 382) (Nat.le_of_ble_eq_true rfl) (Nat.le_of_ble_eq_true rfl) ?_
  have hP : PD (dC, dI) A s.heap [(q0, .inr (2, [.ref q1, .int 0])), (q1, .inl (cc 3, 8, .inr (.inr (.inr (.inr (va_up (va_up (va_up (va_up (va_up (va_up (va_up (fun _ => none) (0 : Int32).toNatClampNeg (some q2)) (1 : Int32).toNatClampNeg (some q4)) (2 : Int32).toNatClampNeg (some q6)) (3 : Int32).toNatClampNeg (some q8)) (4 : Int32).toNatClampNeg (some q10)) (5 : Int32).toNatClampNeg (some q12)) (6 : Int32).toNatClampNeg (some q14))))))), (q2, .inr (4, [.ref q3, .int 0, .int 0])), (q3, .inl (cc 0, 50, .inl (fun _ => 0))), (q4, .inr (4, [.ref q5, .int 0, .int 0])), (q5, .inl (cc 0, 50, .inl (fun _ => 0))), (q6, .inr (4, [.ref q7, .int 0, .int 0])), (q7, .inl (cc 0, 50, .inl (fun _ => 0))), (q8, .inr (4, [.ref q9, .int 0, .int 0])), (q9, .inl (cc 0, 50, .inl (fun _ => 0))), (q10, .inr (4, [.ref q11, .int 0, .int 0])), (q11, .inl (cc 0, 50, .inl (fun _ => 0))), (q12, .inr (4, [.ref q13, .int 0, .int 0])), (q13, .inl (cc 0, 50, .inl (fun _ => 0))), (q14, .inr (4, [.ref q15, .int 0, .int 0])), (q15, .inl (cc 0, 50, .inl (fun _ => 0))), (q16, .inr (4, [.null, .int 0, .int 0]))] H locs := hP
  refine lv_dup hx hb dX2_init_35 rfl ?_
  refine kc_n (wr := [(q0, .inr (2, [.ref q1, .int 0])), (q1, .inl (cc 3, 8, .inr (.inr (.inr (.inr (va_up (va_up (va_up (va_up (va_up (va_up (va_up (fun _ => none) (0 : Int32).toNatClampNeg (some q2)) (1 : Int32).toNatClampNeg (some q4)) (2 : Int32).toNatClampNeg (some q6)) (3 : Int32).toNatClampNeg (some q8)) (4 : Int32).toNatClampNeg (some q10)) (5 : Int32).toNatClampNeg (some q12)) (6 : Int32).toNatClampNeg (some q14))))))), (q2, .inr (4, [.ref q3, .int 0, .int 0])), (q3, .inl (cc 0, 50, .inl (fun _ => 0))), (q4, .inr (4, [.ref q5, .int 0, .int 0])), (q5, .inl (cc 0, 50, .inl (fun _ => 0))), (q6, .inr (4, [.ref q7, .int 0, .int 0])), (q7, .inl (cc 0, 50, .inl (fun _ => 0))), (q8, .inr (4, [.ref q9, .int 0, .int 0])), (q9, .inl (cc 0, 50, .inl (fun _ => 0))), (q10, .inr (4, [.ref q11, .int 0, .int 0])), (q11, .inl (cc 0, 50, .inl (fun _ => 0))), (q12, .inr (4, [.ref q13, .int 0, .int 0])), (q13, .inl (cc 0, 50, .inl (fun _ => 0))), (q14, .inr (4, [.ref q15, .int 0, .int 0])), (q15, .inl (cc 0, 50, .inl (fun _ => 0)))]) (kI hC (c_X4_init l dC dI cc q16 H.size) ci_X2_21 kw55 rfl rfl ⟨(Nat.le_of_ble_eq_true rfl), (Nat.le_of_ble_eq_true rfl)⟩ hP [16] rfl rfl (As := []) (rest := [.ref q16, .int 7, .ref q1]) rfl rfl hl.1 (Nat.le_of_ble_eq_true rfl) dX2_init_36 ⟨(Nat.le_of_ble_eq_true rfl), (Nat.le_of_ble_eq_true rfl)⟩) hP hA [16] [0, 1, 2, 3, 4, 5, 6, 7, 8, 9, 10, 11, 12, 13, 14, 15] rfl rfl rfl (by decide) (fun q17 H locs hP => ?_)
  refine W.widen (k := 17) (n := 432) (Nat.le_of_ble_eq_true rfl) (Nat.le_of_ble_eq_true rfl) ?_
  have hP : PD (dC, dI) A s.heap [(q0, .inr (2, [.ref q1, .int 0])), (q1, .inl (cc 3, 8, .inr (.inr (.inr (.inr (va_up (va_up (va_up (va_up (va_up (va_up (va_up (fun _ => none) (0 : Int32).toNatClampNeg (some q2)) (1 : Int32).toNatClampNeg (some q4)) (2 : Int32).toNatClampNeg (some q6)) (3 : Int32).toNatClampNeg (some q8)) (4 : Int32).toNatClampNeg (some q10)) (5 : Int32).toNatClampNeg (some q12)) (6 : Int32).toNatClampNeg (some q14))))))), (q2, .inr (4, [.ref q3, .int 0, .int 0])), (q3, .inl (cc 0, 50, .inl (fun _ => 0))), (q4, .inr (4, [.ref q5, .int 0, .int 0])), (q5, .inl (cc 0, 50, .inl (fun _ => 0))), (q6, .inr (4, [.ref q7, .int 0, .int 0])), (q7, .inl (cc 0, 50, .inl (fun _ => 0))), (q8, .inr (4, [.ref q9, .int 0, .int 0])), (q9, .inl (cc 0, 50, .inl (fun _ => 0))), (q10, .inr (4, [.ref q11, .int 0, .int 0])), (q11, .inl (cc 0, 50, .inl (fun _ => 0))), (q12, .inr (4, [.ref q13, .int 0, .int 0])), (q13, .inl (cc 0, 50, .inl (fun _ => 0))), (q14, .inr (4, [.ref q15, .int 0, .int 0])), (q15, .inl (cc 0, 50, .inl (fun _ => 0))), (q16, .inr (4, [.ref q17, .int 0, .int 0])), (q17, .inl (cc 0, 50, .inl (fun _ => 0)))] H locs := hP
  refine g_aast (r := (RX4, TX4, 3)) hC hP 1 3 (qk := 16) (ci := 4) rfl rfl rfl rfl (by unfold vp_in; decide) dX2_init_39 (fun H locs hP => ?_)
  have hP : PD (dC, dI) A s.heap [(q0, .inr (2, [.ref q1, .int 0])), (q1, .inl (cc 3, 8, .inr (.inr (.inr (.inr (va_up (va_up (va_up (va_up (va_up (va_up (va_up (va_up (fun _ => none) (0 : Int32).toNatClampNeg (some q2)) (1 : Int32).toNatClampNeg (some q4)) (2 : Int32).toNatClampNeg (some q6)) (3 : Int32).toNatClampNeg (some q8)) (4 : Int32).toNatClampNeg (some q10)) (5 : Int32).toNatClampNeg (some q12)) (6 : Int32).toNatClampNeg (some q14)) (7 : Int32).toNatClampNeg (some q16))))))), (q2, .inr (4, [.ref q3, .int 0, .int 0])), (q3, .inl (cc 0, 50, .inl (fun _ => 0))), (q4, .inr (4, [.ref q5, .int 0, .int 0])), (q5, .inl (cc 0, 50, .inl (fun _ => 0))), (q6, .inr (4, [.ref q7, .int 0, .int 0])), (q7, .inl (cc 0, 50, .inl (fun _ => 0))), (q8, .inr (4, [.ref q9, .int 0, .int 0])), (q9, .inl (cc 0, 50, .inl (fun _ => 0))), (q10, .inr (4, [.ref q11, .int 0, .int 0])), (q11, .inl (cc 0, 50, .inl (fun _ => 0))), (q12, .inr (4, [.ref q13, .int 0, .int 0])), (q13, .inl (cc 0, 50, .inl (fun _ => 0))), (q14, .inr (4, [.ref q15, .int 0, .int 0])), (q15, .inl (cc 0, 50, .inl (fun _ => 0))), (q16, .inr (4, [.ref q17, .int 0, .int 0])), (q17, .inl (cc 0, 50, .inl (fun _ => 0)))] H locs := hP
  refine lv_iinc (v := 8) (lv' := [(2, .int 8), (0, .ref q0), (1, .int 8)]) hx hb dX2_init_40 hl (k := 0) rfl (by decide) (by decide) rfl (fun ls hl => ?_)
  refine lv_goto (tgt := 18) hx hb dX2_init_43 (by decide) ?_
  refine lv_iload_n hx hb dX2_init_18 rfl (lv_at hl 0 rfl) ?_
  refine lv_aload_n hx hb dX2_init_19 rfl (lv_at hl 1 rfl) ?_
  refine g_get hC hP fg_X2_15 0 rfl rfl dX2_init_20 ?_
  refine g_alen hC hP 1 3 rfl rfl (v := 8) rfl dX2_init_23 ?_
  refine lv_icmp_ge (tgt := 46) hx hb dX2_init_24 (by decide) (fun _ => ?_) (fun c => absurd (by decide) c)
  have hP := PD_cell hP 1 rfl (x' := (8, .inr (.inr (.inr (.inr fun j => some ((sel8 q2 q4 q6 q8 q10 q12 q14 q16) ((fun j => j) j))))))) (by rw [vp_cell_q, vp_cell_q]; exact arrV_cong (fun j hj => by rcases lt8 hj with rfl | rfl | rfl | rfl | rfl | rfl | rfl | rfl <;> rfl))
  exact ret_n hC hr hlk hP dX2_init_46 (q1, (sel8 q2 q4 q6 q8 q10 q12 q14 q16), (sel8 q3 q5 q7 q9 q11 q13 q15 q17)) rfl
set_option maxHeartbeats 8000000 in
set_option maxRecDepth 100000 in
theorem c_X2_init_2 (l : Launch) (dC : Nat → ClassId) (dI : Nat → Nat → Nat) (cc : Nat → ClassId) (q0 : Nat) (sz : Nat) : Met l yX2_init (mw yX2_init cX2_init 3 none) ({ frames := 2, cells := 5, slots := 108, locals := 32 } : Room) (va_Pc [.ref q0, .int 2] (mP (dC, dI) (ts cc) sz [(q0, .inr (2, [.null, .int 0]))])) ((fun A => va_Qv (fun (_ : Nat × (Nat → Nat) × (Nat → Nat)) => True) (fun (u : Nat × (Nat → Nat) × (Nat → Nat)) t => va_P (dC, dI) classes [(q0, .inr (2, [.ref u.1, .int 0])), (u.1, .inl (cc 3, 2, .inr (.inr (.inr (.inr fun j => some (u.2.1 ((fun j => j) j))))))), ((u.2.1 0), .inr (4, [.ref (u.2.2 0), .int ((fun _ => 0) 0), .int ((fun _ => 0) 0)])), ((u.2.2 0), .inl (cc 0, 50, .inl ((fun _ _ => 0) 0))), ((u.2.1 1), .inr (4, [.ref (u.2.2 1), .int ((fun _ => 0) 1), .int ((fun _ => 0) 1)])), ((u.2.2 1), .inl (cc 0, 50, .inl ((fun _ _ => 0) 1)))] t.heap ∧ va_D A [(q0, .inr (2, [.ref u.1, .int 0])), (u.1, .inl (cc 3, 2, .inr (.inr (.inr (.inr fun j => some (u.2.1 ((fun j => j) j))))))), ((u.2.1 0), .inr (4, [.ref (u.2.2 0), .int ((fun _ => 0) 0), .int ((fun _ => 0) 0)])), ((u.2.2 0), .inl (cc 0, 50, .inl ((fun _ _ => 0) 0))), ((u.2.1 1), .inr (4, [.ref (u.2.2 1), .int ((fun _ => 0) 1), .int ((fun _ => 0) 1)])), ((u.2.2 1), .inl (cc 0, 50, .inl ((fun _ _ => 0) 1)))]) A) (va_A [(q0, .inr (2, [.null, .int 0]))] sz)) 5 108 (va_A [(q0, .inr (2, [.null, .int 0]))] sz) := by
  refine met_go (Qc := fun A => va_Qv (fun (_ : Nat × (Nat → Nat) × (Nat → Nat)) => True) (fun (u : Nat × (Nat → Nat) × (Nat → Nat)) t => va_P (dC, dI) classes [(q0, .inr (2, [.ref u.1, .int 0])), (u.1, .inl (cc 3, 2, .inr (.inr (.inr (.inr fun j => some (u.2.1 ((fun j => j) j))))))), ((u.2.1 0), .inr (4, [.ref (u.2.2 0), .int ((fun _ => 0) 0), .int ((fun _ => 0) 0)])), ((u.2.2 0), .inl (cc 0, 50, .inl ((fun _ _ => 0) 0))), ((u.2.1 1), .inr (4, [.ref (u.2.2 1), .int ((fun _ => 0) 1), .int ((fun _ => 0) 1)])), ((u.2.2 1), .inl (cc 0, 50, .inl ((fun _ _ => 0) 1)))] t.heap ∧ va_D A [(q0, .inr (2, [.ref u.1, .int 0])), (u.1, .inl (cc 3, 2, .inr (.inr (.inr (.inr fun j => some (u.2.1 ((fun j => j) j))))))), ((u.2.1 0), .inr (4, [.ref (u.2.2 0), .int ((fun _ => 0) 0), .int ((fun _ => 0) 0)])), ((u.2.2 0), .inl (cc 0, 50, .inl ((fun _ _ => 0) 0))), ((u.2.1 1), .inr (4, [.ref (u.2.2 1), .int ((fun _ => 0) 1), .int ((fun _ => 0) 1)])), ((u.2.2 1), .inl (cc 0, 50, .inl ((fun _ _ => 0) 1)))]) A) (by decide) (Nat.le_of_ble_eq_true rfl) ?_
  intro p e s m below meth c A ls H locs hC hr hlk hin hA hP hl _
  have hC : CX p m c cX2_init 3 s ([.ref q0, .int 2] : List Value).toArray RX2 (dC, dI) (ts cc) := hC
  have hin : meth.name = "<init>" := hin
  have hx := hC.1.1
  have hb := hC.1.2
  have hl : lv_has ls 3 [(0, .ref q0), (1, .int 2)] := hl
  refine lv_aload_n hx hb dX2_init_0 rfl (lv_at hl 0 rfl) ?_
  refine g_objInit hC kw168 kw27 kw28 hl.1 dX2_init_1 (Nat.le_of_ble_eq_true rfl) (Nat.le_of_ble_eq_true rfl) ?_
  refine lv_aload_n hx hb dX2_init_4 rfl (lv_at hl 0 rfl) ?_
  refine lv_iconst (v := 1) hx hb dX2_init_5 (by decide) ?_
  refine lv_iload_n hx hb dX2_init_6 rfl (lv_at hl 1 rfl) ?_
  refine g_max hC hl.1 mh_X2_7 (Nat.le_of_ble_eq_true rfl) (Nat.le_of_ble_eq_true rfl) (Nat.le_of_ble_eq_true rfl) (Nat.le_of_ble_eq_true rfl) dX2_init_7 ?_
  rw [show (if (1 : Int32) < 2 then (2 : Int32) else 1) = 2 from by decide]
  refine g_newq (N' := 2) hC hP hA kw172 3 rfl (by decide) (by decide) (Nat.le_of_ble_eq_true rfl) (Nat.le_of_ble_eq_true rfl) (Nat.le_of_ble_eq_true rfl) dX2_init_10 (fun q1 H hP => ?_)
  refine W.widen (k := 1) (n := 2) (Nat.le_of_ble_eq_true rfl) (Nat.le_of_ble_eq_true rfl) ?_
  have hP : PD (dC, dI) A s.heap [(q0, .inr (2, [.null, .int 0])), (q1, .inl (cc 3, 2, .inr (.inr (.inr (.inr (fun _ => none))))))] H locs := hP
  refine g_putF hC hP fg_X2_15 hin (C9 := RX2) (T9 := TX2) (N9 := 2) rfl rfl 0 rfl rfl rfl (Nat.le_of_ble_eq_true rfl) dX2_init_13 (fun H locs hP => ?_)
  have hP : PD (dC, dI) A s.heap [(q0, .inr (2, [.ref q1, .int 0])), (q1, .inl (cc 3, 2, .inr (.inr (.inr (.inr (fun _ => none))))))] H locs := hP
  refine lv_iconst (v := 0) hx hb dX2_init_16 (by decide) ?_
  refine lv_istore_n (lv' := [(2, .int 0), (0, .ref q0), (1, .int 2)]) hx hb dX2_init_17 rfl hl (by decide) rfl (fun ls hl => ?_)
  refine lv_iload_n hx hb dX2_init_18 rfl (lv_at hl 0 rfl) ?_
  refine lv_aload_n hx hb dX2_init_19 rfl (lv_at hl 1 rfl) ?_
  refine g_get hC hP fg_X2_15 0 rfl rfl dX2_init_20 ?_
  refine g_alen hC hP 1 3 rfl rfl (v := 2) rfl dX2_init_23 ?_
  refine lv_icmp_ge (tgt := 46) hx hb dX2_init_24 (by decide) (fun c => absurd c (by decide)) (fun _ => ?_)
  refine lv_aload_n hx hb dX2_init_27 rfl (lv_at hl 1 rfl) ?_
  refine g_get hC hP fg_X2_15 0 rfl rfl dX2_init_28 ?_
  refine lv_iload_n hx hb dX2_init_31 rfl (lv_at hl 0 rfl) ?_
  refine g_new hC hP hA nw_X2_13 (Nat.le_of_ble_eq_true rfl) (Nat.le_of_ble_eq_true rfl) dX2_init_32 (fun q2 H hP => ?_)
  refine W.widen (k := 2) (n := 5) (Nat.le_of_ble_eq_true rfl) (Nat.le_of_ble_eq_true rfl) ?_
  have hP : PD (dC, dI) A s.heap [(q0, .inr (2, [.ref q1, .int 0])), (q1, .inl (cc 3, 2, .inr (.inr (.inr (.inr (fun _ => none)))))), (q2, .inr (4, [.null, .int 0, .int 0]))] H locs := hP
  refine lv_dup hx hb dX2_init_35 rfl ?_
  refine kc_n (wr := [(q0, .inr (2, [.ref q1, .int 0])), (q1, .inl (cc 3, 2, .inr (.inr (.inr (.inr (fun _ => none))))))]) (kI hC (c_X4_init l dC dI cc q2 H.size) ci_X2_21 kw55 rfl rfl ⟨(Nat.le_of_ble_eq_true rfl), (Nat.le_of_ble_eq_true rfl)⟩ hP [2] rfl rfl (As := []) (rest := [.ref q2, .int 0, .ref q1]) rfl rfl hl.1 (Nat.le_of_ble_eq_true rfl) dX2_init_36 ⟨(Nat.le_of_ble_eq_true rfl), (Nat.le_of_ble_eq_true rfl)⟩) hP hA [2] [0, 1] rfl rfl rfl (by decide) (fun q3 H locs hP => ?_)
  refine W.widen (k := 3) (n := 55) (Nat.le_of_ble_eq_true rfl) (Nat.le_of_ble_eq_true rfl) ?_
  have hP : PD (dC, dI) A s.heap [(q0, .inr (2, [.ref q1, .int 0])), (q1, .inl (cc 3, 2, .inr (.inr (.inr (.inr (fun _ => none)))))), (q2, .inr (4, [.ref q3, .int 0, .int 0])), (q3, .inl (cc 0, 50, .inl (fun _ => 0)))] H locs := hP
  refine g_aast (r := (RX4, TX4, 3)) hC hP 1 3 (qk := 2) (ci := 4) rfl rfl rfl rfl (by unfold vp_in; decide) dX2_init_39 (fun H locs hP => ?_)
  have hP : PD (dC, dI) A s.heap [(q0, .inr (2, [.ref q1, .int 0])), (q1, .inl (cc 3, 2, .inr (.inr (.inr (.inr (va_up (fun _ => none) (0 : Int32).toNatClampNeg (some q2))))))), (q2, .inr (4, [.ref q3, .int 0, .int 0])), (q3, .inl (cc 0, 50, .inl (fun _ => 0)))] H locs := hP
  refine lv_iinc (v := 1) (lv' := [(2, .int 1), (0, .ref q0), (1, .int 2)]) hx hb dX2_init_40 hl (k := 0) rfl (by decide) (by decide) rfl (fun ls hl => ?_)
  refine lv_goto (tgt := 18) hx hb dX2_init_43 (by decide) ?_
  refine lv_iload_n hx hb dX2_init_18 rfl (lv_at hl 0 rfl) ?_
  refine lv_aload_n hx hb dX2_init_19 rfl (lv_at hl 1 rfl) ?_
  refine g_get hC hP fg_X2_15 0 rfl rfl dX2_init_20 ?_
  refine g_alen hC hP 1 3 rfl rfl (v := 2) rfl dX2_init_23 ?_
  refine lv_icmp_ge (tgt := 46) hx hb dX2_init_24 (by decide) (fun c => absurd c (by decide)) (fun _ => ?_)
  refine lv_aload_n hx hb dX2_init_27 rfl (lv_at hl 1 rfl) ?_
  refine g_get hC hP fg_X2_15 0 rfl rfl dX2_init_28 ?_
  refine lv_iload_n hx hb dX2_init_31 rfl (lv_at hl 0 rfl) ?_
  refine g_new hC hP hA nw_X2_13 (Nat.le_of_ble_eq_true rfl) (Nat.le_of_ble_eq_true rfl) dX2_init_32 (fun q4 H hP => ?_)
  refine W.widen (k := 4) (n := 58) (Nat.le_of_ble_eq_true rfl) (Nat.le_of_ble_eq_true rfl) ?_
  have hP : PD (dC, dI) A s.heap [(q0, .inr (2, [.ref q1, .int 0])), (q1, .inl (cc 3, 2, .inr (.inr (.inr (.inr (va_up (fun _ => none) (0 : Int32).toNatClampNeg (some q2))))))), (q2, .inr (4, [.ref q3, .int 0, .int 0])), (q3, .inl (cc 0, 50, .inl (fun _ => 0))), (q4, .inr (4, [.null, .int 0, .int 0]))] H locs := hP
  refine lv_dup hx hb dX2_init_35 rfl ?_
  refine kc_n (wr := [(q0, .inr (2, [.ref q1, .int 0])), (q1, .inl (cc 3, 2, .inr (.inr (.inr (.inr (va_up (fun _ => none) (0 : Int32).toNatClampNeg (some q2))))))), (q2, .inr (4, [.ref q3, .int 0, .int 0])), (q3, .inl (cc 0, 50, .inl (fun _ => 0)))]) (kI hC (c_X4_init l dC dI cc q4 H.size) ci_X2_21 kw55 rfl rfl ⟨(Nat.le_of_ble_eq_true rfl), (Nat.le_of_ble_eq_true rfl)⟩ hP [4] rfl rfl (As := []) (rest := [.ref q4, .int 1, .ref q1]) rfl rfl hl.1 (Nat.le_of_ble_eq_true rfl) dX2_init_36 ⟨(Nat.le_of_ble_eq_true rfl), (Nat.le_of_ble_eq_true rfl)⟩) hP hA [4] [0, 1, 2, 3] rfl rfl rfl (by decide) (fun q5 H locs hP => ?_)
  refine W.widen (k := 5) (n := 108) (Nat.le_of_ble_eq_true rfl) (Nat.le_of_ble_eq_true rfl) ?_
  have hP : PD (dC, dI) A s.heap [(q0, .inr (2, [.ref q1, .int 0])), (q1, .inl (cc 3, 2, .inr (.inr (.inr (.inr (va_up (fun _ => none) (0 : Int32).toNatClampNeg (some q2))))))), (q2, .inr (4, [.ref q3, .int 0, .int 0])), (q3, .inl (cc 0, 50, .inl (fun _ => 0))), (q4, .inr (4, [.ref q5, .int 0, .int 0])), (q5, .inl (cc 0, 50, .inl (fun _ => 0)))] H locs := hP
  refine g_aast (r := (RX4, TX4, 3)) hC hP 1 3 (qk := 4) (ci := 4) rfl rfl rfl rfl (by unfold vp_in; decide) dX2_init_39 (fun H locs hP => ?_)
  have hP : PD (dC, dI) A s.heap [(q0, .inr (2, [.ref q1, .int 0])), (q1, .inl (cc 3, 2, .inr (.inr (.inr (.inr (va_up (va_up (fun _ => none) (0 : Int32).toNatClampNeg (some q2)) (1 : Int32).toNatClampNeg (some q4))))))), (q2, .inr (4, [.ref q3, .int 0, .int 0])), (q3, .inl (cc 0, 50, .inl (fun _ => 0))), (q4, .inr (4, [.ref q5, .int 0, .int 0])), (q5, .inl (cc 0, 50, .inl (fun _ => 0)))] H locs := hP
  refine lv_iinc (v := 2) (lv' := [(2, .int 2), (0, .ref q0), (1, .int 2)]) hx hb dX2_init_40 hl (k := 0) rfl (by decide) (by decide) rfl (fun ls hl => ?_)
  refine lv_goto (tgt := 18) hx hb dX2_init_43 (by decide) ?_
  refine lv_iload_n hx hb dX2_init_18 rfl (lv_at hl 0 rfl) ?_
  refine lv_aload_n hx hb dX2_init_19 rfl (lv_at hl 1 rfl) ?_
  refine g_get hC hP fg_X2_15 0 rfl rfl dX2_init_20 ?_
  refine g_alen hC hP 1 3 rfl rfl (v := 2) rfl dX2_init_23 ?_
  refine lv_icmp_ge (tgt := 46) hx hb dX2_init_24 (by decide) (fun _ => ?_) (fun c => absurd (by decide) c)
  have hP := PD_cell hP 1 rfl (x' := (2, .inr (.inr (.inr (.inr fun j => some ((sel2 q2 q4) ((fun j => j) j))))))) (by rw [vp_cell_q, vp_cell_q]; exact arrV_cong (fun j hj => by rcases lt2 hj with rfl | rfl <;> rfl))
  exact ret_n hC hr hlk hP dX2_init_46 (q1, (sel2 q2 q4), (sel2 q3 q5)) rfl
set_option maxHeartbeats 8000000 in
set_option maxRecDepth 100000 in
theorem c_X3_init (l : Launch) (dC : Nat → ClassId) (dI : Nat → Nat → Nat) (cc : Nat → ClassId) (q0 : Nat) (sz : Nat) : Met l yX3_init (mw yX3_init cX3_init 1 none) ({ frames := 2, cells := 7, slots := 74, locals := 32 } : Room) (va_Pc [.ref q0] (mP (dC, dI) (ts cc) sz [(q0, .inr (3, [.null, .null, .null, .null, .int 0]))])) ((fun A => va_Qv (fun (_ : Nat × Nat × Nat × Nat × Nat × Nat × Nat) => True) (fun (u : Nat × Nat × Nat × Nat × Nat × Nat × Nat) t => va_P (dC, dI) classes [(q0, .inr (3, [.ref u.1, .ref u.2.2.1, .ref u.2.2.2.2.2.1, .ref u.2.2.2.2.2.2, .int 0])), (u.1, .inr (4, [.ref u.2.1, .int 0, .int 0])), (u.2.1, .inl (cc 0, 50, .inl (fun _ => 0))), (u.2.2.1, .inr (6, [.ref u.2.2.2.1, .ref u.2.2.2.2.1, .int 0, .int 0])), (u.2.2.2.1, .inl (cc 0, 5, .inl (fun _ => 0))), (u.2.2.2.2.1, .inl (cc 0, 5, .inl (fun _ => 0))), (u.2.2.2.2.2.1, .inr (0, [.int 0, .int 0, .long 0])), (u.2.2.2.2.2.2, .inl (cc 0, 4, .inl (fun _ => 0)))] t.heap ∧ va_D A [(q0, .inr (3, [.ref u.1, .ref u.2.2.1, .ref u.2.2.2.2.2.1, .ref u.2.2.2.2.2.2, .int 0])), (u.1, .inr (4, [.ref u.2.1, .int 0, .int 0])), (u.2.1, .inl (cc 0, 50, .inl (fun _ => 0))), (u.2.2.1, .inr (6, [.ref u.2.2.2.1, .ref u.2.2.2.2.1, .int 0, .int 0])), (u.2.2.2.1, .inl (cc 0, 5, .inl (fun _ => 0))), (u.2.2.2.2.1, .inl (cc 0, 5, .inl (fun _ => 0))), (u.2.2.2.2.2.1, .inr (0, [.int 0, .int 0, .long 0])), (u.2.2.2.2.2.2, .inl (cc 0, 4, .inl (fun _ => 0)))]) A) (va_A [(q0, .inr (3, [.null, .null, .null, .null, .int 0]))] sz)) 7 74 (va_A [(q0, .inr (3, [.null, .null, .null, .null, .int 0]))] sz) := by
  refine met_go (Qc := fun A => va_Qv (fun (_ : Nat × Nat × Nat × Nat × Nat × Nat × Nat) => True) (fun (u : Nat × Nat × Nat × Nat × Nat × Nat × Nat) t => va_P (dC, dI) classes [(q0, .inr (3, [.ref u.1, .ref u.2.2.1, .ref u.2.2.2.2.2.1, .ref u.2.2.2.2.2.2, .int 0])), (u.1, .inr (4, [.ref u.2.1, .int 0, .int 0])), (u.2.1, .inl (cc 0, 50, .inl (fun _ => 0))), (u.2.2.1, .inr (6, [.ref u.2.2.2.1, .ref u.2.2.2.2.1, .int 0, .int 0])), (u.2.2.2.1, .inl (cc 0, 5, .inl (fun _ => 0))), (u.2.2.2.2.1, .inl (cc 0, 5, .inl (fun _ => 0))), (u.2.2.2.2.2.1, .inr (0, [.int 0, .int 0, .long 0])), (u.2.2.2.2.2.2, .inl (cc 0, 4, .inl (fun _ => 0)))] t.heap ∧ va_D A [(q0, .inr (3, [.ref u.1, .ref u.2.2.1, .ref u.2.2.2.2.2.1, .ref u.2.2.2.2.2.2, .int 0])), (u.1, .inr (4, [.ref u.2.1, .int 0, .int 0])), (u.2.1, .inl (cc 0, 50, .inl (fun _ => 0))), (u.2.2.1, .inr (6, [.ref u.2.2.2.1, .ref u.2.2.2.2.1, .int 0, .int 0])), (u.2.2.2.1, .inl (cc 0, 5, .inl (fun _ => 0))), (u.2.2.2.2.1, .inl (cc 0, 5, .inl (fun _ => 0))), (u.2.2.2.2.2.1, .inr (0, [.int 0, .int 0, .long 0])), (u.2.2.2.2.2.2, .inl (cc 0, 4, .inl (fun _ => 0)))]) A) (by decide) (Nat.le_of_ble_eq_true rfl) ?_
  intro p e s m below meth c A ls H locs hC hr hlk hin hA hP hl _
  have hC : CX p m c cX3_init 1 s ([.ref q0] : List Value).toArray RX3 (dC, dI) (ts cc) := hC
  have hin : meth.name = "<init>" := hin
  have hx := hC.1.1
  have hb := hC.1.2
  have hl : lv_has ls 1 [(0, .ref q0)] := hl
  refine lv_aload_n hx hb dX3_init_0 rfl (lv_at hl 0 rfl) ?_
  refine g_objInit hC kw50 kw27 kw28 hl.1 dX3_init_1 (Nat.le_of_ble_eq_true rfl) (Nat.le_of_ble_eq_true rfl) ?_
  refine lv_aload_n hx hb dX3_init_4 rfl (lv_at hl 0 rfl) ?_
  refine g_new hC hP hA nw_X3_9 (Nat.le_of_ble_eq_true rfl) (Nat.le_of_ble_eq_true rfl) dX3_init_5 (fun q1 H hP => ?_)
  refine W.widen (k := 1) (n := 3) (Nat.le_of_ble_eq_true rfl) (Nat.le_of_ble_eq_true rfl) ?_
  have hP : PD (dC, dI) A s.heap [(q0, .inr (3, [.null, .null, .null, .null, .int 0])), (q1, .inr (4, [.null, .int 0, .int 0]))] H locs := hP
  refine lv_dup hx hb dX3_init_8 rfl ?_
  refine kc_n (wr := [(q0, .inr (3, [.null, .null, .null, .null, .int 0]))]) (kI hC (c_X4_init l dC dI cc q1 H.size) ci_X3_11 kw55 rfl rfl ⟨(Nat.le_of_ble_eq_true rfl), (Nat.le_of_ble_eq_true rfl)⟩ hP [1] rfl rfl (As := []) (rest := [.ref q1, .ref q0]) rfl rfl hl.1 (Nat.le_of_ble_eq_true rfl) dX3_init_9 ⟨(Nat.le_of_ble_eq_true rfl), (Nat.le_of_ble_eq_true rfl)⟩) hP hA [1] [0] rfl rfl rfl (by decide) (fun q2 H locs hP => ?_)
  refine W.widen (k := 2) (n := 53) (Nat.le_of_ble_eq_true rfl) (Nat.le_of_ble_eq_true rfl) ?_
  have hP : PD (dC, dI) A s.heap [(q0, .inr (3, [.null, .null, .null, .null, .int 0])), (q1, .inr (4, [.ref q2, .int 0, .int 0])), (q2, .inl (cc 0, 50, .inl (fun _ => 0)))] H locs := hP
  refine g_putF hC hP fg_X3_12 hin (C9 := RX3) (T9 := TX3) (N9 := 5) rfl rfl 0 rfl rfl rfl (Nat.le_of_ble_eq_true rfl) dX3_init_12 (fun H locs hP => ?_)
  have hP : PD (dC, dI) A s.heap [(q0, .inr (3, [.ref q1, .null, .null, .null, .int 0])), (q1, .inr (4, [.ref q2, .int 0, .int 0])), (q2, .inl (cc 0, 50, .inl (fun _ => 0)))] H locs := hP
  refine lv_aload_n hx hb dX3_init_15 rfl (lv_at hl 0 rfl) ?_
  refine g_new hC hP hA nw_X3_18 (Nat.le_of_ble_eq_true rfl) (Nat.le_of_ble_eq_true rfl) dX3_init_16 (fun q3 H hP => ?_)
  refine W.widen (k := 3) (n := 57) (Nat.le_of_ble_eq_true rfl) (Nat.le_of_ble_eq_true rfl) ?_
  have hP : PD (dC, dI) A s.heap [(q0, .inr (3, [.ref q1, .null, .null, .null, .int 0])), (q1, .inr (4, [.ref q2, .int 0, .int 0])), (q2, .inl (cc 0, 50, .inl (fun _ => 0))), (q3, .inr (6, [.null, .null, .int 0, .int 0]))] H locs := hP
  refine lv_dup hx hb dX3_init_19 rfl ?_
  refine kc_n (wr := [(q0, .inr (3, [.ref q1, .null, .null, .null, .int 0])), (q1, .inr (4, [.ref q2, .int 0, .int 0])), (q2, .inl (cc 0, 50, .inl (fun _ => 0)))]) (kI hC (c_X6_init l dC dI cc q3 H.size) ci_X3_20 kw79 rfl rfl ⟨(Nat.le_of_ble_eq_true rfl), (Nat.le_of_ble_eq_true rfl)⟩ hP [3] rfl rfl (As := []) (rest := [.ref q3, .ref q0]) rfl rfl hl.1 (Nat.le_of_ble_eq_true rfl) dX3_init_20 ⟨(Nat.le_of_ble_eq_true rfl), (Nat.le_of_ble_eq_true rfl)⟩) hP hA [3] [0, 1, 2] rfl rfl rfl (by decide) (fun u H locs hP => ?_)
  obtain ⟨q4, q5⟩ := u
  refine W.widen (k := 5) (n := 67) (Nat.le_of_ble_eq_true rfl) (Nat.le_of_ble_eq_true rfl) ?_
  have hP : PD (dC, dI) A s.heap [(q0, .inr (3, [.ref q1, .null, .null, .null, .int 0])), (q1, .inr (4, [.ref q2, .int 0, .int 0])), (q2, .inl (cc 0, 50, .inl (fun _ => 0))), (q3, .inr (6, [.ref q4, .ref q5, .int 0, .int 0])), (q4, .inl (cc 0, 5, .inl (fun _ => 0))), (q5, .inl (cc 0, 5, .inl (fun _ => 0)))] H locs := hP
  refine g_putF hC hP fg_X3_21 hin (C9 := RX3) (T9 := TX3) (N9 := 5) rfl rfl 0 rfl rfl rfl (Nat.le_of_ble_eq_true rfl) dX3_init_23 (fun H locs hP => ?_)
  have hP : PD (dC, dI) A s.heap [(q0, .inr (3, [.ref q1, .ref q3, .null, .null, .int 0])), (q1, .inr (4, [.ref q2, .int 0, .int 0])), (q2, .inl (cc 0, 50, .inl (fun _ => 0))), (q3, .inr (6, [.ref q4, .ref q5, .int 0, .int 0])), (q4, .inl (cc 0, 5, .inl (fun _ => 0))), (q5, .inl (cc 0, 5, .inl (fun _ => 0)))] H locs := hP
  refine lv_aload_n hx hb dX3_init_26 rfl (lv_at hl 0 rfl) ?_
  refine g_new hC hP hA nw_X3_25 (Nat.le_of_ble_eq_true rfl) (Nat.le_of_ble_eq_true rfl) dX3_init_27 (fun q6 H hP => ?_)
  refine W.widen (k := 6) (n := 70) (Nat.le_of_ble_eq_true rfl) (Nat.le_of_ble_eq_true rfl) ?_
  have hP : PD (dC, dI) A s.heap [(q0, .inr (3, [.ref q1, .ref q3, .null, .null, .int 0])), (q1, .inr (4, [.ref q2, .int 0, .int 0])), (q2, .inl (cc 0, 50, .inl (fun _ => 0))), (q3, .inr (6, [.ref q4, .ref q5, .int 0, .int 0])), (q4, .inl (cc 0, 5, .inl (fun _ => 0))), (q5, .inl (cc 0, 5, .inl (fun _ => 0))), (q6, .inr (0, [.int 0, .int 0, .long 0]))] H locs := hP
  refine lv_dup hx hb dX3_init_30 rfl ?_
  refine kc_n (wr := [(q0, .inr (3, [.ref q1, .ref q3, .null, .null, .int 0])), (q1, .inr (4, [.ref q2, .int 0, .int 0])), (q2, .inl (cc 0, 50, .inl (fun _ => 0))), (q3, .inr (6, [.ref q4, .ref q5, .int 0, .int 0])), (q4, .inl (cc 0, 5, .inl (fun _ => 0))), (q5, .inl (cc 0, 5, .inl (fun _ => 0)))]) (kI hC (c_X0_init l dC dI cc q6 H.size) ci_X3_27 kw103 rfl rfl ⟨(Nat.le_of_ble_eq_true rfl), (Nat.le_of_ble_eq_true rfl)⟩ hP [6] rfl rfl (As := []) (rest := [.ref q6, .ref q0]) rfl rfl hl.1 (Nat.le_of_ble_eq_true rfl) dX3_init_31 ⟨(Nat.le_of_ble_eq_true rfl), (Nat.le_of_ble_eq_true rfl)⟩) hP hA [6] [0, 1, 2, 3, 4, 5] rfl rfl rfl (by decide) (fun _ H locs hP => ?_)
  refine W.widen (k := 6) (n := 70) (Nat.le_of_ble_eq_true rfl) (Nat.le_of_ble_eq_true rfl) ?_
  have hP : PD (dC, dI) A s.heap [(q0, .inr (3, [.ref q1, .ref q3, .null, .null, .int 0])), (q1, .inr (4, [.ref q2, .int 0, .int 0])), (q2, .inl (cc 0, 50, .inl (fun _ => 0))), (q3, .inr (6, [.ref q4, .ref q5, .int 0, .int 0])), (q4, .inl (cc 0, 5, .inl (fun _ => 0))), (q5, .inl (cc 0, 5, .inl (fun _ => 0))), (q6, .inr (0, [.int 0, .int 0, .long 0]))] H locs := hP
  refine g_putF hC hP fg_X3_28 hin (C9 := RX3) (T9 := TX3) (N9 := 5) rfl rfl 0 rfl rfl rfl (Nat.le_of_ble_eq_true rfl) dX3_init_34 (fun H locs hP => ?_)
  have hP : PD (dC, dI) A s.heap [(q0, .inr (3, [.ref q1, .ref q3, .ref q6, .null, .int 0])), (q1, .inr (4, [.ref q2, .int 0, .int 0])), (q2, .inl (cc 0, 50, .inl (fun _ => 0))), (q3, .inr (6, [.ref q4, .ref q5, .int 0, .int 0])), (q4, .inl (cc 0, 5, .inl (fun _ => 0))), (q5, .inl (cc 0, 5, .inl (fun _ => 0))), (q6, .inr (0, [.int 0, .int 0, .long 0]))] H locs := hP
  refine lv_aload_n hx hb dX3_init_37 rfl (lv_at hl 0 rfl) ?_
  refine lv_iconst (v := 4) hx hb dX3_init_38 (by decide) ?_
  refine g_newa (atype := .int) hC hP hA kw74 rfl 0 rfl (4, .inl (fun _ => 0)) (fun _ => rfl) (by decide) (by decide) (Nat.le_of_ble_eq_true rfl) (Nat.le_of_ble_eq_true rfl) (Nat.le_of_ble_eq_true rfl) dX3_init_39 (fun q7 H hP => ?_)
  refine W.widen (k := 7) (n := 74) (Nat.le_of_ble_eq_true rfl) (Nat.le_of_ble_eq_true rfl) ?_
  have hP : PD (dC, dI) A s.heap [(q0, .inr (3, [.ref q1, .ref q3, .ref q6, .null, .int 0])), (q1, .inr (4, [.ref q2, .int 0, .int 0])), (q2, .inl (cc 0, 50, .inl (fun _ => 0))), (q3, .inr (6, [.ref q4, .ref q5, .int 0, .int 0])), (q4, .inl (cc 0, 5, .inl (fun _ => 0))), (q5, .inl (cc 0, 5, .inl (fun _ => 0))), (q6, .inr (0, [.int 0, .int 0, .long 0])), (q7, .inl (cc 0, 4, .inl (fun _ => 0)))] H locs := hP
  refine g_putF hC hP fg_X3_32 hin (C9 := RX3) (T9 := TX3) (N9 := 5) rfl rfl 0 rfl rfl rfl (Nat.le_of_ble_eq_true rfl) dX3_init_41 (fun H locs hP => ?_)
  have hP : PD (dC, dI) A s.heap [(q0, .inr (3, [.ref q1, .ref q3, .ref q6, .ref q7, .int 0])), (q1, .inr (4, [.ref q2, .int 0, .int 0])), (q2, .inl (cc 0, 50, .inl (fun _ => 0))), (q3, .inr (6, [.ref q4, .ref q5, .int 0, .int 0])), (q4, .inl (cc 0, 5, .inl (fun _ => 0))), (q5, .inl (cc 0, 5, .inl (fun _ => 0))), (q6, .inr (0, [.int 0, .int 0, .long 0])), (q7, .inl (cc 0, 4, .inl (fun _ => 0)))] H locs := hP
  exact ret_n hC hr hlk hP dX3_init_44 (q1, q2, q3, q4, q5, q6, q7) rfl
set_option maxHeartbeats 8000000 in
set_option maxRecDepth 100000 in
theorem c_X1_init (l : Launch) (dC : Nat → ClassId) (dI : Nat → Nat → Nat) (cc : Nat → ClassId) (q0 : Nat) (sz : Nat) : Met l yX1_init (mw yX1_init cX1_init 1 none) ({ frames := 1, cells := 4, slots := 1054, locals := 12 } : Room) (va_Pc [.ref q0] (mP (dC, dI) (ts cc) sz [(q0, .inr (1, [.null, .null, .null, .null, .int 0, .int 0, .int 0, .int 0]))])) ((fun A => va_Qv (fun (_ : Nat × Nat × Nat × Nat) => True) (fun (u : Nat × Nat × Nat × Nat) t => va_P (dC, dI) classes [(q0, .inr (1, [.ref u.1, .ref u.2.1, .ref u.2.2.1, .ref u.2.2.2, .int 0, .int 0, .int 0, .int 0])), (u.1, .inl (cc 0, 1024, .inl (fun _ => 0))), (u.2.1, .inl (cc 0, 10, .inl (fun _ => 0))), (u.2.2.1, .inl (cc 0, 10, .inl (fun _ => 0))), (u.2.2.2, .inl (cc 0, 10, .inl (fun _ => 0)))] t.heap ∧ va_D A [(q0, .inr (1, [.ref u.1, .ref u.2.1, .ref u.2.2.1, .ref u.2.2.2, .int 0, .int 0, .int 0, .int 0])), (u.1, .inl (cc 0, 1024, .inl (fun _ => 0))), (u.2.1, .inl (cc 0, 10, .inl (fun _ => 0))), (u.2.2.1, .inl (cc 0, 10, .inl (fun _ => 0))), (u.2.2.2, .inl (cc 0, 10, .inl (fun _ => 0)))]) A) (va_A [(q0, .inr (1, [.null, .null, .null, .null, .int 0, .int 0, .int 0, .int 0]))] sz)) 4 1054 (va_A [(q0, .inr (1, [.null, .null, .null, .null, .int 0, .int 0, .int 0, .int 0]))] sz) := by
  refine met_go (Qc := fun A => va_Qv (fun (_ : Nat × Nat × Nat × Nat) => True) (fun (u : Nat × Nat × Nat × Nat) t => va_P (dC, dI) classes [(q0, .inr (1, [.ref u.1, .ref u.2.1, .ref u.2.2.1, .ref u.2.2.2, .int 0, .int 0, .int 0, .int 0])), (u.1, .inl (cc 0, 1024, .inl (fun _ => 0))), (u.2.1, .inl (cc 0, 10, .inl (fun _ => 0))), (u.2.2.1, .inl (cc 0, 10, .inl (fun _ => 0))), (u.2.2.2, .inl (cc 0, 10, .inl (fun _ => 0)))] t.heap ∧ va_D A [(q0, .inr (1, [.ref u.1, .ref u.2.1, .ref u.2.2.1, .ref u.2.2.2, .int 0, .int 0, .int 0, .int 0])), (u.1, .inl (cc 0, 1024, .inl (fun _ => 0))), (u.2.1, .inl (cc 0, 10, .inl (fun _ => 0))), (u.2.2.1, .inl (cc 0, 10, .inl (fun _ => 0))), (u.2.2.2, .inl (cc 0, 10, .inl (fun _ => 0)))]) A) (by decide) (Nat.le_of_ble_eq_true rfl) ?_
  intro p e s m below meth c A ls H locs hC hr hlk hin hA hP hl _
  have hC : CX p m c cX1_init 1 s ([.ref q0] : List Value).toArray RX1 (dC, dI) (ts cc) := hC
  have hin : meth.name = "<init>" := hin
  have hx := hC.1.1
  have hb := hC.1.2
  have hl : lv_has ls 1 [(0, .ref q0)] := hl
  refine lv_aload_n hx hb dX1_init_0 rfl (lv_at hl 0 rfl) ?_
  refine g_objInit hC kw188 kw27 kw28 hl.1 dX1_init_1 (Nat.le_of_ble_eq_true rfl) (Nat.le_of_ble_eq_true rfl) ?_
  refine lv_aload_n hx hb dX1_init_4 rfl (lv_at hl 0 rfl) ?_
  refine lv_sipush (v := 1024) hx hb dX1_init_5 (by decide) ?_
  refine g_newa (atype := .int) hC hP hA kw74 rfl 0 rfl (1024, .inl (fun _ => 0)) (fun _ => rfl) (by decide) (by decide) (Nat.le_of_ble_eq_true rfl) (Nat.le_of_ble_eq_true rfl) (Nat.le_of_ble_eq_true rfl) dX1_init_8 (fun q1 H hP => ?_)
  refine W.widen (k := 1) (n := 1024) (Nat.le_of_ble_eq_true rfl) (Nat.le_of_ble_eq_true rfl) ?_
  have hP : PD (dC, dI) A s.heap [(q0, .inr (1, [.null, .null, .null, .null, .int 0, .int 0, .int 0, .int 0])), (q1, .inl (cc 0, 1024, .inl (fun _ => 0)))] H locs := hP
  refine g_putF hC hP fg_X1_9 hin (C9 := RX1) (T9 := TX1) (N9 := 8) rfl rfl 0 rfl rfl rfl (Nat.le_of_ble_eq_true rfl) dX1_init_10 (fun H locs hP => ?_)
  have hP : PD (dC, dI) A s.heap [(q0, .inr (1, [.ref q1, .null, .null, .null, .int 0, .int 0, .int 0, .int 0])), (q1, .inl (cc 0, 1024, .inl (fun _ => 0)))] H locs := hP
  refine lv_aload_n hx hb dX1_init_13 rfl (lv_at hl 0 rfl) ?_
  refine lv_bipush (v := 10) hx hb dX1_init_14 (by decide) ?_
  refine g_newa (atype := .int) hC hP hA kw74 rfl 0 rfl (10, .inl (fun _ => 0)) (fun _ => rfl) (by decide) (by decide) (Nat.le_of_ble_eq_true rfl) (Nat.le_of_ble_eq_true rfl) (Nat.le_of_ble_eq_true rfl) dX1_init_16 (fun q2 H hP => ?_)
  refine W.widen (k := 2) (n := 1034) (Nat.le_of_ble_eq_true rfl) (Nat.le_of_ble_eq_true rfl) ?_
  have hP : PD (dC, dI) A s.heap [(q0, .inr (1, [.ref q1, .null, .null, .null, .int 0, .int 0, .int 0, .int 0])), (q1, .inl (cc 0, 1024, .inl (fun _ => 0))), (q2, .inl (cc 0, 10, .inl (fun _ => 0)))] H locs := hP
  refine g_putF hC hP fg_X1_15 hin (C9 := RX1) (T9 := TX1) (N9 := 8) rfl rfl 0 rfl rfl rfl (Nat.le_of_ble_eq_true rfl) dX1_init_18 (fun H locs hP => ?_)
  have hP : PD (dC, dI) A s.heap [(q0, .inr (1, [.ref q1, .ref q2, .null, .null, .int 0, .int 0, .int 0, .int 0])), (q1, .inl (cc 0, 1024, .inl (fun _ => 0))), (q2, .inl (cc 0, 10, .inl (fun _ => 0)))] H locs := hP
  refine lv_aload_n hx hb dX1_init_21 rfl (lv_at hl 0 rfl) ?_
  refine lv_bipush (v := 10) hx hb dX1_init_22 (by decide) ?_
  refine g_newa (atype := .int) hC hP hA kw74 rfl 0 rfl (10, .inl (fun _ => 0)) (fun _ => rfl) (by decide) (by decide) (Nat.le_of_ble_eq_true rfl) (Nat.le_of_ble_eq_true rfl) (Nat.le_of_ble_eq_true rfl) dX1_init_24 (fun q3 H hP => ?_)
  refine W.widen (k := 3) (n := 1044) (Nat.le_of_ble_eq_true rfl) (Nat.le_of_ble_eq_true rfl) ?_
  have hP : PD (dC, dI) A s.heap [(q0, .inr (1, [.ref q1, .ref q2, .null, .null, .int 0, .int 0, .int 0, .int 0])), (q1, .inl (cc 0, 1024, .inl (fun _ => 0))), (q2, .inl (cc 0, 10, .inl (fun _ => 0))), (q3, .inl (cc 0, 10, .inl (fun _ => 0)))] H locs := hP
  refine g_putF hC hP fg_X1_18 hin (C9 := RX1) (T9 := TX1) (N9 := 8) rfl rfl 0 rfl rfl rfl (Nat.le_of_ble_eq_true rfl) dX1_init_26 (fun H locs hP => ?_)
  have hP : PD (dC, dI) A s.heap [(q0, .inr (1, [.ref q1, .ref q2, .ref q3, .null, .int 0, .int 0, .int 0, .int 0])), (q1, .inl (cc 0, 1024, .inl (fun _ => 0))), (q2, .inl (cc 0, 10, .inl (fun _ => 0))), (q3, .inl (cc 0, 10, .inl (fun _ => 0)))] H locs := hP
  refine lv_aload_n hx hb dX1_init_29 rfl (lv_at hl 0 rfl) ?_
  refine lv_bipush (v := 10) hx hb dX1_init_30 (by decide) ?_
  refine g_newa (atype := .int) hC hP hA kw74 rfl 0 rfl (10, .inl (fun _ => 0)) (fun _ => rfl) (by decide) (by decide) (Nat.le_of_ble_eq_true rfl) (Nat.le_of_ble_eq_true rfl) (Nat.le_of_ble_eq_true rfl) dX1_init_32 (fun q4 H hP => ?_)
  refine W.widen (k := 4) (n := 1054) (Nat.le_of_ble_eq_true rfl) (Nat.le_of_ble_eq_true rfl) ?_
  have hP : PD (dC, dI) A s.heap [(q0, .inr (1, [.ref q1, .ref q2, .ref q3, .null, .int 0, .int 0, .int 0, .int 0])), (q1, .inl (cc 0, 1024, .inl (fun _ => 0))), (q2, .inl (cc 0, 10, .inl (fun _ => 0))), (q3, .inl (cc 0, 10, .inl (fun _ => 0))), (q4, .inl (cc 0, 10, .inl (fun _ => 0)))] H locs := hP
  refine g_putF hC hP fg_X1_21 hin (C9 := RX1) (T9 := TX1) (N9 := 8) rfl rfl 0 rfl rfl rfl (Nat.le_of_ble_eq_true rfl) dX1_init_34 (fun H locs hP => ?_)
  have hP : PD (dC, dI) A s.heap [(q0, .inr (1, [.ref q1, .ref q2, .ref q3, .ref q4, .int 0, .int 0, .int 0, .int 0])), (q1, .inl (cc 0, 1024, .inl (fun _ => 0))), (q2, .inl (cc 0, 10, .inl (fun _ => 0))), (q3, .inl (cc 0, 10, .inl (fun _ => 0))), (q4, .inl (cc 0, 10, .inl (fun _ => 0)))] H locs := hP
  exact ret_n hC hr hlk hP dX1_init_37 (q1, q2, q3, q4) rfl
