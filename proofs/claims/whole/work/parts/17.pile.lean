theorem in2 : ∀ w ∈ u_ws RX2 TX2 2, w ∈ Tg := by decide +kernel
theorem kw176 : Cond.fieldLink RX2 22 "LeftAndRight$Pile" "height" "I" ∈ Tg := mem_Tg (List.mem_append_right _ (List.mem_of_getElem? (i := 176) (by decide +kernel))) (by decide +kernel)
theorem kw175 : Cond.fieldLink RX2 15 "LeftAndRight$Pile" "shelves" "[LLeftAndRight$Shelf;" ∈ Tg := mem_Tg (List.mem_append_right _ (List.mem_of_getElem? (i := 175) (by decide +kernel))) (by decide +kernel)
theorem kw492 : Cond.methodLink RX2 26 yX2_isFull ∈ Tg := mem_Tg (List.mem_append_right _ (List.mem_of_getElem? (i := 492) (by decide +kernel))) (by decide +kernel)
theorem kw493 : Cond.instanceMethod yX2_isFull ∈ Tg := mem_Tg (List.mem_append_right _ (List.mem_of_getElem? (i := 493) (by decide +kernel))) (by decide +kernel)
theorem kw494 : Cond.selects RX2 yX2_isFull yX2_isFull ∈ Tg := mem_Tg (List.mem_append_right _ (List.mem_of_getElem? (i := 494) (by decide +kernel))) (by decide +kernel)
theorem kw8 : Cond.initialized RX2 ∈ Tg := mem_Tg (List.mem_append_right _ (List.mem_of_getElem? (i := 8) (by decide +kernel))) (by decide +kernel)
theorem kw500 : Cond.methodLink RX2 33 yX4_copy ∈ Tg := mem_Tg (List.mem_append_right _ (List.mem_of_getElem? (i := 500) (by decide +kernel))) (by decide +kernel)
theorem kw496 : Cond.methodLink RX2 30 yX2_dropLowest ∈ Tg := mem_Tg (List.mem_append_right _ (List.mem_of_getElem? (i := 496) (by decide +kernel))) (by decide +kernel)
theorem kw498 : Cond.instanceMethod yX2_dropLowest ∈ Tg := mem_Tg (List.mem_append_right _ (List.mem_of_getElem? (i := 498) (by decide +kernel))) (by decide +kernel)
theorem ks9 : Cond.selects RX2 yX2_dropLowest yX2_dropLowest ∈ Tg := mem_Tg (List.mem_append_left _ (List.mem_of_getElem? (i := 9) (by decide +kernel))) (by decide +kernel)
theorem dX2_isFull_0 : decode cX2_isFull 0 = .ok (.aload_n 0, 1) := by decide +kernel
theorem dX2_isFull_1 : decode cX2_isFull 1 = .ok (.getfield 22, 3) := by decide +kernel
theorem dX2_isFull_4 : decode cX2_isFull 4 = .ok (.aload_n 0, 1) := by decide +kernel
theorem dX2_isFull_5 : decode cX2_isFull 5 = .ok (.getfield 15, 3) := by decide +kernel
theorem dX2_isFull_8 : decode cX2_isFull 8 = .ok (.arraylength, 1) := by decide +kernel
theorem dX2_isFull_9 : decode cX2_isFull 9 = .ok (.if_icmp .lt 7, 3) := by decide +kernel
theorem dX2_isFull_16 : decode cX2_isFull 16 = .ok (.iconst 0, 1) := by decide +kernel
theorem dX2_isFull_17 : decode cX2_isFull 17 = .ok (.ireturn, 1) := by decide +kernel
theorem dX2_isFull_12 : decode cX2_isFull 12 = .ok (.iconst 1, 1) := by decide +kernel
theorem dX2_isFull_13 : decode cX2_isFull 13 = .ok (.goto 4, 3) := by decide +kernel
theorem dX2_clear_0 : decode cX2_clear 0 = .ok (.aload_n 0, 1) := by decide +kernel
theorem dX2_clear_1 : decode cX2_clear 1 = .ok (.iconst 0, 1) := by decide +kernel
theorem dX2_clear_2 : decode cX2_clear 2 = .ok (.putfield 22, 3) := by decide +kernel
theorem dX2_clear_5 : decode cX2_clear 5 = .ok (.return_, 1) := by decide +kernel
theorem dX2_dropLowest_0 : decode cX2_dropLowest 0 = .ok (.aload_n 0, 1) := by decide +kernel
theorem dX2_dropLowest_1 : decode cX2_dropLowest 1 = .ok (.getfield 15, 3) := by decide +kernel
theorem dX2_dropLowest_4 : decode cX2_dropLowest 4 = .ok (.arraylength, 1) := by decide +kernel
theorem dX2_dropLowest_5 : decode cX2_dropLowest 5 = .ok (.ifCond .le 64, 3) := by decide +kernel
theorem dX2_dropLowest_8 : decode cX2_dropLowest 8 = .ok (.aload_n 0, 1) := by decide +kernel
theorem dX2_dropLowest_9 : decode cX2_dropLowest 9 = .ok (.getfield 15, 3) := by decide +kernel
theorem dX2_dropLowest_12 : decode cX2_dropLowest 12 = .ok (.iconst 0, 1) := by decide +kernel
theorem dX2_dropLowest_13 : decode cX2_dropLowest 13 = .ok (.aaload, 1) := by decide +kernel
theorem dX2_dropLowest_14 : decode cX2_dropLowest 14 = .ok (.astore_n 1, 1) := by decide +kernel
theorem dX2_dropLowest_15 : decode cX2_dropLowest 15 = .ok (.iconst 1, 1) := by decide +kernel
theorem dX2_dropLowest_16 : decode cX2_dropLowest 16 = .ok (.istore_n 2, 1) := by decide +kernel
theorem dX2_dropLowest_17 : decode cX2_dropLowest 17 = .ok (.iload_n 2, 1) := by decide +kernel
theorem dX2_dropLowest_18 : decode cX2_dropLowest 18 = .ok (.aload_n 0, 1) := by decide +kernel
theorem dX2_dropLowest_19 : decode cX2_dropLowest 19 = .ok (.getfield 15, 3) := by decide +kernel
theorem dX2_dropLowest_22 : decode cX2_dropLowest 22 = .ok (.arraylength, 1) := by decide +kernel
theorem dX2_dropLowest_23 : decode cX2_dropLowest 23 = .ok (.if_icmp .ge 23, 3) := by decide +kernel
theorem dX2_dropLowest_26 : decode cX2_dropLowest 26 = .ok (.aload_n 0, 1) := by decide +kernel
theorem dX2_dropLowest_27 : decode cX2_dropLowest 27 = .ok (.getfield 15, 3) := by decide +kernel
theorem dX2_dropLowest_30 : decode cX2_dropLowest 30 = .ok (.iload_n 2, 1) := by decide +kernel
theorem dX2_dropLowest_31 : decode cX2_dropLowest 31 = .ok (.iconst 1, 1) := by decide +kernel
theorem dX2_dropLowest_32 : decode cX2_dropLowest 32 = .ok (.isub, 1) := by decide +kernel
theorem dX2_dropLowest_33 : decode cX2_dropLowest 33 = .ok (.aload_n 0, 1) := by decide +kernel
theorem dX2_dropLowest_34 : decode cX2_dropLowest 34 = .ok (.getfield 15, 3) := by decide +kernel
theorem dX2_dropLowest_37 : decode cX2_dropLowest 37 = .ok (.iload_n 2, 1) := by decide +kernel
theorem dX2_dropLowest_38 : decode cX2_dropLowest 38 = .ok (.aaload, 1) := by decide +kernel
theorem dX2_dropLowest_39 : decode cX2_dropLowest 39 = .ok (.aastore, 1) := by decide +kernel
theorem dX2_dropLowest_40 : decode cX2_dropLowest 40 = .ok (.iinc 2 1, 3) := by decide +kernel
theorem dX2_dropLowest_43 : decode cX2_dropLowest 43 = .ok (.goto (-26), 3) := by decide +kernel
theorem dX2_dropLowest_46 : decode cX2_dropLowest 46 = .ok (.aload_n 0, 1) := by decide +kernel
theorem dX2_dropLowest_47 : decode cX2_dropLowest 47 = .ok (.getfield 15, 3) := by decide +kernel
theorem dX2_dropLowest_50 : decode cX2_dropLowest 50 = .ok (.aload_n 0, 1) := by decide +kernel
theorem dX2_dropLowest_51 : decode cX2_dropLowest 51 = .ok (.getfield 15, 3) := by decide +kernel
theorem dX2_dropLowest_54 : decode cX2_dropLowest 54 = .ok (.arraylength, 1) := by decide +kernel
theorem dX2_dropLowest_55 : decode cX2_dropLowest 55 = .ok (.iconst 1, 1) := by decide +kernel
theorem dX2_dropLowest_56 : decode cX2_dropLowest 56 = .ok (.isub, 1) := by decide +kernel
theorem dX2_dropLowest_57 : decode cX2_dropLowest 57 = .ok (.aload_n 1, 1) := by decide +kernel
theorem dX2_dropLowest_58 : decode cX2_dropLowest 58 = .ok (.aastore, 1) := by decide +kernel
theorem dX2_dropLowest_59 : decode cX2_dropLowest 59 = .ok (.aload_n 0, 1) := by decide +kernel
theorem dX2_dropLowest_60 : decode cX2_dropLowest 60 = .ok (.dup, 1) := by decide +kernel
theorem dX2_dropLowest_61 : decode cX2_dropLowest 61 = .ok (.getfield 22, 3) := by decide +kernel
theorem dX2_dropLowest_64 : decode cX2_dropLowest 64 = .ok (.iconst 1, 1) := by decide +kernel
theorem dX2_dropLowest_65 : decode cX2_dropLowest 65 = .ok (.isub, 1) := by decide +kernel
theorem dX2_dropLowest_66 : decode cX2_dropLowest 66 = .ok (.putfield 22, 3) := by decide +kernel
theorem dX2_dropLowest_69 : decode cX2_dropLowest 69 = .ok (.return_, 1) := by decide +kernel
theorem dX2_push_0 : decode cX2_push 0 = .ok (.aload_n 0, 1) := by decide +kernel
theorem kw495 : Cond.code yX2_isFull cX2_isFull 1 (some .boolean) ∈ Tg := mem_Tg (List.mem_append_right _ (List.mem_of_getElem? (i := 495) (by decide +kernel))) (by decide +kernel)
theorem dX2_push_1 : decode cX2_push 1 = .ok (.invokevirtual 26, 3) := by decide +kernel
theorem dX2_push_4 : decode cX2_push 4 = .ok (.ifCond .eq 7, 3) := by decide +kernel
theorem dX2_push_11 : decode cX2_push 11 = .ok (.aload_n 0, 1) := by decide +kernel
theorem dX2_push_12 : decode cX2_push 12 = .ok (.getfield 22, 3) := by decide +kernel
theorem dX2_push_15 : decode cX2_push 15 = .ok (.ifCond .lt 50, 3) := by decide +kernel
theorem dX2_push_65 : decode cX2_push 65 = .ok (.return_, 1) := by decide +kernel
theorem dX2_push_18 : decode cX2_push 18 = .ok (.aload_n 0, 1) := by decide +kernel
theorem dX2_push_19 : decode cX2_push 19 = .ok (.getfield 22, 3) := by decide +kernel
theorem dX2_push_22 : decode cX2_push 22 = .ok (.aload_n 0, 1) := by decide +kernel
theorem dX2_push_23 : decode cX2_push 23 = .ok (.getfield 15, 3) := by decide +kernel
theorem dX2_push_26 : decode cX2_push 26 = .ok (.arraylength, 1) := by decide +kernel
theorem dX2_push_27 : decode cX2_push 27 = .ok (.if_icmp .ge 38, 3) := by decide +kernel
theorem dX2_push_30 : decode cX2_push 30 = .ok (.aload_n 0, 1) := by decide +kernel
theorem dX2_push_31 : decode cX2_push 31 = .ok (.getfield 15, 3) := by decide +kernel
theorem dX2_push_34 : decode cX2_push 34 = .ok (.aload_n 0, 1) := by decide +kernel
theorem dX2_push_35 : decode cX2_push 35 = .ok (.getfield 22, 3) := by decide +kernel
theorem dX2_push_38 : decode cX2_push 38 = .ok (.aaload, 1) := by decide +kernel
theorem dX2_push_39 : decode cX2_push 39 = .ok (.ifnull 26, 3) := by decide +kernel
theorem dX2_push_42 : decode cX2_push 42 = .ok (.aload_n 0, 1) := by decide +kernel
theorem dX2_push_43 : decode cX2_push 43 = .ok (.getfield 15, 3) := by decide +kernel
theorem dX2_push_46 : decode cX2_push 46 = .ok (.aload_n 0, 1) := by decide +kernel
theorem dX2_push_47 : decode cX2_push 47 = .ok (.getfield 22, 3) := by decide +kernel
theorem dX2_push_50 : decode cX2_push 50 = .ok (.aaload, 1) := by decide +kernel
theorem dX2_push_51 : decode cX2_push 51 = .ok (.aload_n 1, 1) := by decide +kernel
theorem dX2_push_52 : decode cX2_push 52 = .ok (.invokevirtual 33, 3) := by decide +kernel
theorem dX2_push_55 : decode cX2_push 55 = .ok (.aload_n 0, 1) := by decide +kernel
theorem dX2_push_56 : decode cX2_push 56 = .ok (.dup, 1) := by decide +kernel
theorem dX2_push_57 : decode cX2_push 57 = .ok (.getfield 22, 3) := by decide +kernel
theorem dX2_push_60 : decode cX2_push 60 = .ok (.iconst 1, 1) := by decide +kernel
theorem dX2_push_61 : decode cX2_push 61 = .ok (.iadd, 1) := by decide +kernel
theorem dX2_push_62 : decode cX2_push 62 = .ok (.putfield 22, 3) := by decide +kernel
theorem dX2_push_7 : decode cX2_push 7 = .ok (.aload_n 0, 1) := by decide +kernel
theorem kw499 : Cond.code yX2_dropLowest cX2_dropLowest 3 none ∈ Tg := mem_Tg (List.mem_append_right _ (List.mem_of_getElem? (i := 499) (by decide +kernel))) (by decide +kernel)
theorem dX2_push_8 : decode cX2_push 8 = .ok (.invokevirtual 30, 3) := by decide +kernel
theorem dX2_popInto_0 : decode cX2_popInto 0 = .ok (.aload_n 1, 1) := by decide +kernel
theorem dX2_popInto_1 : decode cX2_popInto 1 = .ok (.ifnull 22, 3) := by decide +kernel
theorem dX2_popInto_4 : decode cX2_popInto 4 = .ok (.aload_n 0, 1) := by decide +kernel
theorem dX2_popInto_5 : decode cX2_popInto 5 = .ok (.getfield 22, 3) := by decide +kernel
theorem dX2_popInto_8 : decode cX2_popInto 8 = .ok (.ifCond .le 15, 3) := by decide +kernel
theorem dX2_popInto_23 : decode cX2_popInto 23 = .ok (.iconst 0, 1) := by decide +kernel
theorem dX2_popInto_24 : decode cX2_popInto 24 = .ok (.ireturn, 1) := by decide +kernel
theorem dX2_popInto_11 : decode cX2_popInto 11 = .ok (.aload_n 0, 1) := by decide +kernel
theorem dX2_popInto_12 : decode cX2_popInto 12 = .ok (.getfield 22, 3) := by decide +kernel
theorem dX2_popInto_15 : decode cX2_popInto 15 = .ok (.aload_n 0, 1) := by decide +kernel
theorem dX2_popInto_16 : decode cX2_popInto 16 = .ok (.getfield 15, 3) := by decide +kernel
theorem dX2_popInto_19 : decode cX2_popInto 19 = .ok (.arraylength, 1) := by decide +kernel
theorem dX2_popInto_20 : decode cX2_popInto 20 = .ok (.if_icmp .le 5, 3) := by decide +kernel
theorem dX2_popInto_25 : decode cX2_popInto 25 = .ok (.aload_n 0, 1) := by decide +kernel
theorem dX2_popInto_26 : decode cX2_popInto 26 = .ok (.dup, 1) := by decide +kernel
theorem dX2_popInto_27 : decode cX2_popInto 27 = .ok (.getfield 22, 3) := by decide +kernel
theorem dX2_popInto_30 : decode cX2_popInto 30 = .ok (.iconst 1, 1) := by decide +kernel
theorem dX2_popInto_31 : decode cX2_popInto 31 = .ok (.isub, 1) := by decide +kernel
theorem dX2_popInto_32 : decode cX2_popInto 32 = .ok (.putfield 22, 3) := by decide +kernel
theorem dX2_popInto_35 : decode cX2_popInto 35 = .ok (.aload_n 1, 1) := by decide +kernel
theorem dX2_popInto_36 : decode cX2_popInto 36 = .ok (.aload_n 0, 1) := by decide +kernel
theorem dX2_popInto_37 : decode cX2_popInto 37 = .ok (.getfield 15, 3) := by decide +kernel
theorem dX2_popInto_40 : decode cX2_popInto 40 = .ok (.aload_n 0, 1) := by decide +kernel
theorem dX2_popInto_41 : decode cX2_popInto 41 = .ok (.getfield 22, 3) := by decide +kernel
theorem dX2_popInto_44 : decode cX2_popInto 44 = .ok (.aaload, 1) := by decide +kernel
theorem dX2_popInto_45 : decode cX2_popInto 45 = .ok (.invokevirtual 33, 3) := by decide +kernel
theorem dX2_popInto_48 : decode cX2_popInto 48 = .ok (.iconst 1, 1) := by decide +kernel
theorem dX2_popInto_49 : decode cX2_popInto 49 = .ok (.ireturn, 1) := by decide +kernel
theorem fg_X2_22 : FG RX2 22 2 1 .int false := ⟨RX2, TX2, 2, tyX2, rfl, in2, by decide, tyX2_ok, nmX2, kw176, rfl, by decide +kernel⟩
theorem fg_X2_15 : FG RX2 15 2 0 (.array (.object "LeftAndRight$Shelf")) true := ⟨RX2, TX2, 2, tyX2, rfl, in2, by decide, tyX2_ok, nmX2, kw175, rfl, by decide +kernel⟩
theorem cv_X2_26 : CVw RX2 26 RX2 yX2_isFull 0 := ⟨by decide +kernel, kw492, kw493, kw494, kw8⟩
theorem cv_X2_33 : CVw RX2 33 RX4 yX4_copy 1 := ⟨by decide +kernel, kw500, kw370, kw371, kw4⟩
theorem cv_X2_30 : CVw RX2 30 RX2 yX2_dropLowest 0 := ⟨by decide +kernel, kw496, kw498, ks9, kw8⟩
set_option maxHeartbeats 8000000 in
set_option maxRecDepth 100000 in
theorem c_X2_isFull_8 (l : Launch) (dC : Nat → ClassId) (dI : Nat → Nat → Nat) (cc : Nat → ClassId) (q0 q1 : Nat) (qa qb : Nat → Nat) (height : Int32) (pp : (Nat → Nat)) (sz : Nat) (ret : Int32) (hu : f_X2_isFull_8 height = some ret) : Met l yX2_isFull (mw yX2_isFull cX2_isFull 1 (some .boolean)) ({ frames := 0, cells := 0, slots := 0, locals := 0 } : Room) (va_Pc [.ref q0] (mP (dC, dI) (ts cc) sz [(q0, .inr (2, [.ref q1, .int height])), (q1, .inl (cc 3, 8, .inr (.inr (.inr (.inr fun j => some (qa (pp j)))))))])) ((fun A => va_Qi (fun (r : Int32) (w : Unit) => narrow .boolean (.int r) = .int r ∧ (r = ret ∧ w = ())) (fun (w : Unit) t => va_P (dC, dI) classes [(q0, .inr (2, [.ref q1, .int height])), (q1, .inl (cc 3, 8, .inr (.inr (.inr (.inr fun j => some (qa (pp j)))))))] t.heap) A) (va_A [(q0, .inr (2, [.ref q1, .int height])), (q1, .inl (cc 3, 8, .inr (.inr (.inr (.inr fun j => some (qa (pp j)))))))] sz)) 0 0 (va_A [(q0, .inr (2, [.ref q1, .int height])), (q1, .inl (cc 3, 8, .inr (.inr (.inr (.inr fun j => some (qa (pp j)))))))] sz) := by
  refine met_go (Qc := fun A => va_Qi (fun (r : Int32) (w : Unit) => narrow .boolean (.int r) = .int r ∧ (r = ret ∧ w = ())) (fun (w : Unit) t => va_P (dC, dI) classes [(q0, .inr (2, [.ref q1, .int height])), (q1, .inl (cc 3, 8, .inr (.inr (.inr (.inr fun j => some (qa (pp j)))))))] t.heap) A) (by decide) (Nat.le_of_ble_eq_true rfl) ?_
  intro p e s m below meth c A ls H locs hC hr hlk hin hA hP hl _
  have hC : CX p m c cX2_isFull 1 s ([.ref q0] : List Value).toArray RX2 (dC, dI) (ts cc) := hC
  have hx := hC.1.1
  have hb := hC.1.2
  have h := hu
  have hu0 := hu
  unfold f_X2_isFull_8 at h
  have hl : lv_has ls 1 [(0, .ref q0)] := hl
  refine lv_aload_n hx hb dX2_isFull_0 rfl (lv_at hl 0 rfl) ?_
  refine g_get hC hP fg_X2_22 0 rfl rfl dX2_isFull_1 ?_
  refine lv_aload_n hx hb dX2_isFull_4 rfl (lv_at hl 0 rfl) ?_
  refine g_get hC hP fg_X2_15 0 rfl rfl dX2_isFull_5 ?_
  refine g_alen hC hP 1 3 rfl rfl (v := 8) rfl dX2_isFull_8 ?_
  refine lv_icmp_lt (tgt := 16) hx hb dX2_isFull_9 (by decide) (fun c1 => ?_) (fun c1 => ?_)
  · have h := if_t c1 h
    refine lv_iconst (v := 0) hx hb dX2_isFull_16 (by decide) ?_
    exact ret_z hC hr rfl hlk hP dX2_isFull_17 () (⟨Option.some.inj h, rfl⟩) rfl
  · have h := if_f c1 h
    refine lv_iconst (v := 1) hx hb dX2_isFull_12 (by decide) ?_
    refine lv_goto (tgt := 17) hx hb dX2_isFull_13 (by decide) ?_
    exact ret_z hC hr rfl hlk hP dX2_isFull_17 () (⟨Option.some.inj h, rfl⟩) rfl
set_option maxHeartbeats 8000000 in
set_option maxRecDepth 100000 in
theorem c_X2_clear_8 (l : Launch) (dC : Nat → ClassId) (dI : Nat → Nat → Nat) (cc : Nat → ClassId) (q0 q1 : Nat) (height : Int32) (sz : Nat) (o_height : Int32) (hu : f_X2_clear_8 = some o_height) : Met l yX2_clear (mw yX2_clear cX2_clear 1 none) ({ frames := 0, cells := 0, slots := 0, locals := 0 } : Room) (va_Pc [.ref q0] (mP (dC, dI) (ts cc) sz [(q0, .inr (2, [.ref q1, .int height]))])) ((fun A => va_Qv (fun (w : Int32) => w = o_height) (fun (w : Int32) t => va_P (dC, dI) classes [(q0, .inr (2, [.ref q1, .int w]))] t.heap) A) (va_A [(q0, .inr (2, [.ref q1, .int height]))] sz)) 0 0 (va_A [(q0, .inr (2, [.ref q1, .int height]))] sz) := by
  refine met_go (Qc := fun A => va_Qv (fun (w : Int32) => w = o_height) (fun (w : Int32) t => va_P (dC, dI) classes [(q0, .inr (2, [.ref q1, .int w]))] t.heap) A) (by decide) (Nat.le_of_ble_eq_true rfl) ?_
  intro p e s m below meth c A ls H locs hC hr hlk hin hA hP hl _
  have hC : CX p m c cX2_clear 1 s ([.ref q0] : List Value).toArray RX2 (dC, dI) (ts cc) := hC
  have hx := hC.1.1
  have hb := hC.1.2
  have h := hu
  have hu0 := hu
  unfold f_X2_clear_8 at h
  have hl : lv_has ls 1 [(0, .ref q0)] := hl
  refine lv_aload_n hx hb dX2_clear_0 rfl (lv_at hl 0 rfl) ?_
  refine lv_iconst (v := 0) hx hb dX2_clear_1 (by decide) ?_
  refine g_put hC hP fg_X2_22 0 rfl rfl rfl (Nat.le_of_ble_eq_true rfl) dX2_clear_2 (fun H locs hP => ?_)
  have hP : PD (dC, dI) A s.heap [(q0, .inr (2, [.ref q1, .int 0]))] H locs := hP
  exact ret_v hC hr hlk hP dX2_clear_5 0 (Option.some.inj h) rfl
set_option maxHeartbeats 8000000 in
set_option maxRecDepth 100000 in
theorem c_X2_dropLowest_8 (l : Launch) (dC : Nat → ClassId) (dI : Nat → Nat → Nat) (cc : Nat → ClassId) (q0 q1 : Nat) (qa qb : Nat → Nat) (height : Int32) (pp : (Nat → Nat)) (CC : (Nat → Nat → Int32)) (CK : (Nat → Int32)) (CY : (Nat → Int32)) (sz : Nat) (o_pp : (Nat → Nat)) (o_height : Int32) (hu : f_X2_dropLowest_8 height pp = some (o_pp, o_height)) : Met l yX2_dropLowest (mw yX2_dropLowest cX2_dropLowest 3 none) ({ frames := 0, cells := 0, slots := 0, locals := 0 } : Room) (va_Pc [.ref q0] (mP (dC, dI) (ts cc) sz [(q0, .inr (2, [.ref q1, .int height])), (q1, .inl (cc 3, 8, .inr (.inr (.inr (.inr fun j => some (qa (pp j))))))), ((qa 0), .inr (4, [.ref (qb 0), .int (CK 0), .int (CY 0)])), ((qb 0), .inl (cc 0, 50, .inl (CC 0))), ((qa 1), .inr (4, [.ref (qb 1), .int (CK 1), .int (CY 1)])), ((qb 1), .inl (cc 0, 50, .inl (CC 1))), ((qa 2), .inr (4, [.ref (qb 2), .int (CK 2), .int (CY 2)])), ((qb 2), .inl (cc 0, 50, .inl (CC 2))), ((qa 3), .inr (4, [.ref (qb 3), .int (CK 3), .int (CY 3)])), ((qb 3), .inl (cc 0, 50, .inl (CC 3))), ((qa 4), .inr (4, [.ref (qb 4), .int (CK 4), .int (CY 4)])), ((qb 4), .inl (cc 0, 50, .inl (CC 4))), ((qa 5), .inr (4, [.ref (qb 5), .int (CK 5), .int (CY 5)])), ((qb 5), .inl (cc 0, 50, .inl (CC 5))), ((qa 6), .inr (4, [.ref (qb 6), .int (CK 6), .int (CY 6)])), ((qb 6), .inl (cc 0, 50, .inl (CC 6))), ((qa 7), .inr (4, [.ref (qb 7), .int (CK 7), .int (CY 7)])), ((qb 7), .inl (cc 0, 50, .inl (CC 7)))])) ((fun A => va_Qv (fun (w : (Nat → Nat) × Int32) => w = (o_pp, o_height)) (fun (w : (Nat → Nat) × Int32) t => va_P (dC, dI) classes [(q0, .inr (2, [.ref q1, .int w.2])), (q1, .inl (cc 3, 8, .inr (.inr (.inr (.inr fun j => some (qa (w.1 j))))))), ((qa 0), .inr (4, [.ref (qb 0), .int (CK 0), .int (CY 0)])), ((qb 0), .inl (cc 0, 50, .inl (CC 0))), ((qa 1), .inr (4, [.ref (qb 1), .int (CK 1), .int (CY 1)])), ((qb 1), .inl (cc 0, 50, .inl (CC 1))), ((qa 2), .inr (4, [.ref (qb 2), .int (CK 2), .int (CY 2)])), ((qb 2), .inl (cc 0, 50, .inl (CC 2))), ((qa 3), .inr (4, [.ref (qb 3), .int (CK 3), .int (CY 3)])), ((qb 3), .inl (cc 0, 50, .inl (CC 3))), ((qa 4), .inr (4, [.ref (qb 4), .int (CK 4), .int (CY 4)])), ((qb 4), .inl (cc 0, 50, .inl (CC 4))), ((qa 5), .inr (4, [.ref (qb 5), .int (CK 5), .int (CY 5)])), ((qb 5), .inl (cc 0, 50, .inl (CC 5))), ((qa 6), .inr (4, [.ref (qb 6), .int (CK 6), .int (CY 6)])), ((qb 6), .inl (cc 0, 50, .inl (CC 6))), ((qa 7), .inr (4, [.ref (qb 7), .int (CK 7), .int (CY 7)])), ((qb 7), .inl (cc 0, 50, .inl (CC 7)))] t.heap) A) (va_A [(q0, .inr (2, [.ref q1, .int height])), (q1, .inl (cc 3, 8, .inr (.inr (.inr (.inr fun j => some (qa (pp j))))))), ((qa 0), .inr (4, [.ref (qb 0), .int (CK 0), .int (CY 0)])), ((qb 0), .inl (cc 0, 50, .inl (CC 0))), ((qa 1), .inr (4, [.ref (qb 1), .int (CK 1), .int (CY 1)])), ((qb 1), .inl (cc 0, 50, .inl (CC 1))), ((qa 2), .inr (4, [.ref (qb 2), .int (CK 2), .int (CY 2)])), ((qb 2), .inl (cc 0, 50, .inl (CC 2))), ((qa 3), .inr (4, [.ref (qb 3), .int (CK 3), .int (CY 3)])), ((qb 3), .inl (cc 0, 50, .inl (CC 3))), ((qa 4), .inr (4, [.ref (qb 4), .int (CK 4), .int (CY 4)])), ((qb 4), .inl (cc 0, 50, .inl (CC 4))), ((qa 5), .inr (4, [.ref (qb 5), .int (CK 5), .int (CY 5)])), ((qb 5), .inl (cc 0, 50, .inl (CC 5))), ((qa 6), .inr (4, [.ref (qb 6), .int (CK 6), .int (CY 6)])), ((qb 6), .inl (cc 0, 50, .inl (CC 6))), ((qa 7), .inr (4, [.ref (qb 7), .int (CK 7), .int (CY 7)])), ((qb 7), .inl (cc 0, 50, .inl (CC 7)))] sz)) 0 0 (va_A [(q0, .inr (2, [.ref q1, .int height])), (q1, .inl (cc 3, 8, .inr (.inr (.inr (.inr fun j => some (qa (pp j))))))), ((qa 0), .inr (4, [.ref (qb 0), .int (CK 0), .int (CY 0)])), ((qb 0), .inl (cc 0, 50, .inl (CC 0))), ((qa 1), .inr (4, [.ref (qb 1), .int (CK 1), .int (CY 1)])), ((qb 1), .inl (cc 0, 50, .inl (CC 1))), ((qa 2), .inr (4, [.ref (qb 2), .int (CK 2), .int (CY 2)])), ((qb 2), .inl (cc 0, 50, .inl (CC 2))), ((qa 3), .inr (4, [.ref (qb 3), .int (CK 3), .int (CY 3)])), ((qb 3), .inl (cc 0, 50, .inl (CC 3))), ((qa 4), .inr (4, [.ref (qb 4), .int (CK 4), .int (CY 4)])), ((qb 4), .inl (cc 0, 50, .inl (CC 4))), ((qa 5), .inr (4, [.ref (qb 5), .int (CK 5), .int (CY 5)])), ((qb 5), .inl (cc 0, 50, .inl (CC 5))), ((qa 6), .inr (4, [.ref (qb 6), .int (CK 6), .int (CY 6)])), ((qb 6), .inl (cc 0, 50, .inl (CC 6))), ((qa 7), .inr (4, [.ref (qb 7), .int (CK 7), .int (CY 7)])), ((qb 7), .inl (cc 0, 50, .inl (CC 7)))] sz) := by
  refine met_go (Qc := fun A => va_Qv (fun (w : (Nat → Nat) × Int32) => w = (o_pp, o_height)) (fun (w : (Nat → Nat) × Int32) t => va_P (dC, dI) classes [(q0, .inr (2, [.ref q1, .int w.2])), (q1, .inl (cc 3, 8, .inr (.inr (.inr (.inr fun j => some (qa (w.1 j))))))), ((qa 0), .inr (4, [.ref (qb 0), .int (CK 0), .int (CY 0)])), ((qb 0), .inl (cc 0, 50, .inl (CC 0))), ((qa 1), .inr (4, [.ref (qb 1), .int (CK 1), .int (CY 1)])), ((qb 1), .inl (cc 0, 50, .inl (CC 1))), ((qa 2), .inr (4, [.ref (qb 2), .int (CK 2), .int (CY 2)])), ((qb 2), .inl (cc 0, 50, .inl (CC 2))), ((qa 3), .inr (4, [.ref (qb 3), .int (CK 3), .int (CY 3)])), ((qb 3), .inl (cc 0, 50, .inl (CC 3))), ((qa 4), .inr (4, [.ref (qb 4), .int (CK 4), .int (CY 4)])), ((qb 4), .inl (cc 0, 50, .inl (CC 4))), ((qa 5), .inr (4, [.ref (qb 5), .int (CK 5), .int (CY 5)])), ((qb 5), .inl (cc 0, 50, .inl (CC 5))), ((qa 6), .inr (4, [.ref (qb 6), .int (CK 6), .int (CY 6)])), ((qb 6), .inl (cc 0, 50, .inl (CC 6))), ((qa 7), .inr (4, [.ref (qb 7), .int (CK 7), .int (CY 7)])), ((qb 7), .inl (cc 0, 50, .inl (CC 7)))] t.heap) A) (by decide) (Nat.le_of_ble_eq_true rfl) ?_
  intro p e s m below meth c A ls H locs hC hr hlk hin hA hP hl _
  have hC : CX p m c cX2_dropLowest 3 s ([.ref q0] : List Value).toArray RX2 (dC, dI) (ts cc) := hC
  have hx := hC.1.1
  have hb := hC.1.2
  have h := hu
  have hu0 := hu
  unfold f_X2_dropLowest_8 at h
  have hl : lv_has ls 3 [(0, .ref q0)] := hl
  refine W_abs (fun Z eZ => ?_)
  refine lv_aload_n hx hb dX2_dropLowest_0 rfl (lv_at hl 0 rfl) ?_
  refine g_get hC hP fg_X2_15 0 rfl rfl dX2_dropLowest_1 ?_
  refine g_alen hC hP 1 3 rfl rfl (v := 8) rfl dX2_dropLowest_4 ?_
  refine lv_if_le (tgt := 69) hx hb dX2_dropLowest_5 (by decide) (fun c => absurd c (by decide)) (fun _ => ?_)
  refine lv_aload_n hx hb dX2_dropLowest_8 rfl (lv_at hl 0 rfl) ?_
  refine g_get hC hP fg_X2_15 0 rfl rfl dX2_dropLowest_9 ?_
  refine lv_iconst (v := 0) hx hb dX2_dropLowest_12 (by decide) ?_
  obtain ⟨hin, hkN, h⟩ := rdp_h h
  refine g_aaldP hC hP 1 3 rfl rfl hin dX2_dropLowest_13 (fun k2 ek => ?_)
  have h := h k2 ek
  have hN_k2 : k2 < 8 := by rw [ek]; exact hkN
  refine lv_astore_n (lv' := [(1, .ref (qa k2)), (0, .ref q0)]) hx hb dX2_dropLowest_14 rfl hl (by decide) rfl (fun ls hl => ?_)
  refine lv_iconst (v := 1) hx hb dX2_dropLowest_15 (by decide) ?_
  refine lv_istore_n (lv' := [(2, .int 1), (1, .ref (qa k2)), (0, .ref q0)]) hx hb dX2_dropLowest_16 rfl hl (by decide) rfl (fun ls hl => ?_)
  obtain ⟨⟨j3x, w4x⟩, hlp, h⟩ := bnd_h h
  have L1 : ∀ (n : Nat) (j3 : Int32) (w4 : (Nat → Nat)) (j3x : Int32) (w4x : (Nat → Nat)), lp (u2 b_X2_dropLowest_8_1) n (j3, w4) = some (j3x, w4x) → ∀ (H : Heap) (locs : List Loc) (ls : Array Slot), PD (dC, dI) A s.heap [(q0, .inr (2, [.ref q1, .int height])), (q1, .inl (cc 3, 8, .inr (.inr (.inr (.inr fun j => some (qa (w4 j))))))), ((qa 0), .inr (4, [.ref (qb 0), .int (CK 0), .int (CY 0)])), ((qb 0), .inl (cc 0, 50, .inl (CC 0))), ((qa 1), .inr (4, [.ref (qb 1), .int (CK 1), .int (CY 1)])), ((qb 1), .inl (cc 0, 50, .inl (CC 1))), ((qa 2), .inr (4, [.ref (qb 2), .int (CK 2), .int (CY 2)])), ((qb 2), .inl (cc 0, 50, .inl (CC 2))), ((qa 3), .inr (4, [.ref (qb 3), .int (CK 3), .int (CY 3)])), ((qb 3), .inl (cc 0, 50, .inl (CC 3))), ((qa 4), .inr (4, [.ref (qb 4), .int (CK 4), .int (CY 4)])), ((qb 4), .inl (cc 0, 50, .inl (CC 4))), ((qa 5), .inr (4, [.ref (qb 5), .int (CK 5), .int (CY 5)])), ((qb 5), .inl (cc 0, 50, .inl (CC 5))), ((qa 6), .inr (4, [.ref (qb 6), .int (CK 6), .int (CY 6)])), ((qb 6), .inl (cc 0, 50, .inl (CC 6))), ((qa 7), .inr (4, [.ref (qb 7), .int (CK 7), .int (CY 7)])), ((qb 7), .inl (cc 0, 50, .inl (CC 7)))] H locs → lv_has ls 3 [(0, .ref q0), (1, .ref (qa k2)), (2, .int j3)] → (∀ (H : Heap) (locs : List Loc) (ls : Array Slot), PD (dC, dI) A s.heap [(q0, .inr (2, [.ref q1, .int height])), (q1, .inl (cc 3, 8, .inr (.inr (.inr (.inr fun j => some (qa (w4x j))))))), ((qa 0), .inr (4, [.ref (qb 0), .int (CK 0), .int (CY 0)])), ((qb 0), .inl (cc 0, 50, .inl (CC 0))), ((qa 1), .inr (4, [.ref (qb 1), .int (CK 1), .int (CY 1)])), ((qb 1), .inl (cc 0, 50, .inl (CC 1))), ((qa 2), .inr (4, [.ref (qb 2), .int (CK 2), .int (CY 2)])), ((qb 2), .inl (cc 0, 50, .inl (CC 2))), ((qa 3), .inr (4, [.ref (qb 3), .int (CK 3), .int (CY 3)])), ((qb 3), .inl (cc 0, 50, .inl (CC 3))), ((qa 4), .inr (4, [.ref (qb 4), .int (CK 4), .int (CY 4)])), ((qb 4), .inl (cc 0, 50, .inl (CC 4))), ((qa 5), .inr (4, [.ref (qb 5), .int (CK 5), .int (CY 5)])), ((qb 5), .inl (cc 0, 50, .inl (CC 5))), ((qa 6), .inr (4, [.ref (qb 6), .int (CK 6), .int (CY 6)])), ((qb 6), .inl (cc 0, 50, .inl (CC 6))), ((qa 7), .inr (4, [.ref (qb 7), .int (CK 7), .int (CY 7)])), ((qb 7), .inl (cc 0, 50, .inl (CC 7)))] H locs → lv_has ls 3 [(0, .ref q0), (1, .ref (qa k2)), (2, .int j3x)] → W p l e ({ frames := 0, cells := 0, slots := 0, locals := 0 } : Room) s m ([.ref q0] : List Value).toArray below meth c H locs 0 0 Z (F0 m 46 ls [])) → W p l e ({ frames := 0, cells := 0, slots := 0, locals := 0 } : Room) s m ([.ref q0] : List Value).toArray below meth c H locs 0 0 Z (F0 m 17 ls []) := by
    intro n
    induction n with
    | zero => intro j3 w4 j3x w4x h; exact (lp_0 h).elim
    | succ n ih =>
      intro j3 w4 j3x w4x h H locs ls hP hl KK
      obtain ⟨y, h, hz⟩ := lp_h h
      refine lv_iload_n hx hb dX2_dropLowest_17 rfl (lv_at hl 2 rfl) ?_
      refine lv_aload_n hx hb dX2_dropLowest_18 rfl (lv_at hl 0 rfl) ?_
      refine g_get hC hP fg_X2_15 0 rfl rfl dX2_dropLowest_19 ?_
      refine g_alen hC hP 1 3 rfl rfl (v := 8) rfl dX2_dropLowest_22 ?_
      refine lv_icmp_ge (tgt := 46) hx hb dX2_dropLowest_23 (by decide) (fun c5 => ?_) (fun c5 => ?_)
      · have h := if_t c5 h
        cases lp_e h hz
        exact KK H locs ls hP (lv_sub hl [0, 1, 2] rfl)
      · have h := if_f c5 h
        refine lv_aload_n hx hb dX2_dropLowest_26 rfl (lv_at hl 0 rfl) ?_
        refine g_get hC hP fg_X2_15 0 rfl rfl dX2_dropLowest_27 ?_
        refine lv_iload_n hx hb dX2_dropLowest_30 rfl (lv_at hl 2 rfl) ?_
        refine lv_iconst (v := 1) hx hb dX2_dropLowest_31 (by decide) ?_
        refine lv_isub hx hb dX2_dropLowest_32 ?_
        refine lv_aload_n hx hb dX2_dropLowest_33 rfl (lv_at hl 0 rfl) ?_
        refine g_get hC hP fg_X2_15 0 rfl rfl dX2_dropLowest_34 ?_
        refine lv_iload_n hx hb dX2_dropLowest_37 rfl (lv_at hl 2 rfl) ?_
        obtain ⟨hin, hkN, h⟩ := rdp_h h
        refine g_aaldP hC hP 1 3 rfl rfl hin dX2_dropLowest_38 (fun k6 ek => ?_)
        have h := h k6 ek
        have hN_k6 : k6 < 8 := by rw [ek]; exact hkN
        obtain ⟨hin, h⟩ := wrp_h h
        have hqk : ∃ (qk : Nat) (vs : List Value), ([(q0, .inr (2, [.ref q1, .int height])), (q1, .inl (cc 3, 8, .inr (.inr (.inr (.inr fun j => some (qa (w4 j))))))), ((qa 0), .inr (4, [.ref (qb 0), .int (CK 0), .int (CY 0)])), ((qb 0), .inl (cc 0, 50, .inl (CC 0))), ((qa 1), .inr (4, [.ref (qb 1), .int (CK 1), .int (CY 1)])), ((qb 1), .inl (cc 0, 50, .inl (CC 1))), ((qa 2), .inr (4, [.ref (qb 2), .int (CK 2), .int (CY 2)])), ((qb 2), .inl (cc 0, 50, .inl (CC 2))), ((qa 3), .inr (4, [.ref (qb 3), .int (CK 3), .int (CY 3)])), ((qb 3), .inl (cc 0, 50, .inl (CC 3))), ((qa 4), .inr (4, [.ref (qb 4), .int (CK 4), .int (CY 4)])), ((qb 4), .inl (cc 0, 50, .inl (CC 4))), ((qa 5), .inr (4, [.ref (qb 5), .int (CK 5), .int (CY 5)])), ((qb 5), .inl (cc 0, 50, .inl (CC 5))), ((qa 6), .inr (4, [.ref (qb 6), .int (CK 6), .int (CY 6)])), ((qb 6), .inl (cc 0, 50, .inl (CC 6))), ((qa 7), .inr (4, [.ref (qb 7), .int (CK 7), .int (CY 7)])), ((qb 7), .inl (cc 0, 50, .inl (CC 7)))] : va_W)[qk]? = some ((qa k6), .inr (4, vs)) := by
          rcases lt8 hN_k6 with e | e | e | e | e | e | e | e
          · subst e
            exact ⟨2, _, rfl⟩
          · subst e
            exact ⟨4, _, rfl⟩
          · subst e
            exact ⟨6, _, rfl⟩
          · subst e
            exact ⟨8, _, rfl⟩
          · subst e
            exact ⟨10, _, rfl⟩
          · subst e
            exact ⟨12, _, rfl⟩
          · subst e
            exact ⟨14, _, rfl⟩
          · subst e
            exact ⟨16, _, rfl⟩
        refine g_aastP hC hP 1 3 rfl rfl hqk hin dX2_dropLowest_39 (fun p7 ev H locs hP => ?_)
        have hP : PD (dC, dI) A s.heap [(q0, .inr (2, [.ref q1, .int height])), (q1, .inl (cc 3, 8, .inr (.inr (.inr (.inr fun j => some (qa (p7 j))))))), ((qa 0), .inr (4, [.ref (qb 0), .int (CK 0), .int (CY 0)])), ((qb 0), .inl (cc 0, 50, .inl (CC 0))), ((qa 1), .inr (4, [.ref (qb 1), .int (CK 1), .int (CY 1)])), ((qb 1), .inl (cc 0, 50, .inl (CC 1))), ((qa 2), .inr (4, [.ref (qb 2), .int (CK 2), .int (CY 2)])), ((qb 2), .inl (cc 0, 50, .inl (CC 2))), ((qa 3), .inr (4, [.ref (qb 3), .int (CK 3), .int (CY 3)])), ((qb 3), .inl (cc 0, 50, .inl (CC 3))), ((qa 4), .inr (4, [.ref (qb 4), .int (CK 4), .int (CY 4)])), ((qb 4), .inl (cc 0, 50, .inl (CC 4))), ((qa 5), .inr (4, [.ref (qb 5), .int (CK 5), .int (CY 5)])), ((qb 5), .inl (cc 0, 50, .inl (CC 5))), ((qa 6), .inr (4, [.ref (qb 6), .int (CK 6), .int (CY 6)])), ((qb 6), .inl (cc 0, 50, .inl (CC 6))), ((qa 7), .inr (4, [.ref (qb 7), .int (CK 7), .int (CY 7)])), ((qb 7), .inl (cc 0, 50, .inl (CC 7)))] H locs := hP
        have h := h p7 ev
        refine lv_iinc (v := (j3 + 1)) (lv' := [(2, .int (j3 + 1)), (0, .ref q0), (1, .ref (qa k2))]) hx hb dX2_dropLowest_40 hl (k := 2) rfl rfl (by decide) rfl (fun ls hl => ?_)
        refine lv_goto (tgt := 17) hx hb dX2_dropLowest_43 (by decide) ?_
        exact ih _ _ _ _ (lp_n h hz) H locs ls hP (lv_sub hl [1, 2, 0] rfl) KK
  refine L1 FU _ _ j3x w4x hlp H locs ls hP (lv_sub hl [2, 1, 0] rfl) (fun H locs ls hP hl => ?_)
  refine lv_aload_n hx hb dX2_dropLowest_46 rfl (lv_at hl 0 rfl) ?_
  refine g_get hC hP fg_X2_15 0 rfl rfl dX2_dropLowest_47 ?_
  refine lv_aload_n hx hb dX2_dropLowest_50 rfl (lv_at hl 0 rfl) ?_
  refine g_get hC hP fg_X2_15 0 rfl rfl dX2_dropLowest_51 ?_
  refine g_alen hC hP 1 3 rfl rfl (v := 8) rfl dX2_dropLowest_54 ?_
  refine lv_iconst (v := 1) hx hb dX2_dropLowest_55 (by decide) ?_
  refine lv_isub hx hb dX2_dropLowest_56 ?_
  refine lv_aload_n hx hb dX2_dropLowest_57 rfl (lv_at hl 1 rfl) ?_
  obtain ⟨hin, h⟩ := wrp_h h
  have hqk : ∃ (qk : Nat) (vs : List Value), ([(q0, .inr (2, [.ref q1, .int height])), (q1, .inl (cc 3, 8, .inr (.inr (.inr (.inr fun j => some (qa (w4x j))))))), ((qa 0), .inr (4, [.ref (qb 0), .int (CK 0), .int (CY 0)])), ((qb 0), .inl (cc 0, 50, .inl (CC 0))), ((qa 1), .inr (4, [.ref (qb 1), .int (CK 1), .int (CY 1)])), ((qb 1), .inl (cc 0, 50, .inl (CC 1))), ((qa 2), .inr (4, [.ref (qb 2), .int (CK 2), .int (CY 2)])), ((qb 2), .inl (cc 0, 50, .inl (CC 2))), ((qa 3), .inr (4, [.ref (qb 3), .int (CK 3), .int (CY 3)])), ((qb 3), .inl (cc 0, 50, .inl (CC 3))), ((qa 4), .inr (4, [.ref (qb 4), .int (CK 4), .int (CY 4)])), ((qb 4), .inl (cc 0, 50, .inl (CC 4))), ((qa 5), .inr (4, [.ref (qb 5), .int (CK 5), .int (CY 5)])), ((qb 5), .inl (cc 0, 50, .inl (CC 5))), ((qa 6), .inr (4, [.ref (qb 6), .int (CK 6), .int (CY 6)])), ((qb 6), .inl (cc 0, 50, .inl (CC 6))), ((qa 7), .inr (4, [.ref (qb 7), .int (CK 7), .int (CY 7)])), ((qb 7), .inl (cc 0, 50, .inl (CC 7)))] : va_W)[qk]? = some ((qa k2), .inr (4, vs)) := by
    rcases lt8 hN_k2 with e | e | e | e | e | e | e | e
    · subst e
      exact ⟨2, _, rfl⟩
    · subst e
      exact ⟨4, _, rfl⟩
    · subst e
      exact ⟨6, _, rfl⟩
    · subst e
      exact ⟨8, _, rfl⟩
    · subst e
      exact ⟨10, _, rfl⟩
    · subst e
      exact ⟨12, _, rfl⟩
    · subst e
      exact ⟨14, _, rfl⟩
    · subst e
      exact ⟨16, _, rfl⟩
  refine g_aastP hC hP 1 3 rfl rfl hqk hin dX2_dropLowest_58 (fun p8 ev H locs hP => ?_)
  have hP : PD (dC, dI) A s.heap [(q0, .inr (2, [.ref q1, .int height])), (q1, .inl (cc 3, 8, .inr (.inr (.inr (.inr fun j => some (qa (p8 j))))))), ((qa 0), .inr (4, [.ref (qb 0), .int (CK 0), .int (CY 0)])), ((qb 0), .inl (cc 0, 50, .inl (CC 0))), ((qa 1), .inr (4, [.ref (qb 1), .int (CK 1), .int (CY 1)])), ((qb 1), .inl (cc 0, 50, .inl (CC 1))), ((qa 2), .inr (4, [.ref (qb 2), .int (CK 2), .int (CY 2)])), ((qb 2), .inl (cc 0, 50, .inl (CC 2))), ((qa 3), .inr (4, [.ref (qb 3), .int (CK 3), .int (CY 3)])), ((qb 3), .inl (cc 0, 50, .inl (CC 3))), ((qa 4), .inr (4, [.ref (qb 4), .int (CK 4), .int (CY 4)])), ((qb 4), .inl (cc 0, 50, .inl (CC 4))), ((qa 5), .inr (4, [.ref (qb 5), .int (CK 5), .int (CY 5)])), ((qb 5), .inl (cc 0, 50, .inl (CC 5))), ((qa 6), .inr (4, [.ref (qb 6), .int (CK 6), .int (CY 6)])), ((qb 6), .inl (cc 0, 50, .inl (CC 6))), ((qa 7), .inr (4, [.ref (qb 7), .int (CK 7), .int (CY 7)])), ((qb 7), .inl (cc 0, 50, .inl (CC 7)))] H locs := hP
  have h := h p8 ev
  refine lv_aload_n hx hb dX2_dropLowest_59 rfl (lv_at hl 0 rfl) ?_
  refine lv_dup hx hb dX2_dropLowest_60 rfl ?_
  refine g_get hC hP fg_X2_22 0 rfl rfl dX2_dropLowest_61 ?_
  refine lv_iconst (v := 1) hx hb dX2_dropLowest_64 (by decide) ?_
  refine lv_isub hx hb dX2_dropLowest_65 ?_
  refine g_put hC hP fg_X2_22 0 rfl rfl rfl (Nat.le_of_ble_eq_true rfl) dX2_dropLowest_66 (fun H locs hP => ?_)
  have hP : PD (dC, dI) A s.heap [(q0, .inr (2, [.ref q1, .int (height - 1)])), (q1, .inl (cc 3, 8, .inr (.inr (.inr (.inr fun j => some (qa (p8 j))))))), ((qa 0), .inr (4, [.ref (qb 0), .int (CK 0), .int (CY 0)])), ((qb 0), .inl (cc 0, 50, .inl (CC 0))), ((qa 1), .inr (4, [.ref (qb 1), .int (CK 1), .int (CY 1)])), ((qb 1), .inl (cc 0, 50, .inl (CC 1))), ((qa 2), .inr (4, [.ref (qb 2), .int (CK 2), .int (CY 2)])), ((qb 2), .inl (cc 0, 50, .inl (CC 2))), ((qa 3), .inr (4, [.ref (qb 3), .int (CK 3), .int (CY 3)])), ((qb 3), .inl (cc 0, 50, .inl (CC 3))), ((qa 4), .inr (4, [.ref (qb 4), .int (CK 4), .int (CY 4)])), ((qb 4), .inl (cc 0, 50, .inl (CC 4))), ((qa 5), .inr (4, [.ref (qb 5), .int (CK 5), .int (CY 5)])), ((qb 5), .inl (cc 0, 50, .inl (CC 5))), ((qa 6), .inr (4, [.ref (qb 6), .int (CK 6), .int (CY 6)])), ((qb 6), .inl (cc 0, 50, .inl (CC 6))), ((qa 7), .inr (4, [.ref (qb 7), .int (CK 7), .int (CY 7)])), ((qb 7), .inl (cc 0, 50, .inl (CC 7)))] H locs := hP
  rw [eZ]
  exact ret_v hC hr hlk hP dX2_dropLowest_69 (p8, (height - 1)) (Option.some.inj h) rfl
set_option maxHeartbeats 8000000 in
set_option maxRecDepth 100000 in
theorem c_X2_push_8 (l : Launch) (dC : Nat → ClassId) (dI : Nat → Nat → Nat) (cc : Nat → ClassId) (q0 q1 q2 q3 : Nat) (qa qb : Nat → Nat) (height : Int32) (pp : (Nat → Nat)) (CC : (Nat → Nat → Int32)) (CK : (Nat → Int32)) (CY : (Nat → Int32)) (o1_clogs : Int32) (o1_day : Int32) (o1_cells : (Nat → Int32)) (sz : Nat) (o_pp : (Nat → Nat)) (o_CC : (Nat → Nat → Int32)) (o_CK : (Nat → Int32)) (o_CY : (Nat → Int32)) (o_height : Int32) (hu : f_X2_push_8 height pp CC CK CY o1_clogs o1_day o1_cells = some (o_pp, o_CC, o_CK, o_CY, o_height)) : Met l yX2_push (mw yX2_push cX2_push 2 none) ({ frames := 3, cells := 0, slots := 0, locals := 82 } : Room) (va_Pc [.ref q0, .ref q2] (mP (dC, dI) (ts cc) sz [(q0, .inr (2, [.ref q1, .int height])), (q1, .inl (cc 3, 8, .inr (.inr (.inr (.inr fun j => some (qa (pp j))))))), ((qa 0), .inr (4, [.ref (qb 0), .int (CK 0), .int (CY 0)])), ((qb 0), .inl (cc 0, 50, .inl (CC 0))), ((qa 1), .inr (4, [.ref (qb 1), .int (CK 1), .int (CY 1)])), ((qb 1), .inl (cc 0, 50, .inl (CC 1))), ((qa 2), .inr (4, [.ref (qb 2), .int (CK 2), .int (CY 2)])), ((qb 2), .inl (cc 0, 50, .inl (CC 2))), ((qa 3), .inr (4, [.ref (qb 3), .int (CK 3), .int (CY 3)])), ((qb 3), .inl (cc 0, 50, .inl (CC 3))), ((qa 4), .inr (4, [.ref (qb 4), .int (CK 4), .int (CY 4)])), ((qb 4), .inl (cc 0, 50, .inl (CC 4))), ((qa 5), .inr (4, [.ref (qb 5), .int (CK 5), .int (CY 5)])), ((qb 5), .inl (cc 0, 50, .inl (CC 5))), ((qa 6), .inr (4, [.ref (qb 6), .int (CK 6), .int (CY 6)])), ((qb 6), .inl (cc 0, 50, .inl (CC 6))), ((qa 7), .inr (4, [.ref (qb 7), .int (CK 7), .int (CY 7)])), ((qb 7), .inl (cc 0, 50, .inl (CC 7))), (q2, .inr (4, [.ref q3, .int o1_clogs, .int o1_day])), (q3, .inl (cc 0, 50, .inl o1_cells))])) ((fun A => va_Qv (fun (w : (Nat → Nat) × (Nat → Nat → Int32) × (Nat → Int32) × (Nat → Int32) × Int32) => w = (o_pp, o_CC, o_CK, o_CY, o_height)) (fun (w : (Nat → Nat) × (Nat → Nat → Int32) × (Nat → Int32) × (Nat → Int32) × Int32) t => va_P (dC, dI) classes [(q0, .inr (2, [.ref q1, .int w.2.2.2.2])), (q1, .inl (cc 3, 8, .inr (.inr (.inr (.inr fun j => some (qa (w.1 j))))))), ((qa 0), .inr (4, [.ref (qb 0), .int (w.2.2.1 0), .int (w.2.2.2.1 0)])), ((qb 0), .inl (cc 0, 50, .inl (w.2.1 0))), ((qa 1), .inr (4, [.ref (qb 1), .int (w.2.2.1 1), .int (w.2.2.2.1 1)])), ((qb 1), .inl (cc 0, 50, .inl (w.2.1 1))), ((qa 2), .inr (4, [.ref (qb 2), .int (w.2.2.1 2), .int (w.2.2.2.1 2)])), ((qb 2), .inl (cc 0, 50, .inl (w.2.1 2))), ((qa 3), .inr (4, [.ref (qb 3), .int (w.2.2.1 3), .int (w.2.2.2.1 3)])), ((qb 3), .inl (cc 0, 50, .inl (w.2.1 3))), ((qa 4), .inr (4, [.ref (qb 4), .int (w.2.2.1 4), .int (w.2.2.2.1 4)])), ((qb 4), .inl (cc 0, 50, .inl (w.2.1 4))), ((qa 5), .inr (4, [.ref (qb 5), .int (w.2.2.1 5), .int (w.2.2.2.1 5)])), ((qb 5), .inl (cc 0, 50, .inl (w.2.1 5))), ((qa 6), .inr (4, [.ref (qb 6), .int (w.2.2.1 6), .int (w.2.2.2.1 6)])), ((qb 6), .inl (cc 0, 50, .inl (w.2.1 6))), ((qa 7), .inr (4, [.ref (qb 7), .int (w.2.2.1 7), .int (w.2.2.2.1 7)])), ((qb 7), .inl (cc 0, 50, .inl (w.2.1 7))), (q2, .inr (4, [.ref q3, .int o1_clogs, .int o1_day])), (q3, .inl (cc 0, 50, .inl o1_cells))] t.heap) A) (va_A [(q0, .inr (2, [.ref q1, .int height])), (q1, .inl (cc 3, 8, .inr (.inr (.inr (.inr fun j => some (qa (pp j))))))), ((qa 0), .inr (4, [.ref (qb 0), .int (CK 0), .int (CY 0)])), ((qb 0), .inl (cc 0, 50, .inl (CC 0))), ((qa 1), .inr (4, [.ref (qb 1), .int (CK 1), .int (CY 1)])), ((qb 1), .inl (cc 0, 50, .inl (CC 1))), ((qa 2), .inr (4, [.ref (qb 2), .int (CK 2), .int (CY 2)])), ((qb 2), .inl (cc 0, 50, .inl (CC 2))), ((qa 3), .inr (4, [.ref (qb 3), .int (CK 3), .int (CY 3)])), ((qb 3), .inl (cc 0, 50, .inl (CC 3))), ((qa 4), .inr (4, [.ref (qb 4), .int (CK 4), .int (CY 4)])), ((qb 4), .inl (cc 0, 50, .inl (CC 4))), ((qa 5), .inr (4, [.ref (qb 5), .int (CK 5), .int (CY 5)])), ((qb 5), .inl (cc 0, 50, .inl (CC 5))), ((qa 6), .inr (4, [.ref (qb 6), .int (CK 6), .int (CY 6)])), ((qb 6), .inl (cc 0, 50, .inl (CC 6))), ((qa 7), .inr (4, [.ref (qb 7), .int (CK 7), .int (CY 7)])), ((qb 7), .inl (cc 0, 50, .inl (CC 7))), (q2, .inr (4, [.ref q3, .int o1_clogs, .int o1_day])), (q3, .inl (cc 0, 50, .inl o1_cells))] sz)) 0 0 (va_A [(q0, .inr (2, [.ref q1, .int height])), (q1, .inl (cc 3, 8, .inr (.inr (.inr (.inr fun j => some (qa (pp j))))))), ((qa 0), .inr (4, [.ref (qb 0), .int (CK 0), .int (CY 0)])), ((qb 0), .inl (cc 0, 50, .inl (CC 0))), ((qa 1), .inr (4, [.ref (qb 1), .int (CK 1), .int (CY 1)])), ((qb 1), .inl (cc 0, 50, .inl (CC 1))), ((qa 2), .inr (4, [.ref (qb 2), .int (CK 2), .int (CY 2)])), ((qb 2), .inl (cc 0, 50, .inl (CC 2))), ((qa 3), .inr (4, [.ref (qb 3), .int (CK 3), .int (CY 3)])), ((qb 3), .inl (cc 0, 50, .inl (CC 3))), ((qa 4), .inr (4, [.ref (qb 4), .int (CK 4), .int (CY 4)])), ((qb 4), .inl (cc 0, 50, .inl (CC 4))), ((qa 5), .inr (4, [.ref (qb 5), .int (CK 5), .int (CY 5)])), ((qb 5), .inl (cc 0, 50, .inl (CC 5))), ((qa 6), .inr (4, [.ref (qb 6), .int (CK 6), .int (CY 6)])), ((qb 6), .inl (cc 0, 50, .inl (CC 6))), ((qa 7), .inr (4, [.ref (qb 7), .int (CK 7), .int (CY 7)])), ((qb 7), .inl (cc 0, 50, .inl (CC 7))), (q2, .inr (4, [.ref q3, .int o1_clogs, .int o1_day])), (q3, .inl (cc 0, 50, .inl o1_cells))] sz) := by
  refine met_go (Qc := fun A => va_Qv (fun (w : (Nat → Nat) × (Nat → Nat → Int32) × (Nat → Int32) × (Nat → Int32) × Int32) => w = (o_pp, o_CC, o_CK, o_CY, o_height)) (fun (w : (Nat → Nat) × (Nat → Nat → Int32) × (Nat → Int32) × (Nat → Int32) × Int32) t => va_P (dC, dI) classes [(q0, .inr (2, [.ref q1, .int w.2.2.2.2])), (q1, .inl (cc 3, 8, .inr (.inr (.inr (.inr fun j => some (qa (w.1 j))))))), ((qa 0), .inr (4, [.ref (qb 0), .int (w.2.2.1 0), .int (w.2.2.2.1 0)])), ((qb 0), .inl (cc 0, 50, .inl (w.2.1 0))), ((qa 1), .inr (4, [.ref (qb 1), .int (w.2.2.1 1), .int (w.2.2.2.1 1)])), ((qb 1), .inl (cc 0, 50, .inl (w.2.1 1))), ((qa 2), .inr (4, [.ref (qb 2), .int (w.2.2.1 2), .int (w.2.2.2.1 2)])), ((qb 2), .inl (cc 0, 50, .inl (w.2.1 2))), ((qa 3), .inr (4, [.ref (qb 3), .int (w.2.2.1 3), .int (w.2.2.2.1 3)])), ((qb 3), .inl (cc 0, 50, .inl (w.2.1 3))), ((qa 4), .inr (4, [.ref (qb 4), .int (w.2.2.1 4), .int (w.2.2.2.1 4)])), ((qb 4), .inl (cc 0, 50, .inl (w.2.1 4))), ((qa 5), .inr (4, [.ref (qb 5), .int (w.2.2.1 5), .int (w.2.2.2.1 5)])), ((qb 5), .inl (cc 0, 50, .inl (w.2.1 5))), ((qa 6), .inr (4, [.ref (qb 6), .int (w.2.2.1 6), .int (w.2.2.2.1 6)])), ((qb 6), .inl (cc 0, 50, .inl (w.2.1 6))), ((qa 7), .inr (4, [.ref (qb 7), .int (w.2.2.1 7), .int (w.2.2.2.1 7)])), ((qb 7), .inl (cc 0, 50, .inl (w.2.1 7))), (q2, .inr (4, [.ref q3, .int o1_clogs, .int o1_day])), (q3, .inl (cc 0, 50, .inl o1_cells))] t.heap) A) (by decide) (Nat.le_of_ble_eq_true rfl) ?_
  intro p e s m below meth c A ls H locs hC hr hlk hin hA hP hl _
  have hC : CX p m c cX2_push 2 s ([.ref q0, .ref q2] : List Value).toArray RX2 (dC, dI) (ts cc) := hC
  have hx := hC.1.1
  have hb := hC.1.2
  have h := hu
  have hu0 := hu
  unfold f_X2_push_8 at h
  have hl : lv_has ls 2 [(0, .ref q0), (1, .ref q2)] := hl
  refine lv_aload_n hx hb dX2_push_0 rfl (lv_at hl 0 rfl) ?_
  obtain ⟨r1, hu, h⟩ := bnd_h h
  refine kc_z (kV hC (c_X2_isFull_8 l dC dI cc q0 q1 qa qb height pp H.size r1 hu) cv_X2_26 kw495 rfl rfl ⟨(Nat.le_of_ble_eq_true rfl), (Nat.le_of_ble_eq_true rfl)⟩ hP [0, 1] rfl rfl rfl (q0 := 0) rfl (As := []) (rest := []) rfl rfl hl.1 (Nat.le_of_ble_eq_true rfl) dX2_push_1 ⟨Nat.zero_le _, Nat.zero_le _⟩) hP hA [0, 1] rfl rfl (fun hz_r1 H locs hP => ?_)
  have hP : PD (dC, dI) A s.heap [(q0, .inr (2, [.ref q1, .int height])), (q1, .inl (cc 3, 8, .inr (.inr (.inr (.inr fun j => some (qa (pp j))))))), ((qa 0), .inr (4, [.ref (qb 0), .int (CK 0), .int (CY 0)])), ((qb 0), .inl (cc 0, 50, .inl (CC 0))), ((qa 1), .inr (4, [.ref (qb 1), .int (CK 1), .int (CY 1)])), ((qb 1), .inl (cc 0, 50, .inl (CC 1))), ((qa 2), .inr (4, [.ref (qb 2), .int (CK 2), .int (CY 2)])), ((qb 2), .inl (cc 0, 50, .inl (CC 2))), ((qa 3), .inr (4, [.ref (qb 3), .int (CK 3), .int (CY 3)])), ((qb 3), .inl (cc 0, 50, .inl (CC 3))), ((qa 4), .inr (4, [.ref (qb 4), .int (CK 4), .int (CY 4)])), ((qb 4), .inl (cc 0, 50, .inl (CC 4))), ((qa 5), .inr (4, [.ref (qb 5), .int (CK 5), .int (CY 5)])), ((qb 5), .inl (cc 0, 50, .inl (CC 5))), ((qa 6), .inr (4, [.ref (qb 6), .int (CK 6), .int (CY 6)])), ((qb 6), .inl (cc 0, 50, .inl (CC 6))), ((qa 7), .inr (4, [.ref (qb 7), .int (CK 7), .int (CY 7)])), ((qb 7), .inl (cc 0, 50, .inl (CC 7))), (q2, .inr (4, [.ref q3, .int o1_clogs, .int o1_day])), (q3, .inl (cc 0, 50, .inl o1_cells))] H locs := hP
  refine lv_if_eq (tgt := 11) hx hb dX2_push_4 (by decide) (fun c2 => ?_) (fun c2 => ?_)
  · have h := if_t c2 h
    refine lv_aload_n hx hb dX2_push_11 rfl (lv_at hl 0 rfl) ?_
    refine g_get hC hP fg_X2_22 0 rfl rfl dX2_push_12 ?_
    refine lv_if_lt (tgt := 65) hx hb dX2_push_15 (by decide) (fun c3 => ?_) (fun c3 => ?_)
    · have h := if_t c3 h
      exact ret_v hC hr hlk hP dX2_push_65 (pp, CC, CK, CY, height) (Option.some.inj h) rfl
    · have h := if_f c3 h
      refine lv_aload_n hx hb dX2_push_18 rfl (lv_at hl 0 rfl) ?_
      refine g_get hC hP fg_X2_22 0 rfl rfl dX2_push_19 ?_
      refine lv_aload_n hx hb dX2_push_22 rfl (lv_at hl 0 rfl) ?_
      refine g_get hC hP fg_X2_15 0 rfl rfl dX2_push_23 ?_
      refine g_alen hC hP 1 3 rfl rfl (v := 8) rfl dX2_push_26 ?_
      refine lv_icmp_ge (tgt := 65) hx hb dX2_push_27 (by decide) (fun c4 => ?_) (fun c4 => ?_)
      · have h := if_t c4 h
        exact ret_v hC hr hlk hP dX2_push_65 (pp, CC, CK, CY, height) (Option.some.inj h) rfl
      · have h := if_f c4 h
        refine lv_aload_n hx hb dX2_push_30 rfl (lv_at hl 0 rfl) ?_
        refine g_get hC hP fg_X2_15 0 rfl rfl dX2_push_31 ?_
        refine lv_aload_n hx hb dX2_push_34 rfl (lv_at hl 0 rfl) ?_
        refine g_get hC hP fg_X2_22 0 rfl rfl dX2_push_35 ?_
        obtain ⟨hin, hkN, h⟩ := rdp_h h
        refine g_aaldP hC hP 1 3 rfl rfl hin dX2_push_38 (fun k5 ek => ?_)
        have h := h k5 ek
        have hN_k5 : k5 < 8 := by rw [ek]; exact hkN
        refine lv_ifnull hx hb dX2_push_39 ?_
        refine lv_aload_n hx hb dX2_push_42 rfl (lv_at hl 0 rfl) ?_
        refine g_get hC hP fg_X2_15 0 rfl rfl dX2_push_43 ?_
        refine lv_aload_n hx hb dX2_push_46 rfl (lv_at hl 0 rfl) ?_
        refine g_get hC hP fg_X2_22 0 rfl rfl dX2_push_47 ?_
        obtain ⟨hin, hkN, h⟩ := rdp_h h
        refine g_aaldP hC hP 1 3 rfl rfl hin dX2_push_50 (fun k6 ek => ?_)
        have h := h k6 ek
        have hN_k6 : k6 < 8 := by rw [ek]; exact hkN
        refine lv_aload_n hx hb dX2_push_51 rfl (lv_at hl 1 rfl) ?_
        rcases lt8 hN_k6 with e | e | e | e | e | e | e | e
        · subst e
          obtain ⟨⟨w7, w8, w9⟩, hu, h⟩ := bnd_h h
          refine kc_v (kV hC (c_X4_copy l dC dI cc (qa 0) (qb 0) q2 q3 (CK 0) (CY 0) (CC 0) o1_clogs o1_day o1_cells H.size w7 w8 w9 hu) cv_X2_33 kw372 rfl rfl ⟨(Nat.le_of_ble_eq_true rfl), (Nat.le_of_ble_eq_true rfl)⟩ hP [2, 3, 18, 19] rfl rfl rfl (q0 := 2) rfl (As := [.ref q2]) (rest := []) rfl rfl hl.1 (Nat.le_of_ble_eq_true rfl) dX2_push_52 ⟨Nat.zero_le _, Nat.zero_le _⟩) hP hA [2, 3, 18, 19] rfl rfl (fun H locs hP => ?_)
          have hP : PD (dC, dI) A s.heap [(q0, .inr (2, [.ref q1, .int height])), (q1, .inl (cc 3, 8, .inr (.inr (.inr (.inr fun j => some (qa (pp j))))))), ((qa 0), .inr (4, [.ref (qb 0), .int w8, .int w9])), ((qb 0), .inl (cc 0, 50, .inl w7)), ((qa 1), .inr (4, [.ref (qb 1), .int (CK 1), .int (CY 1)])), ((qb 1), .inl (cc 0, 50, .inl (CC 1))), ((qa 2), .inr (4, [.ref (qb 2), .int (CK 2), .int (CY 2)])), ((qb 2), .inl (cc 0, 50, .inl (CC 2))), ((qa 3), .inr (4, [.ref (qb 3), .int (CK 3), .int (CY 3)])), ((qb 3), .inl (cc 0, 50, .inl (CC 3))), ((qa 4), .inr (4, [.ref (qb 4), .int (CK 4), .int (CY 4)])), ((qb 4), .inl (cc 0, 50, .inl (CC 4))), ((qa 5), .inr (4, [.ref (qb 5), .int (CK 5), .int (CY 5)])), ((qb 5), .inl (cc 0, 50, .inl (CC 5))), ((qa 6), .inr (4, [.ref (qb 6), .int (CK 6), .int (CY 6)])), ((qb 6), .inl (cc 0, 50, .inl (CC 6))), ((qa 7), .inr (4, [.ref (qb 7), .int (CK 7), .int (CY 7)])), ((qb 7), .inl (cc 0, 50, .inl (CC 7))), (q2, .inr (4, [.ref q3, .int o1_clogs, .int o1_day])), (q3, .inl (cc 0, 50, .inl o1_cells))] H locs := hP
          have hP : PD (dC, dI) A s.heap [(q0, .inr (2, [.ref q1, .int height])), (q1, .inl (cc 3, 8, .inr (.inr (.inr (.inr fun j => some (qa (pp j))))))), ((qa 0), .inr (4, [.ref (qb 0), .int ((va_up CK 0 w8) 0), .int ((va_up CY 0 w9) 0)])), ((qb 0), .inl (cc 0, 50, .inl ((va_up CC 0 w7) 0))), ((qa 1), .inr (4, [.ref (qb 1), .int ((va_up CK 0 w8) 1), .int ((va_up CY 0 w9) 1)])), ((qb 1), .inl (cc 0, 50, .inl ((va_up CC 0 w7) 1))), ((qa 2), .inr (4, [.ref (qb 2), .int ((va_up CK 0 w8) 2), .int ((va_up CY 0 w9) 2)])), ((qb 2), .inl (cc 0, 50, .inl ((va_up CC 0 w7) 2))), ((qa 3), .inr (4, [.ref (qb 3), .int ((va_up CK 0 w8) 3), .int ((va_up CY 0 w9) 3)])), ((qb 3), .inl (cc 0, 50, .inl ((va_up CC 0 w7) 3))), ((qa 4), .inr (4, [.ref (qb 4), .int ((va_up CK 0 w8) 4), .int ((va_up CY 0 w9) 4)])), ((qb 4), .inl (cc 0, 50, .inl ((va_up CC 0 w7) 4))), ((qa 5), .inr (4, [.ref (qb 5), .int ((va_up CK 0 w8) 5), .int ((va_up CY 0 w9) 5)])), ((qb 5), .inl (cc 0, 50, .inl ((va_up CC 0 w7) 5))), ((qa 6), .inr (4, [.ref (qb 6), .int ((va_up CK 0 w8) 6), .int ((va_up CY 0 w9) 6)])), ((qb 6), .inl (cc 0, 50, .inl ((va_up CC 0 w7) 6))), ((qa 7), .inr (4, [.ref (qb 7), .int ((va_up CK 0 w8) 7), .int ((va_up CY 0 w9) 7)])), ((qb 7), .inl (cc 0, 50, .inl ((va_up CC 0 w7) 7))), (q2, .inr (4, [.ref q3, .int o1_clogs, .int o1_day])), (q3, .inl (cc 0, 50, .inl o1_cells))] H locs := hP
          refine lv_aload_n hx hb dX2_push_55 rfl (lv_at hl 0 rfl) ?_
          refine lv_dup hx hb dX2_push_56 rfl ?_
          refine g_get hC hP fg_X2_22 0 rfl rfl dX2_push_57 ?_
          refine lv_iconst (v := 1) hx hb dX2_push_60 (by decide) ?_
          refine lv_iadd hx hb dX2_push_61 ?_
          refine g_put hC hP fg_X2_22 0 rfl rfl rfl (Nat.le_of_ble_eq_true rfl) dX2_push_62 (fun H locs hP => ?_)
          have hP : PD (dC, dI) A s.heap [(q0, .inr (2, [.ref q1, .int (height + 1)])), (q1, .inl (cc 3, 8, .inr (.inr (.inr (.inr fun j => some (qa (pp j))))))), ((qa 0), .inr (4, [.ref (qb 0), .int ((va_up CK 0 w8) 0), .int ((va_up CY 0 w9) 0)])), ((qb 0), .inl (cc 0, 50, .inl ((va_up CC 0 w7) 0))), ((qa 1), .inr (4, [.ref (qb 1), .int ((va_up CK 0 w8) 1), .int ((va_up CY 0 w9) 1)])), ((qb 1), .inl (cc 0, 50, .inl ((va_up CC 0 w7) 1))), ((qa 2), .inr (4, [.ref (qb 2), .int ((va_up CK 0 w8) 2), .int ((va_up CY 0 w9) 2)])), ((qb 2), .inl (cc 0, 50, .inl ((va_up CC 0 w7) 2))), ((qa 3), .inr (4, [.ref (qb 3), .int ((va_up CK 0 w8) 3), .int ((va_up CY 0 w9) 3)])), ((qb 3), .inl (cc 0, 50, .inl ((va_up CC 0 w7) 3))), ((qa 4), .inr (4, [.ref (qb 4), .int ((va_up CK 0 w8) 4), .int ((va_up CY 0 w9) 4)])), ((qb 4), .inl (cc 0, 50, .inl ((va_up CC 0 w7) 4))), ((qa 5), .inr (4, [.ref (qb 5), .int ((va_up CK 0 w8) 5), .int ((va_up CY 0 w9) 5)])), ((qb 5), .inl (cc 0, 50, .inl ((va_up CC 0 w7) 5))), ((qa 6), .inr (4, [.ref (qb 6), .int ((va_up CK 0 w8) 6), .int ((va_up CY 0 w9) 6)])), ((qb 6), .inl (cc 0, 50, .inl ((va_up CC 0 w7) 6))), ((qa 7), .inr (4, [.ref (qb 7), .int ((va_up CK 0 w8) 7), .int ((va_up CY 0 w9) 7)])), ((qb 7), .inl (cc 0, 50, .inl ((va_up CC 0 w7) 7))), (q2, .inr (4, [.ref q3, .int o1_clogs, .int o1_day])), (q3, .inl (cc 0, 50, .inl o1_cells))] H locs := hP
          exact ret_v hC hr hlk hP dX2_push_65 (pp, (va_up CC 0 w7), (va_up CK 0 w8), (va_up CY 0 w9), (height + 1)) (Option.some.inj h) rfl
        · subst e
          obtain ⟨⟨w7, w8, w9⟩, hu, h⟩ := bnd_h h
          refine kc_v (kV hC (c_X4_copy l dC dI cc (qa 1) (qb 1) q2 q3 (CK 1) (CY 1) (CC 1) o1_clogs o1_day o1_cells H.size w7 w8 w9 hu) cv_X2_33 kw372 rfl rfl ⟨(Nat.le_of_ble_eq_true rfl), (Nat.le_of_ble_eq_true rfl)⟩ hP [4, 5, 18, 19] rfl rfl rfl (q0 := 4) rfl (As := [.ref q2]) (rest := []) rfl rfl hl.1 (Nat.le_of_ble_eq_true rfl) dX2_push_52 ⟨Nat.zero_le _, Nat.zero_le _⟩) hP hA [4, 5, 18, 19] rfl rfl (fun H locs hP => ?_)
          have hP : PD (dC, dI) A s.heap [(q0, .inr (2, [.ref q1, .int height])), (q1, .inl (cc 3, 8, .inr (.inr (.inr (.inr fun j => some (qa (pp j))))))), ((qa 0), .inr (4, [.ref (qb 0), .int (CK 0), .int (CY 0)])), ((qb 0), .inl (cc 0, 50, .inl (CC 0))), ((qa 1), .inr (4, [.ref (qb 1), .int w8, .int w9])), ((qb 1), .inl (cc 0, 50, .inl w7)), ((qa 2), .inr (4, [.ref (qb 2), .int (CK 2), .int (CY 2)])), ((qb 2), .inl (cc 0, 50, .inl (CC 2))), ((qa 3), .inr (4, [.ref (qb 3), .int (CK 3), .int (CY 3)])), ((qb 3), .inl (cc 0, 50, .inl (CC 3))), ((qa 4), .inr (4, [.ref (qb 4), .int (CK 4), .int (CY 4)])), ((qb 4), .inl (cc 0, 50, .inl (CC 4))), ((qa 5), .inr (4, [.ref (qb 5), .int (CK 5), .int (CY 5)])), ((qb 5), .inl (cc 0, 50, .inl (CC 5))), ((qa 6), .inr (4, [.ref (qb 6), .int (CK 6), .int (CY 6)])), ((qb 6), .inl (cc 0, 50, .inl (CC 6))), ((qa 7), .inr (4, [.ref (qb 7), .int (CK 7), .int (CY 7)])), ((qb 7), .inl (cc 0, 50, .inl (CC 7))), (q2, .inr (4, [.ref q3, .int o1_clogs, .int o1_day])), (q3, .inl (cc 0, 50, .inl o1_cells))] H locs := hP
          have hP : PD (dC, dI) A s.heap [(q0, .inr (2, [.ref q1, .int height])), (q1, .inl (cc 3, 8, .inr (.inr (.inr (.inr fun j => some (qa (pp j))))))), ((qa 0), .inr (4, [.ref (qb 0), .int ((va_up CK 1 w8) 0), .int ((va_up CY 1 w9) 0)])), ((qb 0), .inl (cc 0, 50, .inl ((va_up CC 1 w7) 0))), ((qa 1), .inr (4, [.ref (qb 1), .int ((va_up CK 1 w8) 1), .int ((va_up CY 1 w9) 1)])), ((qb 1), .inl (cc 0, 50, .inl ((va_up CC 1 w7) 1))), ((qa 2), .inr (4, [.ref (qb 2), .int ((va_up CK 1 w8) 2), .int ((va_up CY 1 w9) 2)])), ((qb 2), .inl (cc 0, 50, .inl ((va_up CC 1 w7) 2))), ((qa 3), .inr (4, [.ref (qb 3), .int ((va_up CK 1 w8) 3), .int ((va_up CY 1 w9) 3)])), ((qb 3), .inl (cc 0, 50, .inl ((va_up CC 1 w7) 3))), ((qa 4), .inr (4, [.ref (qb 4), .int ((va_up CK 1 w8) 4), .int ((va_up CY 1 w9) 4)])), ((qb 4), .inl (cc 0, 50, .inl ((va_up CC 1 w7) 4))), ((qa 5), .inr (4, [.ref (qb 5), .int ((va_up CK 1 w8) 5), .int ((va_up CY 1 w9) 5)])), ((qb 5), .inl (cc 0, 50, .inl ((va_up CC 1 w7) 5))), ((qa 6), .inr (4, [.ref (qb 6), .int ((va_up CK 1 w8) 6), .int ((va_up CY 1 w9) 6)])), ((qb 6), .inl (cc 0, 50, .inl ((va_up CC 1 w7) 6))), ((qa 7), .inr (4, [.ref (qb 7), .int ((va_up CK 1 w8) 7), .int ((va_up CY 1 w9) 7)])), ((qb 7), .inl (cc 0, 50, .inl ((va_up CC 1 w7) 7))), (q2, .inr (4, [.ref q3, .int o1_clogs, .int o1_day])), (q3, .inl (cc 0, 50, .inl o1_cells))] H locs := hP
          refine lv_aload_n hx hb dX2_push_55 rfl (lv_at hl 0 rfl) ?_
          refine lv_dup hx hb dX2_push_56 rfl ?_
          refine g_get hC hP fg_X2_22 0 rfl rfl dX2_push_57 ?_
          refine lv_iconst (v := 1) hx hb dX2_push_60 (by decide) ?_
          refine lv_iadd hx hb dX2_push_61 ?_
          refine g_put hC hP fg_X2_22 0 rfl rfl rfl (Nat.le_of_ble_eq_true rfl) dX2_push_62 (fun H locs hP => ?_)
          have hP : PD (dC, dI) A s.heap [(q0, .inr (2, [.ref q1, .int (height + 1)])), (q1, .inl (cc 3, 8, .inr (.inr (.inr (.inr fun j => some (qa (pp j))))))), ((qa 0), .inr (4, [.ref (qb 0), .int ((va_up CK 1 w8) 0), .int ((va_up CY 1 w9) 0)])), ((qb 0), .inl (cc 0, 50, .inl ((va_up CC 1 w7) 0))), ((qa 1), .inr (4, [.ref (qb 1), .int ((va_up CK 1 w8) 1), .int ((va_up CY 1 w9) 1)])), ((qb 1), .inl (cc 0, 50, .inl ((va_up CC 1 w7) 1))), ((qa 2), .inr (4, [.ref (qb 2), .int ((va_up CK 1 w8) 2), .int ((va_up CY 1 w9) 2)])), ((qb 2), .inl (cc 0, 50, .inl ((va_up CC 1 w7) 2))), ((qa 3), .inr (4, [.ref (qb 3), .int ((va_up CK 1 w8) 3), .int ((va_up CY 1 w9) 3)])), ((qb 3), .inl (cc 0, 50, .inl ((va_up CC 1 w7) 3))), ((qa 4), .inr (4, [.ref (qb 4), .int ((va_up CK 1 w8) 4), .int ((va_up CY 1 w9) 4)])), ((qb 4), .inl (cc 0, 50, .inl ((va_up CC 1 w7) 4))), ((qa 5), .inr (4, [.ref (qb 5), .int ((va_up CK 1 w8) 5), .int ((va_up CY 1 w9) 5)])), ((qb 5), .inl (cc 0, 50, .inl ((va_up CC 1 w7) 5))), ((qa 6), .inr (4, [.ref (qb 6), .int ((va_up CK 1 w8) 6), .int ((va_up CY 1 w9) 6)])), ((qb 6), .inl (cc 0, 50, .inl ((va_up CC 1 w7) 6))), ((qa 7), .inr (4, [.ref (qb 7), .int ((va_up CK 1 w8) 7), .int ((va_up CY 1 w9) 7)])), ((qb 7), .inl (cc 0, 50, .inl ((va_up CC 1 w7) 7))), (q2, .inr (4, [.ref q3, .int o1_clogs, .int o1_day])), (q3, .inl (cc 0, 50, .inl o1_cells))] H locs := hP
          exact ret_v hC hr hlk hP dX2_push_65 (pp, (va_up CC 1 w7), (va_up CK 1 w8), (va_up CY 1 w9), (height + 1)) (Option.some.inj h) rfl
        · subst e
          obtain ⟨⟨w7, w8, w9⟩, hu, h⟩ := bnd_h h
          refine kc_v (kV hC (c_X4_copy l dC dI cc (qa 2) (qb 2) q2 q3 (CK 2) (CY 2) (CC 2) o1_clogs o1_day o1_cells H.size w7 w8 w9 hu) cv_X2_33 kw372 rfl rfl ⟨(Nat.le_of_ble_eq_true rfl), (Nat.le_of_ble_eq_true rfl)⟩ hP [6, 7, 18, 19] rfl rfl rfl (q0 := 6) rfl (As := [.ref q2]) (rest := []) rfl rfl hl.1 (Nat.le_of_ble_eq_true rfl) dX2_push_52 ⟨Nat.zero_le _, Nat.zero_le _⟩) hP hA [6, 7, 18, 19] rfl rfl (fun H locs hP => ?_)
          have hP : PD (dC, dI) A s.heap [(q0, .inr (2, [.ref q1, .int height])), (q1, .inl (cc 3, 8, .inr (.inr (.inr (.inr fun j => some (qa (pp j))))))), ((qa 0), .inr (4, [.ref (qb 0), .int (CK 0), .int (CY 0)])), ((qb 0), .inl (cc 0, 50, .inl (CC 0))), ((qa 1), .inr (4, [.ref (qb 1), .int (CK 1), .int (CY 1)])), ((qb 1), .inl (cc 0, 50, .inl (CC 1))), ((qa 2), .inr (4, [.ref (qb 2), .int w8, .int w9])), ((qb 2), .inl (cc 0, 50, .inl w7)), ((qa 3), .inr (4, [.ref (qb 3), .int (CK 3), .int (CY 3)])), ((qb 3), .inl (cc 0, 50, .inl (CC 3))), ((qa 4), .inr (4, [.ref (qb 4), .int (CK 4), .int (CY 4)])), ((qb 4), .inl (cc 0, 50, .inl (CC 4))), ((qa 5), .inr (4, [.ref (qb 5), .int (CK 5), .int (CY 5)])), ((qb 5), .inl (cc 0, 50, .inl (CC 5))), ((qa 6), .inr (4, [.ref (qb 6), .int (CK 6), .int (CY 6)])), ((qb 6), .inl (cc 0, 50, .inl (CC 6))), ((qa 7), .inr (4, [.ref (qb 7), .int (CK 7), .int (CY 7)])), ((qb 7), .inl (cc 0, 50, .inl (CC 7))), (q2, .inr (4, [.ref q3, .int o1_clogs, .int o1_day])), (q3, .inl (cc 0, 50, .inl o1_cells))] H locs := hP
          have hP : PD (dC, dI) A s.heap [(q0, .inr (2, [.ref q1, .int height])), (q1, .inl (cc 3, 8, .inr (.inr (.inr (.inr fun j => some (qa (pp j))))))), ((qa 0), .inr (4, [.ref (qb 0), .int ((va_up CK 2 w8) 0), .int ((va_up CY 2 w9) 0)])), ((qb 0), .inl (cc 0, 50, .inl ((va_up CC 2 w7) 0))), ((qa 1), .inr (4, [.ref (qb 1), .int ((va_up CK 2 w8) 1), .int ((va_up CY 2 w9) 1)])), ((qb 1), .inl (cc 0, 50, .inl ((va_up CC 2 w7) 1))), ((qa 2), .inr (4, [.ref (qb 2), .int ((va_up CK 2 w8) 2), .int ((va_up CY 2 w9) 2)])), ((qb 2), .inl (cc 0, 50, .inl ((va_up CC 2 w7) 2))), ((qa 3), .inr (4, [.ref (qb 3), .int ((va_up CK 2 w8) 3), .int ((va_up CY 2 w9) 3)])), ((qb 3), .inl (cc 0, 50, .inl ((va_up CC 2 w7) 3))), ((qa 4), .inr (4, [.ref (qb 4), .int ((va_up CK 2 w8) 4), .int ((va_up CY 2 w9) 4)])), ((qb 4), .inl (cc 0, 50, .inl ((va_up CC 2 w7) 4))), ((qa 5), .inr (4, [.ref (qb 5), .int ((va_up CK 2 w8) 5), .int ((va_up CY 2 w9) 5)])), ((qb 5), .inl (cc 0, 50, .inl ((va_up CC 2 w7) 5))), ((qa 6), .inr (4, [.ref (qb 6), .int ((va_up CK 2 w8) 6), .int ((va_up CY 2 w9) 6)])), ((qb 6), .inl (cc 0, 50, .inl ((va_up CC 2 w7) 6))), ((qa 7), .inr (4, [.ref (qb 7), .int ((va_up CK 2 w8) 7), .int ((va_up CY 2 w9) 7)])), ((qb 7), .inl (cc 0, 50, .inl ((va_up CC 2 w7) 7))), (q2, .inr (4, [.ref q3, .int o1_clogs, .int o1_day])), (q3, .inl (cc 0, 50, .inl o1_cells))] H locs := hP
          refine lv_aload_n hx hb dX2_push_55 rfl (lv_at hl 0 rfl) ?_
          refine lv_dup hx hb dX2_push_56 rfl ?_
          refine g_get hC hP fg_X2_22 0 rfl rfl dX2_push_57 ?_
          refine lv_iconst (v := 1) hx hb dX2_push_60 (by decide) ?_
          refine lv_iadd hx hb dX2_push_61 ?_
          refine g_put hC hP fg_X2_22 0 rfl rfl rfl (Nat.le_of_ble_eq_true rfl) dX2_push_62 (fun H locs hP => ?_)
          have hP : PD (dC, dI) A s.heap [(q0, .inr (2, [.ref q1, .int (height + 1)])), (q1, .inl (cc 3, 8, .inr (.inr (.inr (.inr fun j => some (qa (pp j))))))), ((qa 0), .inr (4, [.ref (qb 0), .int ((va_up CK 2 w8) 0), .int ((va_up CY 2 w9) 0)])), ((qb 0), .inl (cc 0, 50, .inl ((va_up CC 2 w7) 0))), ((qa 1), .inr (4, [.ref (qb 1), .int ((va_up CK 2 w8) 1), .int ((va_up CY 2 w9) 1)])), ((qb 1), .inl (cc 0, 50, .inl ((va_up CC 2 w7) 1))), ((qa 2), .inr (4, [.ref (qb 2), .int ((va_up CK 2 w8) 2), .int ((va_up CY 2 w9) 2)])), ((qb 2), .inl (cc 0, 50, .inl ((va_up CC 2 w7) 2))), ((qa 3), .inr (4, [.ref (qb 3), .int ((va_up CK 2 w8) 3), .int ((va_up CY 2 w9) 3)])), ((qb 3), .inl (cc 0, 50, .inl ((va_up CC 2 w7) 3))), ((qa 4), .inr (4, [.ref (qb 4), .int ((va_up CK 2 w8) 4), .int ((va_up CY 2 w9) 4)])), ((qb 4), .inl (cc 0, 50, .inl ((va_up CC 2 w7) 4))), ((qa 5), .inr (4, [.ref (qb 5), .int ((va_up CK 2 w8) 5), .int ((va_up CY 2 w9) 5)])), ((qb 5), .inl (cc 0, 50, .inl ((va_up CC 2 w7) 5))), ((qa 6), .inr (4, [.ref (qb 6), .int ((va_up CK 2 w8) 6), .int ((va_up CY 2 w9) 6)])), ((qb 6), .inl (cc 0, 50, .inl ((va_up CC 2 w7) 6))), ((qa 7), .inr (4, [.ref (qb 7), .int ((va_up CK 2 w8) 7), .int ((va_up CY 2 w9) 7)])), ((qb 7), .inl (cc 0, 50, .inl ((va_up CC 2 w7) 7))), (q2, .inr (4, [.ref q3, .int o1_clogs, .int o1_day])), (q3, .inl (cc 0, 50, .inl o1_cells))] H locs := hP
          exact ret_v hC hr hlk hP dX2_push_65 (pp, (va_up CC 2 w7), (va_up CK 2 w8), (va_up CY 2 w9), (height + 1)) (Option.some.inj h) rfl
        · subst e
          obtain ⟨⟨w7, w8, w9⟩, hu, h⟩ := bnd_h h
          refine kc_v (kV hC (c_X4_copy l dC dI cc (qa 3) (qb 3) q2 q3 (CK 3) (CY 3) (CC 3) o1_clogs o1_day o1_cells H.size w7 w8 w9 hu) cv_X2_33 kw372 rfl rfl ⟨(Nat.le_of_ble_eq_true rfl), (Nat.le_of_ble_eq_true rfl)⟩ hP [8, 9, 18, 19] rfl rfl rfl (q0 := 8) rfl (As := [.ref q2]) (rest := []) rfl rfl hl.1 (Nat.le_of_ble_eq_true rfl) dX2_push_52 ⟨Nat.zero_le _, Nat.zero_le _⟩) hP hA [8, 9, 18, 19] rfl rfl (fun H locs hP => ?_)
          have hP : PD (dC, dI) A s.heap [(q0, .inr (2, [.ref q1, .int height])), (q1, .inl (cc 3, 8, .inr (.inr (.inr (.inr fun j => some (qa (pp j))))))), ((qa 0), .inr (4, [.ref (qb 0), .int (CK 0), .int (CY 0)])), ((qb 0), .inl (cc 0, 50, .inl (CC 0))), ((qa 1), .inr (4, [.ref (qb 1), .int (CK 1), .int (CY 1)])), ((qb 1), .inl (cc 0, 50, .inl (CC 1))), ((qa 2), .inr (4, [.ref (qb 2), .int (CK 2), .int (CY 2)])), ((qb 2), .inl (cc 0, 50, .inl (CC 2))), ((qa 3), .inr (4, [.ref (qb 3), .int w8, .int w9])), ((qb 3), .inl (cc 0, 50, .inl w7)), ((qa 4), .inr (4, [.ref (qb 4), .int (CK 4), .int (CY 4)])), ((qb 4), .inl (cc 0, 50, .inl (CC 4))), ((qa 5), .inr (4, [.ref (qb 5), .int (CK 5), .int (CY 5)])), ((qb 5), .inl (cc 0, 50, .inl (CC 5))), ((qa 6), .inr (4, [.ref (qb 6), .int (CK 6), .int (CY 6)])), ((qb 6), .inl (cc 0, 50, .inl (CC 6))), ((qa 7), .inr (4, [.ref (qb 7), .int (CK 7), .int (CY 7)])), ((qb 7), .inl (cc 0, 50, .inl (CC 7))), (q2, .inr (4, [.ref q3, .int o1_clogs, .int o1_day])), (q3, .inl (cc 0, 50, .inl o1_cells))] H locs := hP
          have hP : PD (dC, dI) A s.heap [(q0, .inr (2, [.ref q1, .int height])), (q1, .inl (cc 3, 8, .inr (.inr (.inr (.inr fun j => some (qa (pp j))))))), ((qa 0), .inr (4, [.ref (qb 0), .int ((va_up CK 3 w8) 0), .int ((va_up CY 3 w9) 0)])), ((qb 0), .inl (cc 0, 50, .inl ((va_up CC 3 w7) 0))), ((qa 1), .inr (4, [.ref (qb 1), .int ((va_up CK 3 w8) 1), .int ((va_up CY 3 w9) 1)])), ((qb 1), .inl (cc 0, 50, .inl ((va_up CC 3 w7) 1))), ((qa 2), .inr (4, [.ref (qb 2), .int ((va_up CK 3 w8) 2), .int ((va_up CY 3 w9) 2)])), ((qb 2), .inl (cc 0, 50, .inl ((va_up CC 3 w7) 2))), ((qa 3), .inr (4, [.ref (qb 3), .int ((va_up CK 3 w8) 3), .int ((va_up CY 3 w9) 3)])), ((qb 3), .inl (cc 0, 50, .inl ((va_up CC 3 w7) 3))), ((qa 4), .inr (4, [.ref (qb 4), .int ((va_up CK 3 w8) 4), .int ((va_up CY 3 w9) 4)])), ((qb 4), .inl (cc 0, 50, .inl ((va_up CC 3 w7) 4))), ((qa 5), .inr (4, [.ref (qb 5), .int ((va_up CK 3 w8) 5), .int ((va_up CY 3 w9) 5)])), ((qb 5), .inl (cc 0, 50, .inl ((va_up CC 3 w7) 5))), ((qa 6), .inr (4, [.ref (qb 6), .int ((va_up CK 3 w8) 6), .int ((va_up CY 3 w9) 6)])), ((qb 6), .inl (cc 0, 50, .inl ((va_up CC 3 w7) 6))), ((qa 7), .inr (4, [.ref (qb 7), .int ((va_up CK 3 w8) 7), .int ((va_up CY 3 w9) 7)])), ((qb 7), .inl (cc 0, 50, .inl ((va_up CC 3 w7) 7))), (q2, .inr (4, [.ref q3, .int o1_clogs, .int o1_day])), (q3, .inl (cc 0, 50, .inl o1_cells))] H locs := hP
          refine lv_aload_n hx hb dX2_push_55 rfl (lv_at hl 0 rfl) ?_
          refine lv_dup hx hb dX2_push_56 rfl ?_
          refine g_get hC hP fg_X2_22 0 rfl rfl dX2_push_57 ?_
          refine lv_iconst (v := 1) hx hb dX2_push_60 (by decide) ?_
          refine lv_iadd hx hb dX2_push_61 ?_
          refine g_put hC hP fg_X2_22 0 rfl rfl rfl (Nat.le_of_ble_eq_true rfl) dX2_push_62 (fun H locs hP => ?_)
          have hP : PD (dC, dI) A s.heap [(q0, .inr (2, [.ref q1, .int (height + 1)])), (q1, .inl (cc 3, 8, .inr (.inr (.inr (.inr fun j => some (qa (pp j))))))), ((qa 0), .inr (4, [.ref (qb 0), .int ((va_up CK 3 w8) 0), .int ((va_up CY 3 w9) 0)])), ((qb 0), .inl (cc 0, 50, .inl ((va_up CC 3 w7) 0))), ((qa 1), .inr (4, [.ref (qb 1), .int ((va_up CK 3 w8) 1), .int ((va_up CY 3 w9) 1)])), ((qb 1), .inl (cc 0, 50, .inl ((va_up CC 3 w7) 1))), ((qa 2), .inr (4, [.ref (qb 2), .int ((va_up CK 3 w8) 2), .int ((va_up CY 3 w9) 2)])), ((qb 2), .inl (cc 0, 50, .inl ((va_up CC 3 w7) 2))), ((qa 3), .inr (4, [.ref (qb 3), .int ((va_up CK 3 w8) 3), .int ((va_up CY 3 w9) 3)])), ((qb 3), .inl (cc 0, 50, .inl ((va_up CC 3 w7) 3))), ((qa 4), .inr (4, [.ref (qb 4), .int ((va_up CK 3 w8) 4), .int ((va_up CY 3 w9) 4)])), ((qb 4), .inl (cc 0, 50, .inl ((va_up CC 3 w7) 4))), ((qa 5), .inr (4, [.ref (qb 5), .int ((va_up CK 3 w8) 5), .int ((va_up CY 3 w9) 5)])), ((qb 5), .inl (cc 0, 50, .inl ((va_up CC 3 w7) 5))), ((qa 6), .inr (4, [.ref (qb 6), .int ((va_up CK 3 w8) 6), .int ((va_up CY 3 w9) 6)])), ((qb 6), .inl (cc 0, 50, .inl ((va_up CC 3 w7) 6))), ((qa 7), .inr (4, [.ref (qb 7), .int ((va_up CK 3 w8) 7), .int ((va_up CY 3 w9) 7)])), ((qb 7), .inl (cc 0, 50, .inl ((va_up CC 3 w7) 7))), (q2, .inr (4, [.ref q3, .int o1_clogs, .int o1_day])), (q3, .inl (cc 0, 50, .inl o1_cells))] H locs := hP
          exact ret_v hC hr hlk hP dX2_push_65 (pp, (va_up CC 3 w7), (va_up CK 3 w8), (va_up CY 3 w9), (height + 1)) (Option.some.inj h) rfl
        · subst e
          obtain ⟨⟨w7, w8, w9⟩, hu, h⟩ := bnd_h h
          refine kc_v (kV hC (c_X4_copy l dC dI cc (qa 4) (qb 4) q2 q3 (CK 4) (CY 4) (CC 4) o1_clogs o1_day o1_cells H.size w7 w8 w9 hu) cv_X2_33 kw372 rfl rfl ⟨(Nat.le_of_ble_eq_true rfl), (Nat.le_of_ble_eq_true rfl)⟩ hP [10, 11, 18, 19] rfl rfl rfl (q0 := 10) rfl (As := [.ref q2]) (rest := []) rfl rfl hl.1 (Nat.le_of_ble_eq_true rfl) dX2_push_52 ⟨Nat.zero_le _, Nat.zero_le _⟩) hP hA [10, 11, 18, 19] rfl rfl (fun H locs hP => ?_)
          have hP : PD (dC, dI) A s.heap [(q0, .inr (2, [.ref q1, .int height])), (q1, .inl (cc 3, 8, .inr (.inr (.inr (.inr fun j => some (qa (pp j))))))), ((qa 0), .inr (4, [.ref (qb 0), .int (CK 0), .int (CY 0)])), ((qb 0), .inl (cc 0, 50, .inl (CC 0))), ((qa 1), .inr (4, [.ref (qb 1), .int (CK 1), .int (CY 1)])), ((qb 1), .inl (cc 0, 50, .inl (CC 1))), ((qa 2), .inr (4, [.ref (qb 2), .int (CK 2), .int (CY 2)])), ((qb 2), .inl (cc 0, 50, .inl (CC 2))), ((qa 3), .inr (4, [.ref (qb 3), .int (CK 3), .int (CY 3)])), ((qb 3), .inl (cc 0, 50, .inl (CC 3))), ((qa 4), .inr (4, [.ref (qb 4), .int w8, .int w9])), ((qb 4), .inl (cc 0, 50, .inl w7)), ((qa 5), .inr (4, [.ref (qb 5), .int (CK 5), .int (CY 5)])), ((qb 5), .inl (cc 0, 50, .inl (CC 5))), ((qa 6), .inr (4, [.ref (qb 6), .int (CK 6), .int (CY 6)])), ((qb 6), .inl (cc 0, 50, .inl (CC 6))), ((qa 7), .inr (4, [.ref (qb 7), .int (CK 7), .int (CY 7)])), ((qb 7), .inl (cc 0, 50, .inl (CC 7))), (q2, .inr (4, [.ref q3, .int o1_clogs, .int o1_day])), (q3, .inl (cc 0, 50, .inl o1_cells))] H locs := hP
          have hP : PD (dC, dI) A s.heap [(q0, .inr (2, [.ref q1, .int height])), (q1, .inl (cc 3, 8, .inr (.inr (.inr (.inr fun j => some (qa (pp j))))))), ((qa 0), .inr (4, [.ref (qb 0), .int ((va_up CK 4 w8) 0), .int ((va_up CY 4 w9) 0)])), ((qb 0), .inl (cc 0, 50, .inl ((va_up CC 4 w7) 0))), ((qa 1), .inr (4, [.ref (qb 1), .int ((va_up CK 4 w8) 1), .int ((va_up CY 4 w9) 1)])), ((qb 1), .inl (cc 0, 50, .inl ((va_up CC 4 w7) 1))), ((qa 2), .inr (4, [.ref (qb 2), .int ((va_up CK 4 w8) 2), .int ((va_up CY 4 w9) 2)])), ((qb 2), .inl (cc 0, 50, .inl ((va_up CC 4 w7) 2))), ((qa 3), .inr (4, [.ref (qb 3), .int ((va_up CK 4 w8) 3), .int ((va_up CY 4 w9) 3)])), ((qb 3), .inl (cc 0, 50, .inl ((va_up CC 4 w7) 3))), ((qa 4), .inr (4, [.ref (qb 4), .int ((va_up CK 4 w8) 4), .int ((va_up CY 4 w9) 4)])), ((qb 4), .inl (cc 0, 50, .inl ((va_up CC 4 w7) 4))), ((qa 5), .inr (4, [.ref (qb 5), .int ((va_up CK 4 w8) 5), .int ((va_up CY 4 w9) 5)])), ((qb 5), .inl (cc 0, 50, .inl ((va_up CC 4 w7) 5))), ((qa 6), .inr (4, [.ref (qb 6), .int ((va_up CK 4 w8) 6), .int ((va_up CY 4 w9) 6)])), ((qb 6), .inl (cc 0, 50, .inl ((va_up CC 4 w7) 6))), ((qa 7), .inr (4, [.ref (qb 7), .int ((va_up CK 4 w8) 7), .int ((va_up CY 4 w9) 7)])), ((qb 7), .inl (cc 0, 50, .inl ((va_up CC 4 w7) 7))), (q2, .inr (4, [.ref q3, .int o1_clogs, .int o1_day])), (q3, .inl (cc 0, 50, .inl o1_cells))] H locs := hP
          refine lv_aload_n hx hb dX2_push_55 rfl (lv_at hl 0 rfl) ?_
          refine lv_dup hx hb dX2_push_56 rfl ?_
          refine g_get hC hP fg_X2_22 0 rfl rfl dX2_push_57 ?_
          refine lv_iconst (v := 1) hx hb dX2_push_60 (by decide) ?_
          refine lv_iadd hx hb dX2_push_61 ?_
          refine g_put hC hP fg_X2_22 0 rfl rfl rfl (Nat.le_of_ble_eq_true rfl) dX2_push_62 (fun H locs hP => ?_)
          have hP : PD (dC, dI) A s.heap [(q0, .inr (2, [.ref q1, .int (height + 1)])), (q1, .inl (cc 3, 8, .inr (.inr (.inr (.inr fun j => some (qa (pp j))))))), ((qa 0), .inr (4, [.ref (qb 0), .int ((va_up CK 4 w8) 0), .int ((va_up CY 4 w9) 0)])), ((qb 0), .inl (cc 0, 50, .inl ((va_up CC 4 w7) 0))), ((qa 1), .inr (4, [.ref (qb 1), .int ((va_up CK 4 w8) 1), .int ((va_up CY 4 w9) 1)])), ((qb 1), .inl (cc 0, 50, .inl ((va_up CC 4 w7) 1))), ((qa 2), .inr (4, [.ref (qb 2), .int ((va_up CK 4 w8) 2), .int ((va_up CY 4 w9) 2)])), ((qb 2), .inl (cc 0, 50, .inl ((va_up CC 4 w7) 2))), ((qa 3), .inr (4, [.ref (qb 3), .int ((va_up CK 4 w8) 3), .int ((va_up CY 4 w9) 3)])), ((qb 3), .inl (cc 0, 50, .inl ((va_up CC 4 w7) 3))), ((qa 4), .inr (4, [.ref (qb 4), .int ((va_up CK 4 w8) 4), .int ((va_up CY 4 w9) 4)])), ((qb 4), .inl (cc 0, 50, .inl ((va_up CC 4 w7) 4))), ((qa 5), .inr (4, [.ref (qb 5), .int ((va_up CK 4 w8) 5), .int ((va_up CY 4 w9) 5)])), ((qb 5), .inl (cc 0, 50, .inl ((va_up CC 4 w7) 5))), ((qa 6), .inr (4, [.ref (qb 6), .int ((va_up CK 4 w8) 6), .int ((va_up CY 4 w9) 6)])), ((qb 6), .inl (cc 0, 50, .inl ((va_up CC 4 w7) 6))), ((qa 7), .inr (4, [.ref (qb 7), .int ((va_up CK 4 w8) 7), .int ((va_up CY 4 w9) 7)])), ((qb 7), .inl (cc 0, 50, .inl ((va_up CC 4 w7) 7))), (q2, .inr (4, [.ref q3, .int o1_clogs, .int o1_day])), (q3, .inl (cc 0, 50, .inl o1_cells))] H locs := hP
          exact ret_v hC hr hlk hP dX2_push_65 (pp, (va_up CC 4 w7), (va_up CK 4 w8), (va_up CY 4 w9), (height + 1)) (Option.some.inj h) rfl
        · subst e
          obtain ⟨⟨w7, w8, w9⟩, hu, h⟩ := bnd_h h
          refine kc_v (kV hC (c_X4_copy l dC dI cc (qa 5) (qb 5) q2 q3 (CK 5) (CY 5) (CC 5) o1_clogs o1_day o1_cells H.size w7 w8 w9 hu) cv_X2_33 kw372 rfl rfl ⟨(Nat.le_of_ble_eq_true rfl), (Nat.le_of_ble_eq_true rfl)⟩ hP [12, 13, 18, 19] rfl rfl rfl (q0 := 12) rfl (As := [.ref q2]) (rest := []) rfl rfl hl.1 (Nat.le_of_ble_eq_true rfl) dX2_push_52 ⟨Nat.zero_le _, Nat.zero_le _⟩) hP hA [12, 13, 18, 19] rfl rfl (fun H locs hP => ?_)
          have hP : PD (dC, dI) A s.heap [(q0, .inr (2, [.ref q1, .int height])), (q1, .inl (cc 3, 8, .inr (.inr (.inr (.inr fun j => some (qa (pp j))))))), ((qa 0), .inr (4, [.ref (qb 0), .int (CK 0), .int (CY 0)])), ((qb 0), .inl (cc 0, 50, .inl (CC 0))), ((qa 1), .inr (4, [.ref (qb 1), .int (CK 1), .int (CY 1)])), ((qb 1), .inl (cc 0, 50, .inl (CC 1))), ((qa 2), .inr (4, [.ref (qb 2), .int (CK 2), .int (CY 2)])), ((qb 2), .inl (cc 0, 50, .inl (CC 2))), ((qa 3), .inr (4, [.ref (qb 3), .int (CK 3), .int (CY 3)])), ((qb 3), .inl (cc 0, 50, .inl (CC 3))), ((qa 4), .inr (4, [.ref (qb 4), .int (CK 4), .int (CY 4)])), ((qb 4), .inl (cc 0, 50, .inl (CC 4))), ((qa 5), .inr (4, [.ref (qb 5), .int w8, .int w9])), ((qb 5), .inl (cc 0, 50, .inl w7)), ((qa 6), .inr (4, [.ref (qb 6), .int (CK 6), .int (CY 6)])), ((qb 6), .inl (cc 0, 50, .inl (CC 6))), ((qa 7), .inr (4, [.ref (qb 7), .int (CK 7), .int (CY 7)])), ((qb 7), .inl (cc 0, 50, .inl (CC 7))), (q2, .inr (4, [.ref q3, .int o1_clogs, .int o1_day])), (q3, .inl (cc 0, 50, .inl o1_cells))] H locs := hP
          have hP : PD (dC, dI) A s.heap [(q0, .inr (2, [.ref q1, .int height])), (q1, .inl (cc 3, 8, .inr (.inr (.inr (.inr fun j => some (qa (pp j))))))), ((qa 0), .inr (4, [.ref (qb 0), .int ((va_up CK 5 w8) 0), .int ((va_up CY 5 w9) 0)])), ((qb 0), .inl (cc 0, 50, .inl ((va_up CC 5 w7) 0))), ((qa 1), .inr (4, [.ref (qb 1), .int ((va_up CK 5 w8) 1), .int ((va_up CY 5 w9) 1)])), ((qb 1), .inl (cc 0, 50, .inl ((va_up CC 5 w7) 1))), ((qa 2), .inr (4, [.ref (qb 2), .int ((va_up CK 5 w8) 2), .int ((va_up CY 5 w9) 2)])), ((qb 2), .inl (cc 0, 50, .inl ((va_up CC 5 w7) 2))), ((qa 3), .inr (4, [.ref (qb 3), .int ((va_up CK 5 w8) 3), .int ((va_up CY 5 w9) 3)])), ((qb 3), .inl (cc 0, 50, .inl ((va_up CC 5 w7) 3))), ((qa 4), .inr (4, [.ref (qb 4), .int ((va_up CK 5 w8) 4), .int ((va_up CY 5 w9) 4)])), ((qb 4), .inl (cc 0, 50, .inl ((va_up CC 5 w7) 4))), ((qa 5), .inr (4, [.ref (qb 5), .int ((va_up CK 5 w8) 5), .int ((va_up CY 5 w9) 5)])), ((qb 5), .inl (cc 0, 50, .inl ((va_up CC 5 w7) 5))), ((qa 6), .inr (4, [.ref (qb 6), .int ((va_up CK 5 w8) 6), .int ((va_up CY 5 w9) 6)])), ((qb 6), .inl (cc 0, 50, .inl ((va_up CC 5 w7) 6))), ((qa 7), .inr (4, [.ref (qb 7), .int ((va_up CK 5 w8) 7), .int ((va_up CY 5 w9) 7)])), ((qb 7), .inl (cc 0, 50, .inl ((va_up CC 5 w7) 7))), (q2, .inr (4, [.ref q3, .int o1_clogs, .int o1_day])), (q3, .inl (cc 0, 50, .inl o1_cells))] H locs := hP
          refine lv_aload_n hx hb dX2_push_55 rfl (lv_at hl 0 rfl) ?_
          refine lv_dup hx hb dX2_push_56 rfl ?_
          refine g_get hC hP fg_X2_22 0 rfl rfl dX2_push_57 ?_
          refine lv_iconst (v := 1) hx hb dX2_push_60 (by decide) ?_
          refine lv_iadd hx hb dX2_push_61 ?_
          refine g_put hC hP fg_X2_22 0 rfl rfl rfl (Nat.le_of_ble_eq_true rfl) dX2_push_62 (fun H locs hP => ?_)
          have hP : PD (dC, dI) A s.heap [(q0, .inr (2, [.ref q1, .int (height + 1)])), (q1, .inl (cc 3, 8, .inr (.inr (.inr (.inr fun j => some (qa (pp j))))))), ((qa 0), .inr (4, [.ref (qb 0), .int ((va_up CK 5 w8) 0), .int ((va_up CY 5 w9) 0)])), ((qb 0), .inl (cc 0, 50, .inl ((va_up CC 5 w7) 0))), ((qa 1), .inr (4, [.ref (qb 1), .int ((va_up CK 5 w8) 1), .int ((va_up CY 5 w9) 1)])), ((qb 1), .inl (cc 0, 50, .inl ((va_up CC 5 w7) 1))), ((qa 2), .inr (4, [.ref (qb 2), .int ((va_up CK 5 w8) 2), .int ((va_up CY 5 w9) 2)])), ((qb 2), .inl (cc 0, 50, .inl ((va_up CC 5 w7) 2))), ((qa 3), .inr (4, [.ref (qb 3), .int ((va_up CK 5 w8) 3), .int ((va_up CY 5 w9) 3)])), ((qb 3), .inl (cc 0, 50, .inl ((va_up CC 5 w7) 3))), ((qa 4), .inr (4, [.ref (qb 4), .int ((va_up CK 5 w8) 4), .int ((va_up CY 5 w9) 4)])), ((qb 4), .inl (cc 0, 50, .inl ((va_up CC 5 w7) 4))), ((qa 5), .inr (4, [.ref (qb 5), .int ((va_up CK 5 w8) 5), .int ((va_up CY 5 w9) 5)])), ((qb 5), .inl (cc 0, 50, .inl ((va_up CC 5 w7) 5))), ((qa 6), .inr (4, [.ref (qb 6), .int ((va_up CK 5 w8) 6), .int ((va_up CY 5 w9) 6)])), ((qb 6), .inl (cc 0, 50, .inl ((va_up CC 5 w7) 6))), ((qa 7), .inr (4, [.ref (qb 7), .int ((va_up CK 5 w8) 7), .int ((va_up CY 5 w9) 7)])), ((qb 7), .inl (cc 0, 50, .inl ((va_up CC 5 w7) 7))), (q2, .inr (4, [.ref q3, .int o1_clogs, .int o1_day])), (q3, .inl (cc 0, 50, .inl o1_cells))] H locs := hP
          exact ret_v hC hr hlk hP dX2_push_65 (pp, (va_up CC 5 w7), (va_up CK 5 w8), (va_up CY 5 w9), (height + 1)) (Option.some.inj h) rfl
        · subst e
          obtain ⟨⟨w7, w8, w9⟩, hu, h⟩ := bnd_h h
          refine kc_v (kV hC (c_X4_copy l dC dI cc (qa 6) (qb 6) q2 q3 (CK 6) (CY 6) (CC 6) o1_clogs o1_day o1_cells H.size w7 w8 w9 hu) cv_X2_33 kw372 rfl rfl ⟨(Nat.le_of_ble_eq_true rfl), (Nat.le_of_ble_eq_true rfl)⟩ hP [14, 15, 18, 19] rfl rfl rfl (q0 := 14) rfl (As := [.ref q2]) (rest := []) rfl rfl hl.1 (Nat.le_of_ble_eq_true rfl) dX2_push_52 ⟨Nat.zero_le _, Nat.zero_le _⟩) hP hA [14, 15, 18, 19] rfl rfl (fun H locs hP => ?_)
          have hP : PD (dC, dI) A s.heap [(q0, .inr (2, [.ref q1, .int height])), (q1, .inl (cc 3, 8, .inr (.inr (.inr (.inr fun j => some (qa (pp j))))))), ((qa 0), .inr (4, [.ref (qb 0), .int (CK 0), .int (CY 0)])), ((qb 0), .inl (cc 0, 50, .inl (CC 0))), ((qa 1), .inr (4, [.ref (qb 1), .int (CK 1), .int (CY 1)])), ((qb 1), .inl (cc 0, 50, .inl (CC 1))), ((qa 2), .inr (4, [.ref (qb 2), .int (CK 2), .int (CY 2)])), ((qb 2), .inl (cc 0, 50, .inl (CC 2))), ((qa 3), .inr (4, [.ref (qb 3), .int (CK 3), .int (CY 3)])), ((qb 3), .inl (cc 0, 50, .inl (CC 3))), ((qa 4), .inr (4, [.ref (qb 4), .int (CK 4), .int (CY 4)])), ((qb 4), .inl (cc 0, 50, .inl (CC 4))), ((qa 5), .inr (4, [.ref (qb 5), .int (CK 5), .int (CY 5)])), ((qb 5), .inl (cc 0, 50, .inl (CC 5))), ((qa 6), .inr (4, [.ref (qb 6), .int w8, .int w9])), ((qb 6), .inl (cc 0, 50, .inl w7)), ((qa 7), .inr (4, [.ref (qb 7), .int (CK 7), .int (CY 7)])), ((qb 7), .inl (cc 0, 50, .inl (CC 7))), (q2, .inr (4, [.ref q3, .int o1_clogs, .int o1_day])), (q3, .inl (cc 0, 50, .inl o1_cells))] H locs := hP
          have hP : PD (dC, dI) A s.heap [(q0, .inr (2, [.ref q1, .int height])), (q1, .inl (cc 3, 8, .inr (.inr (.inr (.inr fun j => some (qa (pp j))))))), ((qa 0), .inr (4, [.ref (qb 0), .int ((va_up CK 6 w8) 0), .int ((va_up CY 6 w9) 0)])), ((qb 0), .inl (cc 0, 50, .inl ((va_up CC 6 w7) 0))), ((qa 1), .inr (4, [.ref (qb 1), .int ((va_up CK 6 w8) 1), .int ((va_up CY 6 w9) 1)])), ((qb 1), .inl (cc 0, 50, .inl ((va_up CC 6 w7) 1))), ((qa 2), .inr (4, [.ref (qb 2), .int ((va_up CK 6 w8) 2), .int ((va_up CY 6 w9) 2)])), ((qb 2), .inl (cc 0, 50, .inl ((va_up CC 6 w7) 2))), ((qa 3), .inr (4, [.ref (qb 3), .int ((va_up CK 6 w8) 3), .int ((va_up CY 6 w9) 3)])), ((qb 3), .inl (cc 0, 50, .inl ((va_up CC 6 w7) 3))), ((qa 4), .inr (4, [.ref (qb 4), .int ((va_up CK 6 w8) 4), .int ((va_up CY 6 w9) 4)])), ((qb 4), .inl (cc 0, 50, .inl ((va_up CC 6 w7) 4))), ((qa 5), .inr (4, [.ref (qb 5), .int ((va_up CK 6 w8) 5), .int ((va_up CY 6 w9) 5)])), ((qb 5), .inl (cc 0, 50, .inl ((va_up CC 6 w7) 5))), ((qa 6), .inr (4, [.ref (qb 6), .int ((va_up CK 6 w8) 6), .int ((va_up CY 6 w9) 6)])), ((qb 6), .inl (cc 0, 50, .inl ((va_up CC 6 w7) 6))), ((qa 7), .inr (4, [.ref (qb 7), .int ((va_up CK 6 w8) 7), .int ((va_up CY 6 w9) 7)])), ((qb 7), .inl (cc 0, 50, .inl ((va_up CC 6 w7) 7))), (q2, .inr (4, [.ref q3, .int o1_clogs, .int o1_day])), (q3, .inl (cc 0, 50, .inl o1_cells))] H locs := hP
          refine lv_aload_n hx hb dX2_push_55 rfl (lv_at hl 0 rfl) ?_
          refine lv_dup hx hb dX2_push_56 rfl ?_
          refine g_get hC hP fg_X2_22 0 rfl rfl dX2_push_57 ?_
          refine lv_iconst (v := 1) hx hb dX2_push_60 (by decide) ?_
          refine lv_iadd hx hb dX2_push_61 ?_
          refine g_put hC hP fg_X2_22 0 rfl rfl rfl (Nat.le_of_ble_eq_true rfl) dX2_push_62 (fun H locs hP => ?_)
          have hP : PD (dC, dI) A s.heap [(q0, .inr (2, [.ref q1, .int (height + 1)])), (q1, .inl (cc 3, 8, .inr (.inr (.inr (.inr fun j => some (qa (pp j))))))), ((qa 0), .inr (4, [.ref (qb 0), .int ((va_up CK 6 w8) 0), .int ((va_up CY 6 w9) 0)])), ((qb 0), .inl (cc 0, 50, .inl ((va_up CC 6 w7) 0))), ((qa 1), .inr (4, [.ref (qb 1), .int ((va_up CK 6 w8) 1), .int ((va_up CY 6 w9) 1)])), ((qb 1), .inl (cc 0, 50, .inl ((va_up CC 6 w7) 1))), ((qa 2), .inr (4, [.ref (qb 2), .int ((va_up CK 6 w8) 2), .int ((va_up CY 6 w9) 2)])), ((qb 2), .inl (cc 0, 50, .inl ((va_up CC 6 w7) 2))), ((qa 3), .inr (4, [.ref (qb 3), .int ((va_up CK 6 w8) 3), .int ((va_up CY 6 w9) 3)])), ((qb 3), .inl (cc 0, 50, .inl ((va_up CC 6 w7) 3))), ((qa 4), .inr (4, [.ref (qb 4), .int ((va_up CK 6 w8) 4), .int ((va_up CY 6 w9) 4)])), ((qb 4), .inl (cc 0, 50, .inl ((va_up CC 6 w7) 4))), ((qa 5), .inr (4, [.ref (qb 5), .int ((va_up CK 6 w8) 5), .int ((va_up CY 6 w9) 5)])), ((qb 5), .inl (cc 0, 50, .inl ((va_up CC 6 w7) 5))), ((qa 6), .inr (4, [.ref (qb 6), .int ((va_up CK 6 w8) 6), .int ((va_up CY 6 w9) 6)])), ((qb 6), .inl (cc 0, 50, .inl ((va_up CC 6 w7) 6))), ((qa 7), .inr (4, [.ref (qb 7), .int ((va_up CK 6 w8) 7), .int ((va_up CY 6 w9) 7)])), ((qb 7), .inl (cc 0, 50, .inl ((va_up CC 6 w7) 7))), (q2, .inr (4, [.ref q3, .int o1_clogs, .int o1_day])), (q3, .inl (cc 0, 50, .inl o1_cells))] H locs := hP
          exact ret_v hC hr hlk hP dX2_push_65 (pp, (va_up CC 6 w7), (va_up CK 6 w8), (va_up CY 6 w9), (height + 1)) (Option.some.inj h) rfl
        · subst e
          obtain ⟨⟨w7, w8, w9⟩, hu, h⟩ := bnd_h h
          refine kc_v (kV hC (c_X4_copy l dC dI cc (qa 7) (qb 7) q2 q3 (CK 7) (CY 7) (CC 7) o1_clogs o1_day o1_cells H.size w7 w8 w9 hu) cv_X2_33 kw372 rfl rfl ⟨(Nat.le_of_ble_eq_true rfl), (Nat.le_of_ble_eq_true rfl)⟩ hP [16, 17, 18, 19] rfl rfl rfl (q0 := 16) rfl (As := [.ref q2]) (rest := []) rfl rfl hl.1 (Nat.le_of_ble_eq_true rfl) dX2_push_52 ⟨Nat.zero_le _, Nat.zero_le _⟩) hP hA [16, 17, 18, 19] rfl rfl (fun H locs hP => ?_)
          have hP : PD (dC, dI) A s.heap [(q0, .inr (2, [.ref q1, .int height])), (q1, .inl (cc 3, 8, .inr (.inr (.inr (.inr fun j => some (qa (pp j))))))), ((qa 0), .inr (4, [.ref (qb 0), .int (CK 0), .int (CY 0)])), ((qb 0), .inl (cc 0, 50, .inl (CC 0))), ((qa 1), .inr (4, [.ref (qb 1), .int (CK 1), .int (CY 1)])), ((qb 1), .inl (cc 0, 50, .inl (CC 1))), ((qa 2), .inr (4, [.ref (qb 2), .int (CK 2), .int (CY 2)])), ((qb 2), .inl (cc 0, 50, .inl (CC 2))), ((qa 3), .inr (4, [.ref (qb 3), .int (CK 3), .int (CY 3)])), ((qb 3), .inl (cc 0, 50, .inl (CC 3))), ((qa 4), .inr (4, [.ref (qb 4), .int (CK 4), .int (CY 4)])), ((qb 4), .inl (cc 0, 50, .inl (CC 4))), ((qa 5), .inr (4, [.ref (qb 5), .int (CK 5), .int (CY 5)])), ((qb 5), .inl (cc 0, 50, .inl (CC 5))), ((qa 6), .inr (4, [.ref (qb 6), .int (CK 6), .int (CY 6)])), ((qb 6), .inl (cc 0, 50, .inl (CC 6))), ((qa 7), .inr (4, [.ref (qb 7), .int w8, .int w9])), ((qb 7), .inl (cc 0, 50, .inl w7)), (q2, .inr (4, [.ref q3, .int o1_clogs, .int o1_day])), (q3, .inl (cc 0, 50, .inl o1_cells))] H locs := hP
          have hP : PD (dC, dI) A s.heap [(q0, .inr (2, [.ref q1, .int height])), (q1, .inl (cc 3, 8, .inr (.inr (.inr (.inr fun j => some (qa (pp j))))))), ((qa 0), .inr (4, [.ref (qb 0), .int ((va_up CK 7 w8) 0), .int ((va_up CY 7 w9) 0)])), ((qb 0), .inl (cc 0, 50, .inl ((va_up CC 7 w7) 0))), ((qa 1), .inr (4, [.ref (qb 1), .int ((va_up CK 7 w8) 1), .int ((va_up CY 7 w9) 1)])), ((qb 1), .inl (cc 0, 50, .inl ((va_up CC 7 w7) 1))), ((qa 2), .inr (4, [.ref (qb 2), .int ((va_up CK 7 w8) 2), .int ((va_up CY 7 w9) 2)])), ((qb 2), .inl (cc 0, 50, .inl ((va_up CC 7 w7) 2))), ((qa 3), .inr (4, [.ref (qb 3), .int ((va_up CK 7 w8) 3), .int ((va_up CY 7 w9) 3)])), ((qb 3), .inl (cc 0, 50, .inl ((va_up CC 7 w7) 3))), ((qa 4), .inr (4, [.ref (qb 4), .int ((va_up CK 7 w8) 4), .int ((va_up CY 7 w9) 4)])), ((qb 4), .inl (cc 0, 50, .inl ((va_up CC 7 w7) 4))), ((qa 5), .inr (4, [.ref (qb 5), .int ((va_up CK 7 w8) 5), .int ((va_up CY 7 w9) 5)])), ((qb 5), .inl (cc 0, 50, .inl ((va_up CC 7 w7) 5))), ((qa 6), .inr (4, [.ref (qb 6), .int ((va_up CK 7 w8) 6), .int ((va_up CY 7 w9) 6)])), ((qb 6), .inl (cc 0, 50, .inl ((va_up CC 7 w7) 6))), ((qa 7), .inr (4, [.ref (qb 7), .int ((va_up CK 7 w8) 7), .int ((va_up CY 7 w9) 7)])), ((qb 7), .inl (cc 0, 50, .inl ((va_up CC 7 w7) 7))), (q2, .inr (4, [.ref q3, .int o1_clogs, .int o1_day])), (q3, .inl (cc 0, 50, .inl o1_cells))] H locs := hP
          refine lv_aload_n hx hb dX2_push_55 rfl (lv_at hl 0 rfl) ?_
          refine lv_dup hx hb dX2_push_56 rfl ?_
          refine g_get hC hP fg_X2_22 0 rfl rfl dX2_push_57 ?_
          refine lv_iconst (v := 1) hx hb dX2_push_60 (by decide) ?_
          refine lv_iadd hx hb dX2_push_61 ?_
          refine g_put hC hP fg_X2_22 0 rfl rfl rfl (Nat.le_of_ble_eq_true rfl) dX2_push_62 (fun H locs hP => ?_)
          have hP : PD (dC, dI) A s.heap [(q0, .inr (2, [.ref q1, .int (height + 1)])), (q1, .inl (cc 3, 8, .inr (.inr (.inr (.inr fun j => some (qa (pp j))))))), ((qa 0), .inr (4, [.ref (qb 0), .int ((va_up CK 7 w8) 0), .int ((va_up CY 7 w9) 0)])), ((qb 0), .inl (cc 0, 50, .inl ((va_up CC 7 w7) 0))), ((qa 1), .inr (4, [.ref (qb 1), .int ((va_up CK 7 w8) 1), .int ((va_up CY 7 w9) 1)])), ((qb 1), .inl (cc 0, 50, .inl ((va_up CC 7 w7) 1))), ((qa 2), .inr (4, [.ref (qb 2), .int ((va_up CK 7 w8) 2), .int ((va_up CY 7 w9) 2)])), ((qb 2), .inl (cc 0, 50, .inl ((va_up CC 7 w7) 2))), ((qa 3), .inr (4, [.ref (qb 3), .int ((va_up CK 7 w8) 3), .int ((va_up CY 7 w9) 3)])), ((qb 3), .inl (cc 0, 50, .inl ((va_up CC 7 w7) 3))), ((qa 4), .inr (4, [.ref (qb 4), .int ((va_up CK 7 w8) 4), .int ((va_up CY 7 w9) 4)])), ((qb 4), .inl (cc 0, 50, .inl ((va_up CC 7 w7) 4))), ((qa 5), .inr (4, [.ref (qb 5), .int ((va_up CK 7 w8) 5), .int ((va_up CY 7 w9) 5)])), ((qb 5), .inl (cc 0, 50, .inl ((va_up CC 7 w7) 5))), ((qa 6), .inr (4, [.ref (qb 6), .int ((va_up CK 7 w8) 6), .int ((va_up CY 7 w9) 6)])), ((qb 6), .inl (cc 0, 50, .inl ((va_up CC 7 w7) 6))), ((qa 7), .inr (4, [.ref (qb 7), .int ((va_up CK 7 w8) 7), .int ((va_up CY 7 w9) 7)])), ((qb 7), .inl (cc 0, 50, .inl ((va_up CC 7 w7) 7))), (q2, .inr (4, [.ref q3, .int o1_clogs, .int o1_day])), (q3, .inl (cc 0, 50, .inl o1_cells))] H locs := hP
          exact ret_v hC hr hlk hP dX2_push_65 (pp, (va_up CC 7 w7), (va_up CK 7 w8), (va_up CY 7 w9), (height + 1)) (Option.some.inj h) rfl
  · have h := if_f c2 h
    refine lv_aload_n hx hb dX2_push_7 rfl (lv_at hl 0 rfl) ?_
    obtain ⟨⟨w10, w11⟩, hu, h⟩ := bnd_h h
    refine kc_v (kV hC (c_X2_dropLowest_8 l dC dI cc q0 q1 qa qb height pp CC CK CY H.size w10 w11 hu) cv_X2_30 kw499 rfl rfl ⟨(Nat.le_of_ble_eq_true rfl), (Nat.le_of_ble_eq_true rfl)⟩ hP [0, 1, 2, 3, 4, 5, 6, 7, 8, 9, 10, 11, 12, 13, 14, 15, 16, 17] rfl rfl rfl (q0 := 0) rfl (As := []) (rest := []) rfl rfl hl.1 (Nat.le_of_ble_eq_true rfl) dX2_push_8 ⟨Nat.zero_le _, Nat.zero_le _⟩) hP hA [0, 1, 2, 3, 4, 5, 6, 7, 8, 9, 10, 11, 12, 13, 14, 15, 16, 17] rfl rfl (fun H locs hP => ?_)
    have hP : PD (dC, dI) A s.heap [(q0, .inr (2, [.ref q1, .int w11])), (q1, .inl (cc 3, 8, .inr (.inr (.inr (.inr fun j => some (qa (w10 j))))))), ((qa 0), .inr (4, [.ref (qb 0), .int (CK 0), .int (CY 0)])), ((qb 0), .inl (cc 0, 50, .inl (CC 0))), ((qa 1), .inr (4, [.ref (qb 1), .int (CK 1), .int (CY 1)])), ((qb 1), .inl (cc 0, 50, .inl (CC 1))), ((qa 2), .inr (4, [.ref (qb 2), .int (CK 2), .int (CY 2)])), ((qb 2), .inl (cc 0, 50, .inl (CC 2))), ((qa 3), .inr (4, [.ref (qb 3), .int (CK 3), .int (CY 3)])), ((qb 3), .inl (cc 0, 50, .inl (CC 3))), ((qa 4), .inr (4, [.ref (qb 4), .int (CK 4), .int (CY 4)])), ((qb 4), .inl (cc 0, 50, .inl (CC 4))), ((qa 5), .inr (4, [.ref (qb 5), .int (CK 5), .int (CY 5)])), ((qb 5), .inl (cc 0, 50, .inl (CC 5))), ((qa 6), .inr (4, [.ref (qb 6), .int (CK 6), .int (CY 6)])), ((qb 6), .inl (cc 0, 50, .inl (CC 6))), ((qa 7), .inr (4, [.ref (qb 7), .int (CK 7), .int (CY 7)])), ((qb 7), .inl (cc 0, 50, .inl (CC 7))), (q2, .inr (4, [.ref q3, .int o1_clogs, .int o1_day])), (q3, .inl (cc 0, 50, .inl o1_cells))] H locs := hP
    refine lv_aload_n hx hb dX2_push_11 rfl (lv_at hl 0 rfl) ?_
    refine g_get hC hP fg_X2_22 0 rfl rfl dX2_push_12 ?_
    refine lv_if_lt (tgt := 65) hx hb dX2_push_15 (by decide) (fun c12 => ?_) (fun c12 => ?_)
    · have h := if_t c12 h
      exact ret_v hC hr hlk hP dX2_push_65 (w10, CC, CK, CY, w11) (Option.some.inj h) rfl
    · have h := if_f c12 h
      refine lv_aload_n hx hb dX2_push_18 rfl (lv_at hl 0 rfl) ?_
      refine g_get hC hP fg_X2_22 0 rfl rfl dX2_push_19 ?_
      refine lv_aload_n hx hb dX2_push_22 rfl (lv_at hl 0 rfl) ?_
      refine g_get hC hP fg_X2_15 0 rfl rfl dX2_push_23 ?_
      refine g_alen hC hP 1 3 rfl rfl (v := 8) rfl dX2_push_26 ?_
      refine lv_icmp_ge (tgt := 65) hx hb dX2_push_27 (by decide) (fun c13 => ?_) (fun c13 => ?_)
      · have h := if_t c13 h
        exact ret_v hC hr hlk hP dX2_push_65 (w10, CC, CK, CY, w11) (Option.some.inj h) rfl
      · have h := if_f c13 h
        refine lv_aload_n hx hb dX2_push_30 rfl (lv_at hl 0 rfl) ?_
        refine g_get hC hP fg_X2_15 0 rfl rfl dX2_push_31 ?_
        refine lv_aload_n hx hb dX2_push_34 rfl (lv_at hl 0 rfl) ?_
        refine g_get hC hP fg_X2_22 0 rfl rfl dX2_push_35 ?_
        obtain ⟨hin, hkN, h⟩ := rdp_h h
        refine g_aaldP hC hP 1 3 rfl rfl hin dX2_push_38 (fun k14 ek => ?_)
        have h := h k14 ek
        have hN_k14 : k14 < 8 := by rw [ek]; exact hkN
        refine lv_ifnull hx hb dX2_push_39 ?_
        refine lv_aload_n hx hb dX2_push_42 rfl (lv_at hl 0 rfl) ?_
        refine g_get hC hP fg_X2_15 0 rfl rfl dX2_push_43 ?_
        refine lv_aload_n hx hb dX2_push_46 rfl (lv_at hl 0 rfl) ?_
        refine g_get hC hP fg_X2_22 0 rfl rfl dX2_push_47 ?_
        obtain ⟨hin, hkN, h⟩ := rdp_h h
        refine g_aaldP hC hP 1 3 rfl rfl hin dX2_push_50 (fun k15 ek => ?_)
        have h := h k15 ek
        have hN_k15 : k15 < 8 := by rw [ek]; exact hkN
        refine lv_aload_n hx hb dX2_push_51 rfl (lv_at hl 1 rfl) ?_
        rcases lt8 hN_k15 with e | e | e | e | e | e | e | e
        · subst e
          obtain ⟨⟨w16, w17, w18⟩, hu, h⟩ := bnd_h h
          refine kc_v (kV hC (c_X4_copy l dC dI cc (qa 0) (qb 0) q2 q3 (CK 0) (CY 0) (CC 0) o1_clogs o1_day o1_cells H.size w16 w17 w18 hu) cv_X2_33 kw372 rfl rfl ⟨(Nat.le_of_ble_eq_true rfl), (Nat.le_of_ble_eq_true rfl)⟩ hP [2, 3, 18, 19] rfl rfl rfl (q0 := 2) rfl (As := [.ref q2]) (rest := []) rfl rfl hl.1 (Nat.le_of_ble_eq_true rfl) dX2_push_52 ⟨Nat.zero_le _, Nat.zero_le _⟩) hP hA [2, 3, 18, 19] rfl rfl (fun H locs hP => ?_)
          have hP : PD (dC, dI) A s.heap [(q0, .inr (2, [.ref q1, .int w11])), (q1, .inl (cc 3, 8, .inr (.inr (.inr (.inr fun j => some (qa (w10 j))))))), ((qa 0), .inr (4, [.ref (qb 0), .int w17, .int w18])), ((qb 0), .inl (cc 0, 50, .inl w16)), ((qa 1), .inr (4, [.ref (qb 1), .int (CK 1), .int (CY 1)])), ((qb 1), .inl (cc 0, 50, .inl (CC 1))), ((qa 2), .inr (4, [.ref (qb 2), .int (CK 2), .int (CY 2)])), ((qb 2), .inl (cc 0, 50, .inl (CC 2))), ((qa 3), .inr (4, [.ref (qb 3), .int (CK 3), .int (CY 3)])), ((qb 3), .inl (cc 0, 50, .inl (CC 3))), ((qa 4), .inr (4, [.ref (qb 4), .int (CK 4), .int (CY 4)])), ((qb 4), .inl (cc 0, 50, .inl (CC 4))), ((qa 5), .inr (4, [.ref (qb 5), .int (CK 5), .int (CY 5)])), ((qb 5), .inl (cc 0, 50, .inl (CC 5))), ((qa 6), .inr (4, [.ref (qb 6), .int (CK 6), .int (CY 6)])), ((qb 6), .inl (cc 0, 50, .inl (CC 6))), ((qa 7), .inr (4, [.ref (qb 7), .int (CK 7), .int (CY 7)])), ((qb 7), .inl (cc 0, 50, .inl (CC 7))), (q2, .inr (4, [.ref q3, .int o1_clogs, .int o1_day])), (q3, .inl (cc 0, 50, .inl o1_cells))] H locs := hP
          have hP : PD (dC, dI) A s.heap [(q0, .inr (2, [.ref q1, .int w11])), (q1, .inl (cc 3, 8, .inr (.inr (.inr (.inr fun j => some (qa (w10 j))))))), ((qa 0), .inr (4, [.ref (qb 0), .int ((va_up CK 0 w17) 0), .int ((va_up CY 0 w18) 0)])), ((qb 0), .inl (cc 0, 50, .inl ((va_up CC 0 w16) 0))), ((qa 1), .inr (4, [.ref (qb 1), .int ((va_up CK 0 w17) 1), .int ((va_up CY 0 w18) 1)])), ((qb 1), .inl (cc 0, 50, .inl ((va_up CC 0 w16) 1))), ((qa 2), .inr (4, [.ref (qb 2), .int ((va_up CK 0 w17) 2), .int ((va_up CY 0 w18) 2)])), ((qb 2), .inl (cc 0, 50, .inl ((va_up CC 0 w16) 2))), ((qa 3), .inr (4, [.ref (qb 3), .int ((va_up CK 0 w17) 3), .int ((va_up CY 0 w18) 3)])), ((qb 3), .inl (cc 0, 50, .inl ((va_up CC 0 w16) 3))), ((qa 4), .inr (4, [.ref (qb 4), .int ((va_up CK 0 w17) 4), .int ((va_up CY 0 w18) 4)])), ((qb 4), .inl (cc 0, 50, .inl ((va_up CC 0 w16) 4))), ((qa 5), .inr (4, [.ref (qb 5), .int ((va_up CK 0 w17) 5), .int ((va_up CY 0 w18) 5)])), ((qb 5), .inl (cc 0, 50, .inl ((va_up CC 0 w16) 5))), ((qa 6), .inr (4, [.ref (qb 6), .int ((va_up CK 0 w17) 6), .int ((va_up CY 0 w18) 6)])), ((qb 6), .inl (cc 0, 50, .inl ((va_up CC 0 w16) 6))), ((qa 7), .inr (4, [.ref (qb 7), .int ((va_up CK 0 w17) 7), .int ((va_up CY 0 w18) 7)])), ((qb 7), .inl (cc 0, 50, .inl ((va_up CC 0 w16) 7))), (q2, .inr (4, [.ref q3, .int o1_clogs, .int o1_day])), (q3, .inl (cc 0, 50, .inl o1_cells))] H locs := hP
          refine lv_aload_n hx hb dX2_push_55 rfl (lv_at hl 0 rfl) ?_
          refine lv_dup hx hb dX2_push_56 rfl ?_
          refine g_get hC hP fg_X2_22 0 rfl rfl dX2_push_57 ?_
          refine lv_iconst (v := 1) hx hb dX2_push_60 (by decide) ?_
          refine lv_iadd hx hb dX2_push_61 ?_
          refine g_put hC hP fg_X2_22 0 rfl rfl rfl (Nat.le_of_ble_eq_true rfl) dX2_push_62 (fun H locs hP => ?_)
          have hP : PD (dC, dI) A s.heap [(q0, .inr (2, [.ref q1, .int (w11 + 1)])), (q1, .inl (cc 3, 8, .inr (.inr (.inr (.inr fun j => some (qa (w10 j))))))), ((qa 0), .inr (4, [.ref (qb 0), .int ((va_up CK 0 w17) 0), .int ((va_up CY 0 w18) 0)])), ((qb 0), .inl (cc 0, 50, .inl ((va_up CC 0 w16) 0))), ((qa 1), .inr (4, [.ref (qb 1), .int ((va_up CK 0 w17) 1), .int ((va_up CY 0 w18) 1)])), ((qb 1), .inl (cc 0, 50, .inl ((va_up CC 0 w16) 1))), ((qa 2), .inr (4, [.ref (qb 2), .int ((va_up CK 0 w17) 2), .int ((va_up CY 0 w18) 2)])), ((qb 2), .inl (cc 0, 50, .inl ((va_up CC 0 w16) 2))), ((qa 3), .inr (4, [.ref (qb 3), .int ((va_up CK 0 w17) 3), .int ((va_up CY 0 w18) 3)])), ((qb 3), .inl (cc 0, 50, .inl ((va_up CC 0 w16) 3))), ((qa 4), .inr (4, [.ref (qb 4), .int ((va_up CK 0 w17) 4), .int ((va_up CY 0 w18) 4)])), ((qb 4), .inl (cc 0, 50, .inl ((va_up CC 0 w16) 4))), ((qa 5), .inr (4, [.ref (qb 5), .int ((va_up CK 0 w17) 5), .int ((va_up CY 0 w18) 5)])), ((qb 5), .inl (cc 0, 50, .inl ((va_up CC 0 w16) 5))), ((qa 6), .inr (4, [.ref (qb 6), .int ((va_up CK 0 w17) 6), .int ((va_up CY 0 w18) 6)])), ((qb 6), .inl (cc 0, 50, .inl ((va_up CC 0 w16) 6))), ((qa 7), .inr (4, [.ref (qb 7), .int ((va_up CK 0 w17) 7), .int ((va_up CY 0 w18) 7)])), ((qb 7), .inl (cc 0, 50, .inl ((va_up CC 0 w16) 7))), (q2, .inr (4, [.ref q3, .int o1_clogs, .int o1_day])), (q3, .inl (cc 0, 50, .inl o1_cells))] H locs := hP
          exact ret_v hC hr hlk hP dX2_push_65 (w10, (va_up CC 0 w16), (va_up CK 0 w17), (va_up CY 0 w18), (w11 + 1)) (Option.some.inj h) rfl
        · subst e
          obtain ⟨⟨w16, w17, w18⟩, hu, h⟩ := bnd_h h
          refine kc_v (kV hC (c_X4_copy l dC dI cc (qa 1) (qb 1) q2 q3 (CK 1) (CY 1) (CC 1) o1_clogs o1_day o1_cells H.size w16 w17 w18 hu) cv_X2_33 kw372 rfl rfl ⟨(Nat.le_of_ble_eq_true rfl), (Nat.le_of_ble_eq_true rfl)⟩ hP [4, 5, 18, 19] rfl rfl rfl (q0 := 4) rfl (As := [.ref q2]) (rest := []) rfl rfl hl.1 (Nat.le_of_ble_eq_true rfl) dX2_push_52 ⟨Nat.zero_le _, Nat.zero_le _⟩) hP hA [4, 5, 18, 19] rfl rfl (fun H locs hP => ?_)
          have hP : PD (dC, dI) A s.heap [(q0, .inr (2, [.ref q1, .int w11])), (q1, .inl (cc 3, 8, .inr (.inr (.inr (.inr fun j => some (qa (w10 j))))))), ((qa 0), .inr (4, [.ref (qb 0), .int (CK 0), .int (CY 0)])), ((qb 0), .inl (cc 0, 50, .inl (CC 0))), ((qa 1), .inr (4, [.ref (qb 1), .int w17, .int w18])), ((qb 1), .inl (cc 0, 50, .inl w16)), ((qa 2), .inr (4, [.ref (qb 2), .int (CK 2), .int (CY 2)])), ((qb 2), .inl (cc 0, 50, .inl (CC 2))), ((qa 3), .inr (4, [.ref (qb 3), .int (CK 3), .int (CY 3)])), ((qb 3), .inl (cc 0, 50, .inl (CC 3))), ((qa 4), .inr (4, [.ref (qb 4), .int (CK 4), .int (CY 4)])), ((qb 4), .inl (cc 0, 50, .inl (CC 4))), ((qa 5), .inr (4, [.ref (qb 5), .int (CK 5), .int (CY 5)])), ((qb 5), .inl (cc 0, 50, .inl (CC 5))), ((qa 6), .inr (4, [.ref (qb 6), .int (CK 6), .int (CY 6)])), ((qb 6), .inl (cc 0, 50, .inl (CC 6))), ((qa 7), .inr (4, [.ref (qb 7), .int (CK 7), .int (CY 7)])), ((qb 7), .inl (cc 0, 50, .inl (CC 7))), (q2, .inr (4, [.ref q3, .int o1_clogs, .int o1_day])), (q3, .inl (cc 0, 50, .inl o1_cells))] H locs := hP
          have hP : PD (dC, dI) A s.heap [(q0, .inr (2, [.ref q1, .int w11])), (q1, .inl (cc 3, 8, .inr (.inr (.inr (.inr fun j => some (qa (w10 j))))))), ((qa 0), .inr (4, [.ref (qb 0), .int ((va_up CK 1 w17) 0), .int ((va_up CY 1 w18) 0)])), ((qb 0), .inl (cc 0, 50, .inl ((va_up CC 1 w16) 0))), ((qa 1), .inr (4, [.ref (qb 1), .int ((va_up CK 1 w17) 1), .int ((va_up CY 1 w18) 1)])), ((qb 1), .inl (cc 0, 50, .inl ((va_up CC 1 w16) 1))), ((qa 2), .inr (4, [.ref (qb 2), .int ((va_up CK 1 w17) 2), .int ((va_up CY 1 w18) 2)])), ((qb 2), .inl (cc 0, 50, .inl ((va_up CC 1 w16) 2))), ((qa 3), .inr (4, [.ref (qb 3), .int ((va_up CK 1 w17) 3), .int ((va_up CY 1 w18) 3)])), ((qb 3), .inl (cc 0, 50, .inl ((va_up CC 1 w16) 3))), ((qa 4), .inr (4, [.ref (qb 4), .int ((va_up CK 1 w17) 4), .int ((va_up CY 1 w18) 4)])), ((qb 4), .inl (cc 0, 50, .inl ((va_up CC 1 w16) 4))), ((qa 5), .inr (4, [.ref (qb 5), .int ((va_up CK 1 w17) 5), .int ((va_up CY 1 w18) 5)])), ((qb 5), .inl (cc 0, 50, .inl ((va_up CC 1 w16) 5))), ((qa 6), .inr (4, [.ref (qb 6), .int ((va_up CK 1 w17) 6), .int ((va_up CY 1 w18) 6)])), ((qb 6), .inl (cc 0, 50, .inl ((va_up CC 1 w16) 6))), ((qa 7), .inr (4, [.ref (qb 7), .int ((va_up CK 1 w17) 7), .int ((va_up CY 1 w18) 7)])), ((qb 7), .inl (cc 0, 50, .inl ((va_up CC 1 w16) 7))), (q2, .inr (4, [.ref q3, .int o1_clogs, .int o1_day])), (q3, .inl (cc 0, 50, .inl o1_cells))] H locs := hP
          refine lv_aload_n hx hb dX2_push_55 rfl (lv_at hl 0 rfl) ?_
          refine lv_dup hx hb dX2_push_56 rfl ?_
          refine g_get hC hP fg_X2_22 0 rfl rfl dX2_push_57 ?_
          refine lv_iconst (v := 1) hx hb dX2_push_60 (by decide) ?_
          refine lv_iadd hx hb dX2_push_61 ?_
          refine g_put hC hP fg_X2_22 0 rfl rfl rfl (Nat.le_of_ble_eq_true rfl) dX2_push_62 (fun H locs hP => ?_)
          have hP : PD (dC, dI) A s.heap [(q0, .inr (2, [.ref q1, .int (w11 + 1)])), (q1, .inl (cc 3, 8, .inr (.inr (.inr (.inr fun j => some (qa (w10 j))))))), ((qa 0), .inr (4, [.ref (qb 0), .int ((va_up CK 1 w17) 0), .int ((va_up CY 1 w18) 0)])), ((qb 0), .inl (cc 0, 50, .inl ((va_up CC 1 w16) 0))), ((qa 1), .inr (4, [.ref (qb 1), .int ((va_up CK 1 w17) 1), .int ((va_up CY 1 w18) 1)])), ((qb 1), .inl (cc 0, 50, .inl ((va_up CC 1 w16) 1))), ((qa 2), .inr (4, [.ref (qb 2), .int ((va_up CK 1 w17) 2), .int ((va_up CY 1 w18) 2)])), ((qb 2), .inl (cc 0, 50, .inl ((va_up CC 1 w16) 2))), ((qa 3), .inr (4, [.ref (qb 3), .int ((va_up CK 1 w17) 3), .int ((va_up CY 1 w18) 3)])), ((qb 3), .inl (cc 0, 50, .inl ((va_up CC 1 w16) 3))), ((qa 4), .inr (4, [.ref (qb 4), .int ((va_up CK 1 w17) 4), .int ((va_up CY 1 w18) 4)])), ((qb 4), .inl (cc 0, 50, .inl ((va_up CC 1 w16) 4))), ((qa 5), .inr (4, [.ref (qb 5), .int ((va_up CK 1 w17) 5), .int ((va_up CY 1 w18) 5)])), ((qb 5), .inl (cc 0, 50, .inl ((va_up CC 1 w16) 5))), ((qa 6), .inr (4, [.ref (qb 6), .int ((va_up CK 1 w17) 6), .int ((va_up CY 1 w18) 6)])), ((qb 6), .inl (cc 0, 50, .inl ((va_up CC 1 w16) 6))), ((qa 7), .inr (4, [.ref (qb 7), .int ((va_up CK 1 w17) 7), .int ((va_up CY 1 w18) 7)])), ((qb 7), .inl (cc 0, 50, .inl ((va_up CC 1 w16) 7))), (q2, .inr (4, [.ref q3, .int o1_clogs, .int o1_day])), (q3, .inl (cc 0, 50, .inl o1_cells))] H locs := hP
          exact ret_v hC hr hlk hP dX2_push_65 (w10, (va_up CC 1 w16), (va_up CK 1 w17), (va_up CY 1 w18), (w11 + 1)) (Option.some.inj h) rfl
        · subst e
          obtain ⟨⟨w16, w17, w18⟩, hu, h⟩ := bnd_h h
          refine kc_v (kV hC (c_X4_copy l dC dI cc (qa 2) (qb 2) q2 q3 (CK 2) (CY 2) (CC 2) o1_clogs o1_day o1_cells H.size w16 w17 w18 hu) cv_X2_33 kw372 rfl rfl ⟨(Nat.le_of_ble_eq_true rfl), (Nat.le_of_ble_eq_true rfl)⟩ hP [6, 7, 18, 19] rfl rfl rfl (q0 := 6) rfl (As := [.ref q2]) (rest := []) rfl rfl hl.1 (Nat.le_of_ble_eq_true rfl) dX2_push_52 ⟨Nat.zero_le _, Nat.zero_le _⟩) hP hA [6, 7, 18, 19] rfl rfl (fun H locs hP => ?_)
          have hP : PD (dC, dI) A s.heap [(q0, .inr (2, [.ref q1, .int w11])), (q1, .inl (cc 3, 8, .inr (.inr (.inr (.inr fun j => some (qa (w10 j))))))), ((qa 0), .inr (4, [.ref (qb 0), .int (CK 0), .int (CY 0)])), ((qb 0), .inl (cc 0, 50, .inl (CC 0))), ((qa 1), .inr (4, [.ref (qb 1), .int (CK 1), .int (CY 1)])), ((qb 1), .inl (cc 0, 50, .inl (CC 1))), ((qa 2), .inr (4, [.ref (qb 2), .int w17, .int w18])), ((qb 2), .inl (cc 0, 50, .inl w16)), ((qa 3), .inr (4, [.ref (qb 3), .int (CK 3), .int (CY 3)])), ((qb 3), .inl (cc 0, 50, .inl (CC 3))), ((qa 4), .inr (4, [.ref (qb 4), .int (CK 4), .int (CY 4)])), ((qb 4), .inl (cc 0, 50, .inl (CC 4))), ((qa 5), .inr (4, [.ref (qb 5), .int (CK 5), .int (CY 5)])), ((qb 5), .inl (cc 0, 50, .inl (CC 5))), ((qa 6), .inr (4, [.ref (qb 6), .int (CK 6), .int (CY 6)])), ((qb 6), .inl (cc 0, 50, .inl (CC 6))), ((qa 7), .inr (4, [.ref (qb 7), .int (CK 7), .int (CY 7)])), ((qb 7), .inl (cc 0, 50, .inl (CC 7))), (q2, .inr (4, [.ref q3, .int o1_clogs, .int o1_day])), (q3, .inl (cc 0, 50, .inl o1_cells))] H locs := hP
          have hP : PD (dC, dI) A s.heap [(q0, .inr (2, [.ref q1, .int w11])), (q1, .inl (cc 3, 8, .inr (.inr (.inr (.inr fun j => some (qa (w10 j))))))), ((qa 0), .inr (4, [.ref (qb 0), .int ((va_up CK 2 w17) 0), .int ((va_up CY 2 w18) 0)])), ((qb 0), .inl (cc 0, 50, .inl ((va_up CC 2 w16) 0))), ((qa 1), .inr (4, [.ref (qb 1), .int ((va_up CK 2 w17) 1), .int ((va_up CY 2 w18) 1)])), ((qb 1), .inl (cc 0, 50, .inl ((va_up CC 2 w16) 1))), ((qa 2), .inr (4, [.ref (qb 2), .int ((va_up CK 2 w17) 2), .int ((va_up CY 2 w18) 2)])), ((qb 2), .inl (cc 0, 50, .inl ((va_up CC 2 w16) 2))), ((qa 3), .inr (4, [.ref (qb 3), .int ((va_up CK 2 w17) 3), .int ((va_up CY 2 w18) 3)])), ((qb 3), .inl (cc 0, 50, .inl ((va_up CC 2 w16) 3))), ((qa 4), .inr (4, [.ref (qb 4), .int ((va_up CK 2 w17) 4), .int ((va_up CY 2 w18) 4)])), ((qb 4), .inl (cc 0, 50, .inl ((va_up CC 2 w16) 4))), ((qa 5), .inr (4, [.ref (qb 5), .int ((va_up CK 2 w17) 5), .int ((va_up CY 2 w18) 5)])), ((qb 5), .inl (cc 0, 50, .inl ((va_up CC 2 w16) 5))), ((qa 6), .inr (4, [.ref (qb 6), .int ((va_up CK 2 w17) 6), .int ((va_up CY 2 w18) 6)])), ((qb 6), .inl (cc 0, 50, .inl ((va_up CC 2 w16) 6))), ((qa 7), .inr (4, [.ref (qb 7), .int ((va_up CK 2 w17) 7), .int ((va_up CY 2 w18) 7)])), ((qb 7), .inl (cc 0, 50, .inl ((va_up CC 2 w16) 7))), (q2, .inr (4, [.ref q3, .int o1_clogs, .int o1_day])), (q3, .inl (cc 0, 50, .inl o1_cells))] H locs := hP
          refine lv_aload_n hx hb dX2_push_55 rfl (lv_at hl 0 rfl) ?_
          refine lv_dup hx hb dX2_push_56 rfl ?_
          refine g_get hC hP fg_X2_22 0 rfl rfl dX2_push_57 ?_
          refine lv_iconst (v := 1) hx hb dX2_push_60 (by decide) ?_
          refine lv_iadd hx hb dX2_push_61 ?_
          refine g_put hC hP fg_X2_22 0 rfl rfl rfl (Nat.le_of_ble_eq_true rfl) dX2_push_62 (fun H locs hP => ?_)
          have hP : PD (dC, dI) A s.heap [(q0, .inr (2, [.ref q1, .int (w11 + 1)])), (q1, .inl (cc 3, 8, .inr (.inr (.inr (.inr fun j => some (qa (w10 j))))))), ((qa 0), .inr (4, [.ref (qb 0), .int ((va_up CK 2 w17) 0), .int ((va_up CY 2 w18) 0)])), ((qb 0), .inl (cc 0, 50, .inl ((va_up CC 2 w16) 0))), ((qa 1), .inr (4, [.ref (qb 1), .int ((va_up CK 2 w17) 1), .int ((va_up CY 2 w18) 1)])), ((qb 1), .inl (cc 0, 50, .inl ((va_up CC 2 w16) 1))), ((qa 2), .inr (4, [.ref (qb 2), .int ((va_up CK 2 w17) 2), .int ((va_up CY 2 w18) 2)])), ((qb 2), .inl (cc 0, 50, .inl ((va_up CC 2 w16) 2))), ((qa 3), .inr (4, [.ref (qb 3), .int ((va_up CK 2 w17) 3), .int ((va_up CY 2 w18) 3)])), ((qb 3), .inl (cc 0, 50, .inl ((va_up CC 2 w16) 3))), ((qa 4), .inr (4, [.ref (qb 4), .int ((va_up CK 2 w17) 4), .int ((va_up CY 2 w18) 4)])), ((qb 4), .inl (cc 0, 50, .inl ((va_up CC 2 w16) 4))), ((qa 5), .inr (4, [.ref (qb 5), .int ((va_up CK 2 w17) 5), .int ((va_up CY 2 w18) 5)])), ((qb 5), .inl (cc 0, 50, .inl ((va_up CC 2 w16) 5))), ((qa 6), .inr (4, [.ref (qb 6), .int ((va_up CK 2 w17) 6), .int ((va_up CY 2 w18) 6)])), ((qb 6), .inl (cc 0, 50, .inl ((va_up CC 2 w16) 6))), ((qa 7), .inr (4, [.ref (qb 7), .int ((va_up CK 2 w17) 7), .int ((va_up CY 2 w18) 7)])), ((qb 7), .inl (cc 0, 50, .inl ((va_up CC 2 w16) 7))), (q2, .inr (4, [.ref q3, .int o1_clogs, .int o1_day])), (q3, .inl (cc 0, 50, .inl o1_cells))] H locs := hP
          exact ret_v hC hr hlk hP dX2_push_65 (w10, (va_up CC 2 w16), (va_up CK 2 w17), (va_up CY 2 w18), (w11 + 1)) (Option.some.inj h) rfl
        · subst e
          obtain ⟨⟨w16, w17, w18⟩, hu, h⟩ := bnd_h h
          refine kc_v (kV hC (c_X4_copy l dC dI cc (qa 3) (qb 3) q2 q3 (CK 3) (CY 3) (CC 3) o1_clogs o1_day o1_cells H.size w16 w17 w18 hu) cv_X2_33 kw372 rfl rfl ⟨(Nat.le_of_ble_eq_true rfl), (Nat.le_of_ble_eq_true rfl)⟩ hP [8, 9, 18, 19] rfl rfl rfl (q0 := 8) rfl (As := [.ref q2]) (rest := []) rfl rfl hl.1 (Nat.le_of_ble_eq_true rfl) dX2_push_52 ⟨Nat.zero_le _, Nat.zero_le _⟩) hP hA [8, 9, 18, 19] rfl rfl (fun H locs hP => ?_)
          have hP : PD (dC, dI) A s.heap [(q0, .inr (2, [.ref q1, .int w11])), (q1, .inl (cc 3, 8, .inr (.inr (.inr (.inr fun j => some (qa (w10 j))))))), ((qa 0), .inr (4, [.ref (qb 0), .int (CK 0), .int (CY 0)])), ((qb 0), .inl (cc 0, 50, .inl (CC 0))), ((qa 1), .inr (4, [.ref (qb 1), .int (CK 1), .int (CY 1)])), ((qb 1), .inl (cc 0, 50, .inl (CC 1))), ((qa 2), .inr (4, [.ref (qb 2), .int (CK 2), .int (CY 2)])), ((qb 2), .inl (cc 0, 50, .inl (CC 2))), ((qa 3), .inr (4, [.ref (qb 3), .int w17, .int w18])), ((qb 3), .inl (cc 0, 50, .inl w16)), ((qa 4), .inr (4, [.ref (qb 4), .int (CK 4), .int (CY 4)])), ((qb 4), .inl (cc 0, 50, .inl (CC 4))), ((qa 5), .inr (4, [.ref (qb 5), .int (CK 5), .int (CY 5)])), ((qb 5), .inl (cc 0, 50, .inl (CC 5))), ((qa 6), .inr (4, [.ref (qb 6), .int (CK 6), .int (CY 6)])), ((qb 6), .inl (cc 0, 50, .inl (CC 6))), ((qa 7), .inr (4, [.ref (qb 7), .int (CK 7), .int (CY 7)])), ((qb 7), .inl (cc 0, 50, .inl (CC 7))), (q2, .inr (4, [.ref q3, .int o1_clogs, .int o1_day])), (q3, .inl (cc 0, 50, .inl o1_cells))] H locs := hP
          have hP : PD (dC, dI) A s.heap [(q0, .inr (2, [.ref q1, .int w11])), (q1, .inl (cc 3, 8, .inr (.inr (.inr (.inr fun j => some (qa (w10 j))))))), ((qa 0), .inr (4, [.ref (qb 0), .int ((va_up CK 3 w17) 0), .int ((va_up CY 3 w18) 0)])), ((qb 0), .inl (cc 0, 50, .inl ((va_up CC 3 w16) 0))), ((qa 1), .inr (4, [.ref (qb 1), .int ((va_up CK 3 w17) 1), .int ((va_up CY 3 w18) 1)])), ((qb 1), .inl (cc 0, 50, .inl ((va_up CC 3 w16) 1))), ((qa 2), .inr (4, [.ref (qb 2), .int ((va_up CK 3 w17) 2), .int ((va_up CY 3 w18) 2)])), ((qb 2), .inl (cc 0, 50, .inl ((va_up CC 3 w16) 2))), ((qa 3), .inr (4, [.ref (qb 3), .int ((va_up CK 3 w17) 3), .int ((va_up CY 3 w18) 3)])), ((qb 3), .inl (cc 0, 50, .inl ((va_up CC 3 w16) 3))), ((qa 4), .inr (4, [.ref (qb 4), .int ((va_up CK 3 w17) 4), .int ((va_up CY 3 w18) 4)])), ((qb 4), .inl (cc 0, 50, .inl ((va_up CC 3 w16) 4))), ((qa 5), .inr (4, [.ref (qb 5), .int ((va_up CK 3 w17) 5), .int ((va_up CY 3 w18) 5)])), ((qb 5), .inl (cc 0, 50, .inl ((va_up CC 3 w16) 5))), ((qa 6), .inr (4, [.ref (qb 6), .int ((va_up CK 3 w17) 6), .int ((va_up CY 3 w18) 6)])), ((qb 6), .inl (cc 0, 50, .inl ((va_up CC 3 w16) 6))), ((qa 7), .inr (4, [.ref (qb 7), .int ((va_up CK 3 w17) 7), .int ((va_up CY 3 w18) 7)])), ((qb 7), .inl (cc 0, 50, .inl ((va_up CC 3 w16) 7))), (q2, .inr (4, [.ref q3, .int o1_clogs, .int o1_day])), (q3, .inl (cc 0, 50, .inl o1_cells))] H locs := hP
          refine lv_aload_n hx hb dX2_push_55 rfl (lv_at hl 0 rfl) ?_
          refine lv_dup hx hb dX2_push_56 rfl ?_
          refine g_get hC hP fg_X2_22 0 rfl rfl dX2_push_57 ?_
          refine lv_iconst (v := 1) hx hb dX2_push_60 (by decide) ?_
          refine lv_iadd hx hb dX2_push_61 ?_
          refine g_put hC hP fg_X2_22 0 rfl rfl rfl (Nat.le_of_ble_eq_true rfl) dX2_push_62 (fun H locs hP => ?_)
          have hP : PD (dC, dI) A s.heap [(q0, .inr (2, [.ref q1, .int (w11 + 1)])), (q1, .inl (cc 3, 8, .inr (.inr (.inr (.inr fun j => some (qa (w10 j))))))), ((qa 0), .inr (4, [.ref (qb 0), .int ((va_up CK 3 w17) 0), .int ((va_up CY 3 w18) 0)])), ((qb 0), .inl (cc 0, 50, .inl ((va_up CC 3 w16) 0))), ((qa 1), .inr (4, [.ref (qb 1), .int ((va_up CK 3 w17) 1), .int ((va_up CY 3 w18) 1)])), ((qb 1), .inl (cc 0, 50, .inl ((va_up CC 3 w16) 1))), ((qa 2), .inr (4, [.ref (qb 2), .int ((va_up CK 3 w17) 2), .int ((va_up CY 3 w18) 2)])), ((qb 2), .inl (cc 0, 50, .inl ((va_up CC 3 w16) 2))), ((qa 3), .inr (4, [.ref (qb 3), .int ((va_up CK 3 w17) 3), .int ((va_up CY 3 w18) 3)])), ((qb 3), .inl (cc 0, 50, .inl ((va_up CC 3 w16) 3))), ((qa 4), .inr (4, [.ref (qb 4), .int ((va_up CK 3 w17) 4), .int ((va_up CY 3 w18) 4)])), ((qb 4), .inl (cc 0, 50, .inl ((va_up CC 3 w16) 4))), ((qa 5), .inr (4, [.ref (qb 5), .int ((va_up CK 3 w17) 5), .int ((va_up CY 3 w18) 5)])), ((qb 5), .inl (cc 0, 50, .inl ((va_up CC 3 w16) 5))), ((qa 6), .inr (4, [.ref (qb 6), .int ((va_up CK 3 w17) 6), .int ((va_up CY 3 w18) 6)])), ((qb 6), .inl (cc 0, 50, .inl ((va_up CC 3 w16) 6))), ((qa 7), .inr (4, [.ref (qb 7), .int ((va_up CK 3 w17) 7), .int ((va_up CY 3 w18) 7)])), ((qb 7), .inl (cc 0, 50, .inl ((va_up CC 3 w16) 7))), (q2, .inr (4, [.ref q3, .int o1_clogs, .int o1_day])), (q3, .inl (cc 0, 50, .inl o1_cells))] H locs := hP
          exact ret_v hC hr hlk hP dX2_push_65 (w10, (va_up CC 3 w16), (va_up CK 3 w17), (va_up CY 3 w18), (w11 + 1)) (Option.some.inj h) rfl
        · subst e
          obtain ⟨⟨w16, w17, w18⟩, hu, h⟩ := bnd_h h
          refine kc_v (kV hC (c_X4_copy l dC dI cc (qa 4) (qb 4) q2 q3 (CK 4) (CY 4) (CC 4) o1_clogs o1_day o1_cells H.size w16 w17 w18 hu) cv_X2_33 kw372 rfl rfl ⟨(Nat.le_of_ble_eq_true rfl), (Nat.le_of_ble_eq_true rfl)⟩ hP [10, 11, 18, 19] rfl rfl rfl (q0 := 10) rfl (As := [.ref q2]) (rest := []) rfl rfl hl.1 (Nat.le_of_ble_eq_true rfl) dX2_push_52 ⟨Nat.zero_le _, Nat.zero_le _⟩) hP hA [10, 11, 18, 19] rfl rfl (fun H locs hP => ?_)
          have hP : PD (dC, dI) A s.heap [(q0, .inr (2, [.ref q1, .int w11])), (q1, .inl (cc 3, 8, .inr (.inr (.inr (.inr fun j => some (qa (w10 j))))))), ((qa 0), .inr (4, [.ref (qb 0), .int (CK 0), .int (CY 0)])), ((qb 0), .inl (cc 0, 50, .inl (CC 0))), ((qa 1), .inr (4, [.ref (qb 1), .int (CK 1), .int (CY 1)])), ((qb 1), .inl (cc 0, 50, .inl (CC 1))), ((qa 2), .inr (4, [.ref (qb 2), .int (CK 2), .int (CY 2)])), ((qb 2), .inl (cc 0, 50, .inl (CC 2))), ((qa 3), .inr (4, [.ref (qb 3), .int (CK 3), .int (CY 3)])), ((qb 3), .inl (cc 0, 50, .inl (CC 3))), ((qa 4), .inr (4, [.ref (qb 4), .int w17, .int w18])), ((qb 4), .inl (cc 0, 50, .inl w16)), ((qa 5), .inr (4, [.ref (qb 5), .int (CK 5), .int (CY 5)])), ((qb 5), .inl (cc 0, 50, .inl (CC 5))), ((qa 6), .inr (4, [.ref (qb 6), .int (CK 6), .int (CY 6)])), ((qb 6), .inl (cc 0, 50, .inl (CC 6))), ((qa 7), .inr (4, [.ref (qb 7), .int (CK 7), .int (CY 7)])), ((qb 7), .inl (cc 0, 50, .inl (CC 7))), (q2, .inr (4, [.ref q3, .int o1_clogs, .int o1_day])), (q3, .inl (cc 0, 50, .inl o1_cells))] H locs := hP
          have hP : PD (dC, dI) A s.heap [(q0, .inr (2, [.ref q1, .int w11])), (q1, .inl (cc 3, 8, .inr (.inr (.inr (.inr fun j => some (qa (w10 j))))))), ((qa 0), .inr (4, [.ref (qb 0), .int ((va_up CK 4 w17) 0), .int ((va_up CY 4 w18) 0)])), ((qb 0), .inl (cc 0, 50, .inl ((va_up CC 4 w16) 0))), ((qa 1), .inr (4, [.ref (qb 1), .int ((va_up CK 4 w17) 1), .int ((va_up CY 4 w18) 1)])), ((qb 1), .inl (cc 0, 50, .inl ((va_up CC 4 w16) 1))), ((qa 2), .inr (4, [.ref (qb 2), .int ((va_up CK 4 w17) 2), .int ((va_up CY 4 w18) 2)])), ((qb 2), .inl (cc 0, 50, .inl ((va_up CC 4 w16) 2))), ((qa 3), .inr (4, [.ref (qb 3), .int ((va_up CK 4 w17) 3), .int ((va_up CY 4 w18) 3)])), ((qb 3), .inl (cc 0, 50, .inl ((va_up CC 4 w16) 3))), ((qa 4), .inr (4, [.ref (qb 4), .int ((va_up CK 4 w17) 4), .int ((va_up CY 4 w18) 4)])), ((qb 4), .inl (cc 0, 50, .inl ((va_up CC 4 w16) 4))), ((qa 5), .inr (4, [.ref (qb 5), .int ((va_up CK 4 w17) 5), .int ((va_up CY 4 w18) 5)])), ((qb 5), .inl (cc 0, 50, .inl ((va_up CC 4 w16) 5))), ((qa 6), .inr (4, [.ref (qb 6), .int ((va_up CK 4 w17) 6), .int ((va_up CY 4 w18) 6)])), ((qb 6), .inl (cc 0, 50, .inl ((va_up CC 4 w16) 6))), ((qa 7), .inr (4, [.ref (qb 7), .int ((va_up CK 4 w17) 7), .int ((va_up CY 4 w18) 7)])), ((qb 7), .inl (cc 0, 50, .inl ((va_up CC 4 w16) 7))), (q2, .inr (4, [.ref q3, .int o1_clogs, .int o1_day])), (q3, .inl (cc 0, 50, .inl o1_cells))] H locs := hP
          refine lv_aload_n hx hb dX2_push_55 rfl (lv_at hl 0 rfl) ?_
          refine lv_dup hx hb dX2_push_56 rfl ?_
          refine g_get hC hP fg_X2_22 0 rfl rfl dX2_push_57 ?_
          refine lv_iconst (v := 1) hx hb dX2_push_60 (by decide) ?_
          refine lv_iadd hx hb dX2_push_61 ?_
          refine g_put hC hP fg_X2_22 0 rfl rfl rfl (Nat.le_of_ble_eq_true rfl) dX2_push_62 (fun H locs hP => ?_)
          have hP : PD (dC, dI) A s.heap [(q0, .inr (2, [.ref q1, .int (w11 + 1)])), (q1, .inl (cc 3, 8, .inr (.inr (.inr (.inr fun j => some (qa (w10 j))))))), ((qa 0), .inr (4, [.ref (qb 0), .int ((va_up CK 4 w17) 0), .int ((va_up CY 4 w18) 0)])), ((qb 0), .inl (cc 0, 50, .inl ((va_up CC 4 w16) 0))), ((qa 1), .inr (4, [.ref (qb 1), .int ((va_up CK 4 w17) 1), .int ((va_up CY 4 w18) 1)])), ((qb 1), .inl (cc 0, 50, .inl ((va_up CC 4 w16) 1))), ((qa 2), .inr (4, [.ref (qb 2), .int ((va_up CK 4 w17) 2), .int ((va_up CY 4 w18) 2)])), ((qb 2), .inl (cc 0, 50, .inl ((va_up CC 4 w16) 2))), ((qa 3), .inr (4, [.ref (qb 3), .int ((va_up CK 4 w17) 3), .int ((va_up CY 4 w18) 3)])), ((qb 3), .inl (cc 0, 50, .inl ((va_up CC 4 w16) 3))), ((qa 4), .inr (4, [.ref (qb 4), .int ((va_up CK 4 w17) 4), .int ((va_up CY 4 w18) 4)])), ((qb 4), .inl (cc 0, 50, .inl ((va_up CC 4 w16) 4))), ((qa 5), .inr (4, [.ref (qb 5), .int ((va_up CK 4 w17) 5), .int ((va_up CY 4 w18) 5)])), ((qb 5), .inl (cc 0, 50, .inl ((va_up CC 4 w16) 5))), ((qa 6), .inr (4, [.ref (qb 6), .int ((va_up CK 4 w17) 6), .int ((va_up CY 4 w18) 6)])), ((qb 6), .inl (cc 0, 50, .inl ((va_up CC 4 w16) 6))), ((qa 7), .inr (4, [.ref (qb 7), .int ((va_up CK 4 w17) 7), .int ((va_up CY 4 w18) 7)])), ((qb 7), .inl (cc 0, 50, .inl ((va_up CC 4 w16) 7))), (q2, .inr (4, [.ref q3, .int o1_clogs, .int o1_day])), (q3, .inl (cc 0, 50, .inl o1_cells))] H locs := hP
          exact ret_v hC hr hlk hP dX2_push_65 (w10, (va_up CC 4 w16), (va_up CK 4 w17), (va_up CY 4 w18), (w11 + 1)) (Option.some.inj h) rfl
        · subst e
          obtain ⟨⟨w16, w17, w18⟩, hu, h⟩ := bnd_h h
          refine kc_v (kV hC (c_X4_copy l dC dI cc (qa 5) (qb 5) q2 q3 (CK 5) (CY 5) (CC 5) o1_clogs o1_day o1_cells H.size w16 w17 w18 hu) cv_X2_33 kw372 rfl rfl ⟨(Nat.le_of_ble_eq_true rfl), (Nat.le_of_ble_eq_true rfl)⟩ hP [12, 13, 18, 19] rfl rfl rfl (q0 := 12) rfl (As := [.ref q2]) (rest := []) rfl rfl hl.1 (Nat.le_of_ble_eq_true rfl) dX2_push_52 ⟨Nat.zero_le _, Nat.zero_le _⟩) hP hA [12, 13, 18, 19] rfl rfl (fun H locs hP => ?_)
          have hP : PD (dC, dI) A s.heap [(q0, .inr (2, [.ref q1, .int w11])), (q1, .inl (cc 3, 8, .inr (.inr (.inr (.inr fun j => some (qa (w10 j))))))), ((qa 0), .inr (4, [.ref (qb 0), .int (CK 0), .int (CY 0)])), ((qb 0), .inl (cc 0, 50, .inl (CC 0))), ((qa 1), .inr (4, [.ref (qb 1), .int (CK 1), .int (CY 1)])), ((qb 1), .inl (cc 0, 50, .inl (CC 1))), ((qa 2), .inr (4, [.ref (qb 2), .int (CK 2), .int (CY 2)])), ((qb 2), .inl (cc 0, 50, .inl (CC 2))), ((qa 3), .inr (4, [.ref (qb 3), .int (CK 3), .int (CY 3)])), ((qb 3), .inl (cc 0, 50, .inl (CC 3))), ((qa 4), .inr (4, [.ref (qb 4), .int (CK 4), .int (CY 4)])), ((qb 4), .inl (cc 0, 50, .inl (CC 4))), ((qa 5), .inr (4, [.ref (qb 5), .int w17, .int w18])), ((qb 5), .inl (cc 0, 50, .inl w16)), ((qa 6), .inr (4, [.ref (qb 6), .int (CK 6), .int (CY 6)])), ((qb 6), .inl (cc 0, 50, .inl (CC 6))), ((qa 7), .inr (4, [.ref (qb 7), .int (CK 7), .int (CY 7)])), ((qb 7), .inl (cc 0, 50, .inl (CC 7))), (q2, .inr (4, [.ref q3, .int o1_clogs, .int o1_day])), (q3, .inl (cc 0, 50, .inl o1_cells))] H locs := hP
          have hP : PD (dC, dI) A s.heap [(q0, .inr (2, [.ref q1, .int w11])), (q1, .inl (cc 3, 8, .inr (.inr (.inr (.inr fun j => some (qa (w10 j))))))), ((qa 0), .inr (4, [.ref (qb 0), .int ((va_up CK 5 w17) 0), .int ((va_up CY 5 w18) 0)])), ((qb 0), .inl (cc 0, 50, .inl ((va_up CC 5 w16) 0))), ((qa 1), .inr (4, [.ref (qb 1), .int ((va_up CK 5 w17) 1), .int ((va_up CY 5 w18) 1)])), ((qb 1), .inl (cc 0, 50, .inl ((va_up CC 5 w16) 1))), ((qa 2), .inr (4, [.ref (qb 2), .int ((va_up CK 5 w17) 2), .int ((va_up CY 5 w18) 2)])), ((qb 2), .inl (cc 0, 50, .inl ((va_up CC 5 w16) 2))), ((qa 3), .inr (4, [.ref (qb 3), .int ((va_up CK 5 w17) 3), .int ((va_up CY 5 w18) 3)])), ((qb 3), .inl (cc 0, 50, .inl ((va_up CC 5 w16) 3))), ((qa 4), .inr (4, [.ref (qb 4), .int ((va_up CK 5 w17) 4), .int ((va_up CY 5 w18) 4)])), ((qb 4), .inl (cc 0, 50, .inl ((va_up CC 5 w16) 4))), ((qa 5), .inr (4, [.ref (qb 5), .int ((va_up CK 5 w17) 5), .int ((va_up CY 5 w18) 5)])), ((qb 5), .inl (cc 0, 50, .inl ((va_up CC 5 w16) 5))), ((qa 6), .inr (4, [.ref (qb 6), .int ((va_up CK 5 w17) 6), .int ((va_up CY 5 w18) 6)])), ((qb 6), .inl (cc 0, 50, .inl ((va_up CC 5 w16) 6))), ((qa 7), .inr (4, [.ref (qb 7), .int ((va_up CK 5 w17) 7), .int ((va_up CY 5 w18) 7)])), ((qb 7), .inl (cc 0, 50, .inl ((va_up CC 5 w16) 7))), (q2, .inr (4, [.ref q3, .int o1_clogs, .int o1_day])), (q3, .inl (cc 0, 50, .inl o1_cells))] H locs := hP
          refine lv_aload_n hx hb dX2_push_55 rfl (lv_at hl 0 rfl) ?_
          refine lv_dup hx hb dX2_push_56 rfl ?_
          refine g_get hC hP fg_X2_22 0 rfl rfl dX2_push_57 ?_
          refine lv_iconst (v := 1) hx hb dX2_push_60 (by decide) ?_
          refine lv_iadd hx hb dX2_push_61 ?_
          refine g_put hC hP fg_X2_22 0 rfl rfl rfl (Nat.le_of_ble_eq_true rfl) dX2_push_62 (fun H locs hP => ?_)
          have hP : PD (dC, dI) A s.heap [(q0, .inr (2, [.ref q1, .int (w11 + 1)])), (q1, .inl (cc 3, 8, .inr (.inr (.inr (.inr fun j => some (qa (w10 j))))))), ((qa 0), .inr (4, [.ref (qb 0), .int ((va_up CK 5 w17) 0), .int ((va_up CY 5 w18) 0)])), ((qb 0), .inl (cc 0, 50, .inl ((va_up CC 5 w16) 0))), ((qa 1), .inr (4, [.ref (qb 1), .int ((va_up CK 5 w17) 1), .int ((va_up CY 5 w18) 1)])), ((qb 1), .inl (cc 0, 50, .inl ((va_up CC 5 w16) 1))), ((qa 2), .inr (4, [.ref (qb 2), .int ((va_up CK 5 w17) 2), .int ((va_up CY 5 w18) 2)])), ((qb 2), .inl (cc 0, 50, .inl ((va_up CC 5 w16) 2))), ((qa 3), .inr (4, [.ref (qb 3), .int ((va_up CK 5 w17) 3), .int ((va_up CY 5 w18) 3)])), ((qb 3), .inl (cc 0, 50, .inl ((va_up CC 5 w16) 3))), ((qa 4), .inr (4, [.ref (qb 4), .int ((va_up CK 5 w17) 4), .int ((va_up CY 5 w18) 4)])), ((qb 4), .inl (cc 0, 50, .inl ((va_up CC 5 w16) 4))), ((qa 5), .inr (4, [.ref (qb 5), .int ((va_up CK 5 w17) 5), .int ((va_up CY 5 w18) 5)])), ((qb 5), .inl (cc 0, 50, .inl ((va_up CC 5 w16) 5))), ((qa 6), .inr (4, [.ref (qb 6), .int ((va_up CK 5 w17) 6), .int ((va_up CY 5 w18) 6)])), ((qb 6), .inl (cc 0, 50, .inl ((va_up CC 5 w16) 6))), ((qa 7), .inr (4, [.ref (qb 7), .int ((va_up CK 5 w17) 7), .int ((va_up CY 5 w18) 7)])), ((qb 7), .inl (cc 0, 50, .inl ((va_up CC 5 w16) 7))), (q2, .inr (4, [.ref q3, .int o1_clogs, .int o1_day])), (q3, .inl (cc 0, 50, .inl o1_cells))] H locs := hP
          exact ret_v hC hr hlk hP dX2_push_65 (w10, (va_up CC 5 w16), (va_up CK 5 w17), (va_up CY 5 w18), (w11 + 1)) (Option.some.inj h) rfl
        · subst e
          obtain ⟨⟨w16, w17, w18⟩, hu, h⟩ := bnd_h h
          refine kc_v (kV hC (c_X4_copy l dC dI cc (qa 6) (qb 6) q2 q3 (CK 6) (CY 6) (CC 6) o1_clogs o1_day o1_cells H.size w16 w17 w18 hu) cv_X2_33 kw372 rfl rfl ⟨(Nat.le_of_ble_eq_true rfl), (Nat.le_of_ble_eq_true rfl)⟩ hP [14, 15, 18, 19] rfl rfl rfl (q0 := 14) rfl (As := [.ref q2]) (rest := []) rfl rfl hl.1 (Nat.le_of_ble_eq_true rfl) dX2_push_52 ⟨Nat.zero_le _, Nat.zero_le _⟩) hP hA [14, 15, 18, 19] rfl rfl (fun H locs hP => ?_)
          have hP : PD (dC, dI) A s.heap [(q0, .inr (2, [.ref q1, .int w11])), (q1, .inl (cc 3, 8, .inr (.inr (.inr (.inr fun j => some (qa (w10 j))))))), ((qa 0), .inr (4, [.ref (qb 0), .int (CK 0), .int (CY 0)])), ((qb 0), .inl (cc 0, 50, .inl (CC 0))), ((qa 1), .inr (4, [.ref (qb 1), .int (CK 1), .int (CY 1)])), ((qb 1), .inl (cc 0, 50, .inl (CC 1))), ((qa 2), .inr (4, [.ref (qb 2), .int (CK 2), .int (CY 2)])), ((qb 2), .inl (cc 0, 50, .inl (CC 2))), ((qa 3), .inr (4, [.ref (qb 3), .int (CK 3), .int (CY 3)])), ((qb 3), .inl (cc 0, 50, .inl (CC 3))), ((qa 4), .inr (4, [.ref (qb 4), .int (CK 4), .int (CY 4)])), ((qb 4), .inl (cc 0, 50, .inl (CC 4))), ((qa 5), .inr (4, [.ref (qb 5), .int (CK 5), .int (CY 5)])), ((qb 5), .inl (cc 0, 50, .inl (CC 5))), ((qa 6), .inr (4, [.ref (qb 6), .int w17, .int w18])), ((qb 6), .inl (cc 0, 50, .inl w16)), ((qa 7), .inr (4, [.ref (qb 7), .int (CK 7), .int (CY 7)])), ((qb 7), .inl (cc 0, 50, .inl (CC 7))), (q2, .inr (4, [.ref q3, .int o1_clogs, .int o1_day])), (q3, .inl (cc 0, 50, .inl o1_cells))] H locs := hP
          have hP : PD (dC, dI) A s.heap [(q0, .inr (2, [.ref q1, .int w11])), (q1, .inl (cc 3, 8, .inr (.inr (.inr (.inr fun j => some (qa (w10 j))))))), ((qa 0), .inr (4, [.ref (qb 0), .int ((va_up CK 6 w17) 0), .int ((va_up CY 6 w18) 0)])), ((qb 0), .inl (cc 0, 50, .inl ((va_up CC 6 w16) 0))), ((qa 1), .inr (4, [.ref (qb 1), .int ((va_up CK 6 w17) 1), .int ((va_up CY 6 w18) 1)])), ((qb 1), .inl (cc 0, 50, .inl ((va_up CC 6 w16) 1))), ((qa 2), .inr (4, [.ref (qb 2), .int ((va_up CK 6 w17) 2), .int ((va_up CY 6 w18) 2)])), ((qb 2), .inl (cc 0, 50, .inl ((va_up CC 6 w16) 2))), ((qa 3), .inr (4, [.ref (qb 3), .int ((va_up CK 6 w17) 3), .int ((va_up CY 6 w18) 3)])), ((qb 3), .inl (cc 0, 50, .inl ((va_up CC 6 w16) 3))), ((qa 4), .inr (4, [.ref (qb 4), .int ((va_up CK 6 w17) 4), .int ((va_up CY 6 w18) 4)])), ((qb 4), .inl (cc 0, 50, .inl ((va_up CC 6 w16) 4))), ((qa 5), .inr (4, [.ref (qb 5), .int ((va_up CK 6 w17) 5), .int ((va_up CY 6 w18) 5)])), ((qb 5), .inl (cc 0, 50, .inl ((va_up CC 6 w16) 5))), ((qa 6), .inr (4, [.ref (qb 6), .int ((va_up CK 6 w17) 6), .int ((va_up CY 6 w18) 6)])), ((qb 6), .inl (cc 0, 50, .inl ((va_up CC 6 w16) 6))), ((qa 7), .inr (4, [.ref (qb 7), .int ((va_up CK 6 w17) 7), .int ((va_up CY 6 w18) 7)])), ((qb 7), .inl (cc 0, 50, .inl ((va_up CC 6 w16) 7))), (q2, .inr (4, [.ref q3, .int o1_clogs, .int o1_day])), (q3, .inl (cc 0, 50, .inl o1_cells))] H locs := hP
          refine lv_aload_n hx hb dX2_push_55 rfl (lv_at hl 0 rfl) ?_
          refine lv_dup hx hb dX2_push_56 rfl ?_
          refine g_get hC hP fg_X2_22 0 rfl rfl dX2_push_57 ?_
          refine lv_iconst (v := 1) hx hb dX2_push_60 (by decide) ?_
          refine lv_iadd hx hb dX2_push_61 ?_
          refine g_put hC hP fg_X2_22 0 rfl rfl rfl (Nat.le_of_ble_eq_true rfl) dX2_push_62 (fun H locs hP => ?_)
          have hP : PD (dC, dI) A s.heap [(q0, .inr (2, [.ref q1, .int (w11 + 1)])), (q1, .inl (cc 3, 8, .inr (.inr (.inr (.inr fun j => some (qa (w10 j))))))), ((qa 0), .inr (4, [.ref (qb 0), .int ((va_up CK 6 w17) 0), .int ((va_up CY 6 w18) 0)])), ((qb 0), .inl (cc 0, 50, .inl ((va_up CC 6 w16) 0))), ((qa 1), .inr (4, [.ref (qb 1), .int ((va_up CK 6 w17) 1), .int ((va_up CY 6 w18) 1)])), ((qb 1), .inl (cc 0, 50, .inl ((va_up CC 6 w16) 1))), ((qa 2), .inr (4, [.ref (qb 2), .int ((va_up CK 6 w17) 2), .int ((va_up CY 6 w18) 2)])), ((qb 2), .inl (cc 0, 50, .inl ((va_up CC 6 w16) 2))), ((qa 3), .inr (4, [.ref (qb 3), .int ((va_up CK 6 w17) 3), .int ((va_up CY 6 w18) 3)])), ((qb 3), .inl (cc 0, 50, .inl ((va_up CC 6 w16) 3))), ((qa 4), .inr (4, [.ref (qb 4), .int ((va_up CK 6 w17) 4), .int ((va_up CY 6 w18) 4)])), ((qb 4), .inl (cc 0, 50, .inl ((va_up CC 6 w16) 4))), ((qa 5), .inr (4, [.ref (qb 5), .int ((va_up CK 6 w17) 5), .int ((va_up CY 6 w18) 5)])), ((qb 5), .inl (cc 0, 50, .inl ((va_up CC 6 w16) 5))), ((qa 6), .inr (4, [.ref (qb 6), .int ((va_up CK 6 w17) 6), .int ((va_up CY 6 w18) 6)])), ((qb 6), .inl (cc 0, 50, .inl ((va_up CC 6 w16) 6))), ((qa 7), .inr (4, [.ref (qb 7), .int ((va_up CK 6 w17) 7), .int ((va_up CY 6 w18) 7)])), ((qb 7), .inl (cc 0, 50, .inl ((va_up CC 6 w16) 7))), (q2, .inr (4, [.ref q3, .int o1_clogs, .int o1_day])), (q3, .inl (cc 0, 50, .inl o1_cells))] H locs := hP
          exact ret_v hC hr hlk hP dX2_push_65 (w10, (va_up CC 6 w16), (va_up CK 6 w17), (va_up CY 6 w18), (w11 + 1)) (Option.some.inj h) rfl
        · subst e
          obtain ⟨⟨w16, w17, w18⟩, hu, h⟩ := bnd_h h
          refine kc_v (kV hC (c_X4_copy l dC dI cc (qa 7) (qb 7) q2 q3 (CK 7) (CY 7) (CC 7) o1_clogs o1_day o1_cells H.size w16 w17 w18 hu) cv_X2_33 kw372 rfl rfl ⟨(Nat.le_of_ble_eq_true rfl), (Nat.le_of_ble_eq_true rfl)⟩ hP [16, 17, 18, 19] rfl rfl rfl (q0 := 16) rfl (As := [.ref q2]) (rest := []) rfl rfl hl.1 (Nat.le_of_ble_eq_true rfl) dX2_push_52 ⟨Nat.zero_le _, Nat.zero_le _⟩) hP hA [16, 17, 18, 19] rfl rfl (fun H locs hP => ?_)
          have hP : PD (dC, dI) A s.heap [(q0, .inr (2, [.ref q1, .int w11])), (q1, .inl (cc 3, 8, .inr (.inr (.inr (.inr fun j => some (qa (w10 j))))))), ((qa 0), .inr (4, [.ref (qb 0), .int (CK 0), .int (CY 0)])), ((qb 0), .inl (cc 0, 50, .inl (CC 0))), ((qa 1), .inr (4, [.ref (qb 1), .int (CK 1), .int (CY 1)])), ((qb 1), .inl (cc 0, 50, .inl (CC 1))), ((qa 2), .inr (4, [.ref (qb 2), .int (CK 2), .int (CY 2)])), ((qb 2), .inl (cc 0, 50, .inl (CC 2))), ((qa 3), .inr (4, [.ref (qb 3), .int (CK 3), .int (CY 3)])), ((qb 3), .inl (cc 0, 50, .inl (CC 3))), ((qa 4), .inr (4, [.ref (qb 4), .int (CK 4), .int (CY 4)])), ((qb 4), .inl (cc 0, 50, .inl (CC 4))), ((qa 5), .inr (4, [.ref (qb 5), .int (CK 5), .int (CY 5)])), ((qb 5), .inl (cc 0, 50, .inl (CC 5))), ((qa 6), .inr (4, [.ref (qb 6), .int (CK 6), .int (CY 6)])), ((qb 6), .inl (cc 0, 50, .inl (CC 6))), ((qa 7), .inr (4, [.ref (qb 7), .int w17, .int w18])), ((qb 7), .inl (cc 0, 50, .inl w16)), (q2, .inr (4, [.ref q3, .int o1_clogs, .int o1_day])), (q3, .inl (cc 0, 50, .inl o1_cells))] H locs := hP
          have hP : PD (dC, dI) A s.heap [(q0, .inr (2, [.ref q1, .int w11])), (q1, .inl (cc 3, 8, .inr (.inr (.inr (.inr fun j => some (qa (w10 j))))))), ((qa 0), .inr (4, [.ref (qb 0), .int ((va_up CK 7 w17) 0), .int ((va_up CY 7 w18) 0)])), ((qb 0), .inl (cc 0, 50, .inl ((va_up CC 7 w16) 0))), ((qa 1), .inr (4, [.ref (qb 1), .int ((va_up CK 7 w17) 1), .int ((va_up CY 7 w18) 1)])), ((qb 1), .inl (cc 0, 50, .inl ((va_up CC 7 w16) 1))), ((qa 2), .inr (4, [.ref (qb 2), .int ((va_up CK 7 w17) 2), .int ((va_up CY 7 w18) 2)])), ((qb 2), .inl (cc 0, 50, .inl ((va_up CC 7 w16) 2))), ((qa 3), .inr (4, [.ref (qb 3), .int ((va_up CK 7 w17) 3), .int ((va_up CY 7 w18) 3)])), ((qb 3), .inl (cc 0, 50, .inl ((va_up CC 7 w16) 3))), ((qa 4), .inr (4, [.ref (qb 4), .int ((va_up CK 7 w17) 4), .int ((va_up CY 7 w18) 4)])), ((qb 4), .inl (cc 0, 50, .inl ((va_up CC 7 w16) 4))), ((qa 5), .inr (4, [.ref (qb 5), .int ((va_up CK 7 w17) 5), .int ((va_up CY 7 w18) 5)])), ((qb 5), .inl (cc 0, 50, .inl ((va_up CC 7 w16) 5))), ((qa 6), .inr (4, [.ref (qb 6), .int ((va_up CK 7 w17) 6), .int ((va_up CY 7 w18) 6)])), ((qb 6), .inl (cc 0, 50, .inl ((va_up CC 7 w16) 6))), ((qa 7), .inr (4, [.ref (qb 7), .int ((va_up CK 7 w17) 7), .int ((va_up CY 7 w18) 7)])), ((qb 7), .inl (cc 0, 50, .inl ((va_up CC 7 w16) 7))), (q2, .inr (4, [.ref q3, .int o1_clogs, .int o1_day])), (q3, .inl (cc 0, 50, .inl o1_cells))] H locs := hP
          refine lv_aload_n hx hb dX2_push_55 rfl (lv_at hl 0 rfl) ?_
          refine lv_dup hx hb dX2_push_56 rfl ?_
          refine g_get hC hP fg_X2_22 0 rfl rfl dX2_push_57 ?_
          refine lv_iconst (v := 1) hx hb dX2_push_60 (by decide) ?_
          refine lv_iadd hx hb dX2_push_61 ?_
          refine g_put hC hP fg_X2_22 0 rfl rfl rfl (Nat.le_of_ble_eq_true rfl) dX2_push_62 (fun H locs hP => ?_)
          have hP : PD (dC, dI) A s.heap [(q0, .inr (2, [.ref q1, .int (w11 + 1)])), (q1, .inl (cc 3, 8, .inr (.inr (.inr (.inr fun j => some (qa (w10 j))))))), ((qa 0), .inr (4, [.ref (qb 0), .int ((va_up CK 7 w17) 0), .int ((va_up CY 7 w18) 0)])), ((qb 0), .inl (cc 0, 50, .inl ((va_up CC 7 w16) 0))), ((qa 1), .inr (4, [.ref (qb 1), .int ((va_up CK 7 w17) 1), .int ((va_up CY 7 w18) 1)])), ((qb 1), .inl (cc 0, 50, .inl ((va_up CC 7 w16) 1))), ((qa 2), .inr (4, [.ref (qb 2), .int ((va_up CK 7 w17) 2), .int ((va_up CY 7 w18) 2)])), ((qb 2), .inl (cc 0, 50, .inl ((va_up CC 7 w16) 2))), ((qa 3), .inr (4, [.ref (qb 3), .int ((va_up CK 7 w17) 3), .int ((va_up CY 7 w18) 3)])), ((qb 3), .inl (cc 0, 50, .inl ((va_up CC 7 w16) 3))), ((qa 4), .inr (4, [.ref (qb 4), .int ((va_up CK 7 w17) 4), .int ((va_up CY 7 w18) 4)])), ((qb 4), .inl (cc 0, 50, .inl ((va_up CC 7 w16) 4))), ((qa 5), .inr (4, [.ref (qb 5), .int ((va_up CK 7 w17) 5), .int ((va_up CY 7 w18) 5)])), ((qb 5), .inl (cc 0, 50, .inl ((va_up CC 7 w16) 5))), ((qa 6), .inr (4, [.ref (qb 6), .int ((va_up CK 7 w17) 6), .int ((va_up CY 7 w18) 6)])), ((qb 6), .inl (cc 0, 50, .inl ((va_up CC 7 w16) 6))), ((qa 7), .inr (4, [.ref (qb 7), .int ((va_up CK 7 w17) 7), .int ((va_up CY 7 w18) 7)])), ((qb 7), .inl (cc 0, 50, .inl ((va_up CC 7 w16) 7))), (q2, .inr (4, [.ref q3, .int o1_clogs, .int o1_day])), (q3, .inl (cc 0, 50, .inl o1_cells))] H locs := hP
          exact ret_v hC hr hlk hP dX2_push_65 (w10, (va_up CC 7 w16), (va_up CK 7 w17), (va_up CY 7 w18), (w11 + 1)) (Option.some.inj h) rfl
set_option maxHeartbeats 8000000 in
set_option maxRecDepth 100000 in
theorem c_X2_popInto_8 (l : Launch) (dC : Nat → ClassId) (dI : Nat → Nat → Nat) (cc : Nat → ClassId) (q0 q1 q2 q3 : Nat) (qa qb : Nat → Nat) (height : Int32) (pp : (Nat → Nat)) (CC : (Nat → Nat → Int32)) (CK : (Nat → Int32)) (CY : (Nat → Int32)) (o1_clogs : Int32) (o1_day : Int32) (o1_cells : (Nat → Int32)) (sz : Nat) (ret : Int32) (o_height : Int32) (o_o1_cells : (Nat → Int32)) (o_o1_clogs : Int32) (o_o1_day : Int32) (hu : f_X2_popInto_8 height pp CC CK CY o1_clogs o1_day o1_cells = some (ret, o_height, o_o1_cells, o_o1_clogs, o_o1_day)) : Met l yX2_popInto (mw yX2_popInto cX2_popInto 2 (some .boolean)) ({ frames := 3, cells := 0, slots := 0, locals := 82 } : Room) (va_Pc [.ref q0, .ref q2] (mP (dC, dI) (ts cc) sz [(q0, .inr (2, [.ref q1, .int height])), (q1, .inl (cc 3, 8, .inr (.inr (.inr (.inr fun j => some (qa (pp j))))))), ((qa 0), .inr (4, [.ref (qb 0), .int (CK 0), .int (CY 0)])), ((qb 0), .inl (cc 0, 50, .inl (CC 0))), ((qa 1), .inr (4, [.ref (qb 1), .int (CK 1), .int (CY 1)])), ((qb 1), .inl (cc 0, 50, .inl (CC 1))), ((qa 2), .inr (4, [.ref (qb 2), .int (CK 2), .int (CY 2)])), ((qb 2), .inl (cc 0, 50, .inl (CC 2))), ((qa 3), .inr (4, [.ref (qb 3), .int (CK 3), .int (CY 3)])), ((qb 3), .inl (cc 0, 50, .inl (CC 3))), ((qa 4), .inr (4, [.ref (qb 4), .int (CK 4), .int (CY 4)])), ((qb 4), .inl (cc 0, 50, .inl (CC 4))), ((qa 5), .inr (4, [.ref (qb 5), .int (CK 5), .int (CY 5)])), ((qb 5), .inl (cc 0, 50, .inl (CC 5))), ((qa 6), .inr (4, [.ref (qb 6), .int (CK 6), .int (CY 6)])), ((qb 6), .inl (cc 0, 50, .inl (CC 6))), ((qa 7), .inr (4, [.ref (qb 7), .int (CK 7), .int (CY 7)])), ((qb 7), .inl (cc 0, 50, .inl (CC 7))), (q2, .inr (4, [.ref q3, .int o1_clogs, .int o1_day])), (q3, .inl (cc 0, 50, .inl o1_cells))])) ((fun A => va_Qi (fun (r : Int32) (w : Int32 × (Nat → Int32) × Int32 × Int32) => narrow .boolean (.int r) = .int r ∧ (r = ret ∧ w = (o_height, o_o1_cells, o_o1_clogs, o_o1_day))) (fun (w : Int32 × (Nat → Int32) × Int32 × Int32) t => va_P (dC, dI) classes [(q0, .inr (2, [.ref q1, .int w.1])), (q1, .inl (cc 3, 8, .inr (.inr (.inr (.inr fun j => some (qa (pp j))))))), ((qa 0), .inr (4, [.ref (qb 0), .int (CK 0), .int (CY 0)])), ((qb 0), .inl (cc 0, 50, .inl (CC 0))), ((qa 1), .inr (4, [.ref (qb 1), .int (CK 1), .int (CY 1)])), ((qb 1), .inl (cc 0, 50, .inl (CC 1))), ((qa 2), .inr (4, [.ref (qb 2), .int (CK 2), .int (CY 2)])), ((qb 2), .inl (cc 0, 50, .inl (CC 2))), ((qa 3), .inr (4, [.ref (qb 3), .int (CK 3), .int (CY 3)])), ((qb 3), .inl (cc 0, 50, .inl (CC 3))), ((qa 4), .inr (4, [.ref (qb 4), .int (CK 4), .int (CY 4)])), ((qb 4), .inl (cc 0, 50, .inl (CC 4))), ((qa 5), .inr (4, [.ref (qb 5), .int (CK 5), .int (CY 5)])), ((qb 5), .inl (cc 0, 50, .inl (CC 5))), ((qa 6), .inr (4, [.ref (qb 6), .int (CK 6), .int (CY 6)])), ((qb 6), .inl (cc 0, 50, .inl (CC 6))), ((qa 7), .inr (4, [.ref (qb 7), .int (CK 7), .int (CY 7)])), ((qb 7), .inl (cc 0, 50, .inl (CC 7))), (q2, .inr (4, [.ref q3, .int w.2.2.1, .int w.2.2.2])), (q3, .inl (cc 0, 50, .inl w.2.1))] t.heap) A) (va_A [(q0, .inr (2, [.ref q1, .int height])), (q1, .inl (cc 3, 8, .inr (.inr (.inr (.inr fun j => some (qa (pp j))))))), ((qa 0), .inr (4, [.ref (qb 0), .int (CK 0), .int (CY 0)])), ((qb 0), .inl (cc 0, 50, .inl (CC 0))), ((qa 1), .inr (4, [.ref (qb 1), .int (CK 1), .int (CY 1)])), ((qb 1), .inl (cc 0, 50, .inl (CC 1))), ((qa 2), .inr (4, [.ref (qb 2), .int (CK 2), .int (CY 2)])), ((qb 2), .inl (cc 0, 50, .inl (CC 2))), ((qa 3), .inr (4, [.ref (qb 3), .int (CK 3), .int (CY 3)])), ((qb 3), .inl (cc 0, 50, .inl (CC 3))), ((qa 4), .inr (4, [.ref (qb 4), .int (CK 4), .int (CY 4)])), ((qb 4), .inl (cc 0, 50, .inl (CC 4))), ((qa 5), .inr (4, [.ref (qb 5), .int (CK 5), .int (CY 5)])), ((qb 5), .inl (cc 0, 50, .inl (CC 5))), ((qa 6), .inr (4, [.ref (qb 6), .int (CK 6), .int (CY 6)])), ((qb 6), .inl (cc 0, 50, .inl (CC 6))), ((qa 7), .inr (4, [.ref (qb 7), .int (CK 7), .int (CY 7)])), ((qb 7), .inl (cc 0, 50, .inl (CC 7))), (q2, .inr (4, [.ref q3, .int o1_clogs, .int o1_day])), (q3, .inl (cc 0, 50, .inl o1_cells))] sz)) 0 0 (va_A [(q0, .inr (2, [.ref q1, .int height])), (q1, .inl (cc 3, 8, .inr (.inr (.inr (.inr fun j => some (qa (pp j))))))), ((qa 0), .inr (4, [.ref (qb 0), .int (CK 0), .int (CY 0)])), ((qb 0), .inl (cc 0, 50, .inl (CC 0))), ((qa 1), .inr (4, [.ref (qb 1), .int (CK 1), .int (CY 1)])), ((qb 1), .inl (cc 0, 50, .inl (CC 1))), ((qa 2), .inr (4, [.ref (qb 2), .int (CK 2), .int (CY 2)])), ((qb 2), .inl (cc 0, 50, .inl (CC 2))), ((qa 3), .inr (4, [.ref (qb 3), .int (CK 3), .int (CY 3)])), ((qb 3), .inl (cc 0, 50, .inl (CC 3))), ((qa 4), .inr (4, [.ref (qb 4), .int (CK 4), .int (CY 4)])), ((qb 4), .inl (cc 0, 50, .inl (CC 4))), ((qa 5), .inr (4, [.ref (qb 5), .int (CK 5), .int (CY 5)])), ((qb 5), .inl (cc 0, 50, .inl (CC 5))), ((qa 6), .inr (4, [.ref (qb 6), .int (CK 6), .int (CY 6)])), ((qb 6), .inl (cc 0, 50, .inl (CC 6))), ((qa 7), .inr (4, [.ref (qb 7), .int (CK 7), .int (CY 7)])), ((qb 7), .inl (cc 0, 50, .inl (CC 7))), (q2, .inr (4, [.ref q3, .int o1_clogs, .int o1_day])), (q3, .inl (cc 0, 50, .inl o1_cells))] sz) := by
  refine met_go (Qc := fun A => va_Qi (fun (r : Int32) (w : Int32 × (Nat → Int32) × Int32 × Int32) => narrow .boolean (.int r) = .int r ∧ (r = ret ∧ w = (o_height, o_o1_cells, o_o1_clogs, o_o1_day))) (fun (w : Int32 × (Nat → Int32) × Int32 × Int32) t => va_P (dC, dI) classes [(q0, .inr (2, [.ref q1, .int w.1])), (q1, .inl (cc 3, 8, .inr (.inr (.inr (.inr fun j => some (qa (pp j))))))), ((qa 0), .inr (4, [.ref (qb 0), .int (CK 0), .int (CY 0)])), ((qb 0), .inl (cc 0, 50, .inl (CC 0))), ((qa 1), .inr (4, [.ref (qb 1), .int (CK 1), .int (CY 1)])), ((qb 1), .inl (cc 0, 50, .inl (CC 1))), ((qa 2), .inr (4, [.ref (qb 2), .int (CK 2), .int (CY 2)])), ((qb 2), .inl (cc 0, 50, .inl (CC 2))), ((qa 3), .inr (4, [.ref (qb 3), .int (CK 3), .int (CY 3)])), ((qb 3), .inl (cc 0, 50, .inl (CC 3))), ((qa 4), .inr (4, [.ref (qb 4), .int (CK 4), .int (CY 4)])), ((qb 4), .inl (cc 0, 50, .inl (CC 4))), ((qa 5), .inr (4, [.ref (qb 5), .int (CK 5), .int (CY 5)])), ((qb 5), .inl (cc 0, 50, .inl (CC 5))), ((qa 6), .inr (4, [.ref (qb 6), .int (CK 6), .int (CY 6)])), ((qb 6), .inl (cc 0, 50, .inl (CC 6))), ((qa 7), .inr (4, [.ref (qb 7), .int (CK 7), .int (CY 7)])), ((qb 7), .inl (cc 0, 50, .inl (CC 7))), (q2, .inr (4, [.ref q3, .int w.2.2.1, .int w.2.2.2])), (q3, .inl (cc 0, 50, .inl w.2.1))] t.heap) A) (by decide) (Nat.le_of_ble_eq_true rfl) ?_
  intro p e s m below meth c A ls H locs hC hr hlk hin hA hP hl _
  have hC : CX p m c cX2_popInto 2 s ([.ref q0, .ref q2] : List Value).toArray RX2 (dC, dI) (ts cc) := hC
  have hx := hC.1.1
  have hb := hC.1.2
  have h := hu
  have hu0 := hu
  unfold f_X2_popInto_8 at h
  have hl : lv_has ls 2 [(0, .ref q0), (1, .ref q2)] := hl
  refine lv_aload_n hx hb dX2_popInto_0 rfl (lv_at hl 1 rfl) ?_
  refine lv_ifnull hx hb dX2_popInto_1 ?_
  refine lv_aload_n hx hb dX2_popInto_4 rfl (lv_at hl 0 rfl) ?_
  refine g_get hC hP fg_X2_22 0 rfl rfl dX2_popInto_5 ?_
  refine lv_if_le (tgt := 23) hx hb dX2_popInto_8 (by decide) (fun c1 => ?_) (fun c1 => ?_)
  · have h := if_t c1 h
    refine lv_iconst (v := 0) hx hb dX2_popInto_23 (by decide) ?_
    exact ret_z hC hr rfl hlk hP dX2_popInto_24 (height, o1_cells, o1_clogs, o1_day) (Prod.mk.inj (Option.some.inj h)) rfl
  · have h := if_f c1 h
    refine lv_aload_n hx hb dX2_popInto_11 rfl (lv_at hl 0 rfl) ?_
    refine g_get hC hP fg_X2_22 0 rfl rfl dX2_popInto_12 ?_
    refine lv_aload_n hx hb dX2_popInto_15 rfl (lv_at hl 0 rfl) ?_
    refine g_get hC hP fg_X2_15 0 rfl rfl dX2_popInto_16 ?_
    refine g_alen hC hP 1 3 rfl rfl (v := 8) rfl dX2_popInto_19 ?_
    refine lv_icmp_le (tgt := 25) hx hb dX2_popInto_20 (by decide) (fun c2 => ?_) (fun c2 => ?_)
    · have h := if_t c2 h
      refine lv_aload_n hx hb dX2_popInto_25 rfl (lv_at hl 0 rfl) ?_
      refine lv_dup hx hb dX2_popInto_26 rfl ?_
      refine g_get hC hP fg_X2_22 0 rfl rfl dX2_popInto_27 ?_
      refine lv_iconst (v := 1) hx hb dX2_popInto_30 (by decide) ?_
      refine lv_isub hx hb dX2_popInto_31 ?_
      refine g_put hC hP fg_X2_22 0 rfl rfl rfl (Nat.le_of_ble_eq_true rfl) dX2_popInto_32 (fun H locs hP => ?_)
      have hP : PD (dC, dI) A s.heap [(q0, .inr (2, [.ref q1, .int (height - 1)])), (q1, .inl (cc 3, 8, .inr (.inr (.inr (.inr fun j => some (qa (pp j))))))), ((qa 0), .inr (4, [.ref (qb 0), .int (CK 0), .int (CY 0)])), ((qb 0), .inl (cc 0, 50, .inl (CC 0))), ((qa 1), .inr (4, [.ref (qb 1), .int (CK 1), .int (CY 1)])), ((qb 1), .inl (cc 0, 50, .inl (CC 1))), ((qa 2), .inr (4, [.ref (qb 2), .int (CK 2), .int (CY 2)])), ((qb 2), .inl (cc 0, 50, .inl (CC 2))), ((qa 3), .inr (4, [.ref (qb 3), .int (CK 3), .int (CY 3)])), ((qb 3), .inl (cc 0, 50, .inl (CC 3))), ((qa 4), .inr (4, [.ref (qb 4), .int (CK 4), .int (CY 4)])), ((qb 4), .inl (cc 0, 50, .inl (CC 4))), ((qa 5), .inr (4, [.ref (qb 5), .int (CK 5), .int (CY 5)])), ((qb 5), .inl (cc 0, 50, .inl (CC 5))), ((qa 6), .inr (4, [.ref (qb 6), .int (CK 6), .int (CY 6)])), ((qb 6), .inl (cc 0, 50, .inl (CC 6))), ((qa 7), .inr (4, [.ref (qb 7), .int (CK 7), .int (CY 7)])), ((qb 7), .inl (cc 0, 50, .inl (CC 7))), (q2, .inr (4, [.ref q3, .int o1_clogs, .int o1_day])), (q3, .inl (cc 0, 50, .inl o1_cells))] H locs := hP
      refine lv_aload_n hx hb dX2_popInto_35 rfl (lv_at hl 1 rfl) ?_
      refine lv_aload_n hx hb dX2_popInto_36 rfl (lv_at hl 0 rfl) ?_
      refine g_get hC hP fg_X2_15 0 rfl rfl dX2_popInto_37 ?_
      refine lv_aload_n hx hb dX2_popInto_40 rfl (lv_at hl 0 rfl) ?_
      refine g_get hC hP fg_X2_22 0 rfl rfl dX2_popInto_41 ?_
      obtain ⟨hin, hkN, h⟩ := rdp_h h
      refine g_aaldP hC hP 1 3 rfl rfl hin dX2_popInto_44 (fun k3 ek => ?_)
      have h := h k3 ek
      have hN_k3 : k3 < 8 := by rw [ek]; exact hkN
      rcases lt8 hN_k3 with e | e | e | e | e | e | e | e
      · subst e
        obtain ⟨⟨w4, w5, w6⟩, hu, h⟩ := bnd_h h
        refine kc_v (kV hC (c_X4_copy l dC dI cc q2 q3 (qa 0) (qb 0) o1_clogs o1_day o1_cells (CK 0) (CY 0) (CC 0) H.size w4 w5 w6 hu) cv_X2_33 kw372 rfl rfl ⟨(Nat.le_of_ble_eq_true rfl), (Nat.le_of_ble_eq_true rfl)⟩ hP [18, 19, 2, 3] rfl rfl rfl (q0 := 18) rfl (As := [.ref (qa 0)]) (rest := []) rfl rfl hl.1 (Nat.le_of_ble_eq_true rfl) dX2_popInto_45 ⟨Nat.zero_le _, Nat.zero_le _⟩) hP hA [18, 19, 2, 3] rfl rfl (fun H locs hP => ?_)
        have hP : PD (dC, dI) A s.heap [(q0, .inr (2, [.ref q1, .int (height - 1)])), (q1, .inl (cc 3, 8, .inr (.inr (.inr (.inr fun j => some (qa (pp j))))))), ((qa 0), .inr (4, [.ref (qb 0), .int (CK 0), .int (CY 0)])), ((qb 0), .inl (cc 0, 50, .inl (CC 0))), ((qa 1), .inr (4, [.ref (qb 1), .int (CK 1), .int (CY 1)])), ((qb 1), .inl (cc 0, 50, .inl (CC 1))), ((qa 2), .inr (4, [.ref (qb 2), .int (CK 2), .int (CY 2)])), ((qb 2), .inl (cc 0, 50, .inl (CC 2))), ((qa 3), .inr (4, [.ref (qb 3), .int (CK 3), .int (CY 3)])), ((qb 3), .inl (cc 0, 50, .inl (CC 3))), ((qa 4), .inr (4, [.ref (qb 4), .int (CK 4), .int (CY 4)])), ((qb 4), .inl (cc 0, 50, .inl (CC 4))), ((qa 5), .inr (4, [.ref (qb 5), .int (CK 5), .int (CY 5)])), ((qb 5), .inl (cc 0, 50, .inl (CC 5))), ((qa 6), .inr (4, [.ref (qb 6), .int (CK 6), .int (CY 6)])), ((qb 6), .inl (cc 0, 50, .inl (CC 6))), ((qa 7), .inr (4, [.ref (qb 7), .int (CK 7), .int (CY 7)])), ((qb 7), .inl (cc 0, 50, .inl (CC 7))), (q2, .inr (4, [.ref q3, .int w5, .int w6])), (q3, .inl (cc 0, 50, .inl w4))] H locs := hP
        have hP : PD (dC, dI) A s.heap [(q0, .inr (2, [.ref q1, .int (height - 1)])), (q1, .inl (cc 3, 8, .inr (.inr (.inr (.inr fun j => some (qa (pp j))))))), ((qa 0), .inr (4, [.ref (qb 0), .int (CK 0), .int (CY 0)])), ((qb 0), .inl (cc 0, 50, .inl (CC 0))), ((qa 1), .inr (4, [.ref (qb 1), .int (CK 1), .int (CY 1)])), ((qb 1), .inl (cc 0, 50, .inl (CC 1))), ((qa 2), .inr (4, [.ref (qb 2), .int (CK 2), .int (CY 2)])), ((qb 2), .inl (cc 0, 50, .inl (CC 2))), ((qa 3), .inr (4, [.ref (qb 3), .int (CK 3), .int (CY 3)])), ((qb 3), .inl (cc 0, 50, .inl (CC 3))), ((qa 4), .inr (4, [.ref (qb 4), .int (CK 4), .int (CY 4)])), ((qb 4), .inl (cc 0, 50, .inl (CC 4))), ((qa 5), .inr (4, [.ref (qb 5), .int (CK 5), .int (CY 5)])), ((qb 5), .inl (cc 0, 50, .inl (CC 5))), ((qa 6), .inr (4, [.ref (qb 6), .int (CK 6), .int (CY 6)])), ((qb 6), .inl (cc 0, 50, .inl (CC 6))), ((qa 7), .inr (4, [.ref (qb 7), .int (CK 7), .int (CY 7)])), ((qb 7), .inl (cc 0, 50, .inl (CC 7))), (q2, .inr (4, [.ref q3, .int w5, .int w6])), (q3, .inl (cc 0, 50, .inl w4))] H locs := hP
        refine lv_iconst (v := 1) hx hb dX2_popInto_48 (by decide) ?_
        exact ret_z hC hr rfl hlk hP dX2_popInto_49 ((height - 1), w4, w5, w6) (Prod.mk.inj (Option.some.inj h)) rfl
      · subst e
        obtain ⟨⟨w4, w5, w6⟩, hu, h⟩ := bnd_h h
        refine kc_v (kV hC (c_X4_copy l dC dI cc q2 q3 (qa 1) (qb 1) o1_clogs o1_day o1_cells (CK 1) (CY 1) (CC 1) H.size w4 w5 w6 hu) cv_X2_33 kw372 rfl rfl ⟨(Nat.le_of_ble_eq_true rfl), (Nat.le_of_ble_eq_true rfl)⟩ hP [18, 19, 4, 5] rfl rfl rfl (q0 := 18) rfl (As := [.ref (qa 1)]) (rest := []) rfl rfl hl.1 (Nat.le_of_ble_eq_true rfl) dX2_popInto_45 ⟨Nat.zero_le _, Nat.zero_le _⟩) hP hA [18, 19, 4, 5] rfl rfl (fun H locs hP => ?_)
        have hP : PD (dC, dI) A s.heap [(q0, .inr (2, [.ref q1, .int (height - 1)])), (q1, .inl (cc 3, 8, .inr (.inr (.inr (.inr fun j => some (qa (pp j))))))), ((qa 0), .inr (4, [.ref (qb 0), .int (CK 0), .int (CY 0)])), ((qb 0), .inl (cc 0, 50, .inl (CC 0))), ((qa 1), .inr (4, [.ref (qb 1), .int (CK 1), .int (CY 1)])), ((qb 1), .inl (cc 0, 50, .inl (CC 1))), ((qa 2), .inr (4, [.ref (qb 2), .int (CK 2), .int (CY 2)])), ((qb 2), .inl (cc 0, 50, .inl (CC 2))), ((qa 3), .inr (4, [.ref (qb 3), .int (CK 3), .int (CY 3)])), ((qb 3), .inl (cc 0, 50, .inl (CC 3))), ((qa 4), .inr (4, [.ref (qb 4), .int (CK 4), .int (CY 4)])), ((qb 4), .inl (cc 0, 50, .inl (CC 4))), ((qa 5), .inr (4, [.ref (qb 5), .int (CK 5), .int (CY 5)])), ((qb 5), .inl (cc 0, 50, .inl (CC 5))), ((qa 6), .inr (4, [.ref (qb 6), .int (CK 6), .int (CY 6)])), ((qb 6), .inl (cc 0, 50, .inl (CC 6))), ((qa 7), .inr (4, [.ref (qb 7), .int (CK 7), .int (CY 7)])), ((qb 7), .inl (cc 0, 50, .inl (CC 7))), (q2, .inr (4, [.ref q3, .int w5, .int w6])), (q3, .inl (cc 0, 50, .inl w4))] H locs := hP
        have hP : PD (dC, dI) A s.heap [(q0, .inr (2, [.ref q1, .int (height - 1)])), (q1, .inl (cc 3, 8, .inr (.inr (.inr (.inr fun j => some (qa (pp j))))))), ((qa 0), .inr (4, [.ref (qb 0), .int (CK 0), .int (CY 0)])), ((qb 0), .inl (cc 0, 50, .inl (CC 0))), ((qa 1), .inr (4, [.ref (qb 1), .int (CK 1), .int (CY 1)])), ((qb 1), .inl (cc 0, 50, .inl (CC 1))), ((qa 2), .inr (4, [.ref (qb 2), .int (CK 2), .int (CY 2)])), ((qb 2), .inl (cc 0, 50, .inl (CC 2))), ((qa 3), .inr (4, [.ref (qb 3), .int (CK 3), .int (CY 3)])), ((qb 3), .inl (cc 0, 50, .inl (CC 3))), ((qa 4), .inr (4, [.ref (qb 4), .int (CK 4), .int (CY 4)])), ((qb 4), .inl (cc 0, 50, .inl (CC 4))), ((qa 5), .inr (4, [.ref (qb 5), .int (CK 5), .int (CY 5)])), ((qb 5), .inl (cc 0, 50, .inl (CC 5))), ((qa 6), .inr (4, [.ref (qb 6), .int (CK 6), .int (CY 6)])), ((qb 6), .inl (cc 0, 50, .inl (CC 6))), ((qa 7), .inr (4, [.ref (qb 7), .int (CK 7), .int (CY 7)])), ((qb 7), .inl (cc 0, 50, .inl (CC 7))), (q2, .inr (4, [.ref q3, .int w5, .int w6])), (q3, .inl (cc 0, 50, .inl w4))] H locs := hP
        refine lv_iconst (v := 1) hx hb dX2_popInto_48 (by decide) ?_
        exact ret_z hC hr rfl hlk hP dX2_popInto_49 ((height - 1), w4, w5, w6) (Prod.mk.inj (Option.some.inj h)) rfl
      · subst e
        obtain ⟨⟨w4, w5, w6⟩, hu, h⟩ := bnd_h h
        refine kc_v (kV hC (c_X4_copy l dC dI cc q2 q3 (qa 2) (qb 2) o1_clogs o1_day o1_cells (CK 2) (CY 2) (CC 2) H.size w4 w5 w6 hu) cv_X2_33 kw372 rfl rfl ⟨(Nat.le_of_ble_eq_true rfl), (Nat.le_of_ble_eq_true rfl)⟩ hP [18, 19, 6, 7] rfl rfl rfl (q0 := 18) rfl (As := [.ref (qa 2)]) (rest := []) rfl rfl hl.1 (Nat.le_of_ble_eq_true rfl) dX2_popInto_45 ⟨Nat.zero_le _, Nat.zero_le _⟩) hP hA [18, 19, 6, 7] rfl rfl (fun H locs hP => ?_)
        have hP : PD (dC, dI) A s.heap [(q0, .inr (2, [.ref q1, .int (height - 1)])), (q1, .inl (cc 3, 8, .inr (.inr (.inr (.inr fun j => some (qa (pp j))))))), ((qa 0), .inr (4, [.ref (qb 0), .int (CK 0), .int (CY 0)])), ((qb 0), .inl (cc 0, 50, .inl (CC 0))), ((qa 1), .inr (4, [.ref (qb 1), .int (CK 1), .int (CY 1)])), ((qb 1), .inl (cc 0, 50, .inl (CC 1))), ((qa 2), .inr (4, [.ref (qb 2), .int (CK 2), .int (CY 2)])), ((qb 2), .inl (cc 0, 50, .inl (CC 2))), ((qa 3), .inr (4, [.ref (qb 3), .int (CK 3), .int (CY 3)])), ((qb 3), .inl (cc 0, 50, .inl (CC 3))), ((qa 4), .inr (4, [.ref (qb 4), .int (CK 4), .int (CY 4)])), ((qb 4), .inl (cc 0, 50, .inl (CC 4))), ((qa 5), .inr (4, [.ref (qb 5), .int (CK 5), .int (CY 5)])), ((qb 5), .inl (cc 0, 50, .inl (CC 5))), ((qa 6), .inr (4, [.ref (qb 6), .int (CK 6), .int (CY 6)])), ((qb 6), .inl (cc 0, 50, .inl (CC 6))), ((qa 7), .inr (4, [.ref (qb 7), .int (CK 7), .int (CY 7)])), ((qb 7), .inl (cc 0, 50, .inl (CC 7))), (q2, .inr (4, [.ref q3, .int w5, .int w6])), (q3, .inl (cc 0, 50, .inl w4))] H locs := hP
        have hP : PD (dC, dI) A s.heap [(q0, .inr (2, [.ref q1, .int (height - 1)])), (q1, .inl (cc 3, 8, .inr (.inr (.inr (.inr fun j => some (qa (pp j))))))), ((qa 0), .inr (4, [.ref (qb 0), .int (CK 0), .int (CY 0)])), ((qb 0), .inl (cc 0, 50, .inl (CC 0))), ((qa 1), .inr (4, [.ref (qb 1), .int (CK 1), .int (CY 1)])), ((qb 1), .inl (cc 0, 50, .inl (CC 1))), ((qa 2), .inr (4, [.ref (qb 2), .int (CK 2), .int (CY 2)])), ((qb 2), .inl (cc 0, 50, .inl (CC 2))), ((qa 3), .inr (4, [.ref (qb 3), .int (CK 3), .int (CY 3)])), ((qb 3), .inl (cc 0, 50, .inl (CC 3))), ((qa 4), .inr (4, [.ref (qb 4), .int (CK 4), .int (CY 4)])), ((qb 4), .inl (cc 0, 50, .inl (CC 4))), ((qa 5), .inr (4, [.ref (qb 5), .int (CK 5), .int (CY 5)])), ((qb 5), .inl (cc 0, 50, .inl (CC 5))), ((qa 6), .inr (4, [.ref (qb 6), .int (CK 6), .int (CY 6)])), ((qb 6), .inl (cc 0, 50, .inl (CC 6))), ((qa 7), .inr (4, [.ref (qb 7), .int (CK 7), .int (CY 7)])), ((qb 7), .inl (cc 0, 50, .inl (CC 7))), (q2, .inr (4, [.ref q3, .int w5, .int w6])), (q3, .inl (cc 0, 50, .inl w4))] H locs := hP
        refine lv_iconst (v := 1) hx hb dX2_popInto_48 (by decide) ?_
        exact ret_z hC hr rfl hlk hP dX2_popInto_49 ((height - 1), w4, w5, w6) (Prod.mk.inj (Option.some.inj h)) rfl
      · subst e
        obtain ⟨⟨w4, w5, w6⟩, hu, h⟩ := bnd_h h
        refine kc_v (kV hC (c_X4_copy l dC dI cc q2 q3 (qa 3) (qb 3) o1_clogs o1_day o1_cells (CK 3) (CY 3) (CC 3) H.size w4 w5 w6 hu) cv_X2_33 kw372 rfl rfl ⟨(Nat.le_of_ble_eq_true rfl), (Nat.le_of_ble_eq_true rfl)⟩ hP [18, 19, 8, 9] rfl rfl rfl (q0 := 18) rfl (As := [.ref (qa 3)]) (rest := []) rfl rfl hl.1 (Nat.le_of_ble_eq_true rfl) dX2_popInto_45 ⟨Nat.zero_le _, Nat.zero_le _⟩) hP hA [18, 19, 8, 9] rfl rfl (fun H locs hP => ?_)
        have hP : PD (dC, dI) A s.heap [(q0, .inr (2, [.ref q1, .int (height - 1)])), (q1, .inl (cc 3, 8, .inr (.inr (.inr (.inr fun j => some (qa (pp j))))))), ((qa 0), .inr (4, [.ref (qb 0), .int (CK 0), .int (CY 0)])), ((qb 0), .inl (cc 0, 50, .inl (CC 0))), ((qa 1), .inr (4, [.ref (qb 1), .int (CK 1), .int (CY 1)])), ((qb 1), .inl (cc 0, 50, .inl (CC 1))), ((qa 2), .inr (4, [.ref (qb 2), .int (CK 2), .int (CY 2)])), ((qb 2), .inl (cc 0, 50, .inl (CC 2))), ((qa 3), .inr (4, [.ref (qb 3), .int (CK 3), .int (CY 3)])), ((qb 3), .inl (cc 0, 50, .inl (CC 3))), ((qa 4), .inr (4, [.ref (qb 4), .int (CK 4), .int (CY 4)])), ((qb 4), .inl (cc 0, 50, .inl (CC 4))), ((qa 5), .inr (4, [.ref (qb 5), .int (CK 5), .int (CY 5)])), ((qb 5), .inl (cc 0, 50, .inl (CC 5))), ((qa 6), .inr (4, [.ref (qb 6), .int (CK 6), .int (CY 6)])), ((qb 6), .inl (cc 0, 50, .inl (CC 6))), ((qa 7), .inr (4, [.ref (qb 7), .int (CK 7), .int (CY 7)])), ((qb 7), .inl (cc 0, 50, .inl (CC 7))), (q2, .inr (4, [.ref q3, .int w5, .int w6])), (q3, .inl (cc 0, 50, .inl w4))] H locs := hP
        have hP : PD (dC, dI) A s.heap [(q0, .inr (2, [.ref q1, .int (height - 1)])), (q1, .inl (cc 3, 8, .inr (.inr (.inr (.inr fun j => some (qa (pp j))))))), ((qa 0), .inr (4, [.ref (qb 0), .int (CK 0), .int (CY 0)])), ((qb 0), .inl (cc 0, 50, .inl (CC 0))), ((qa 1), .inr (4, [.ref (qb 1), .int (CK 1), .int (CY 1)])), ((qb 1), .inl (cc 0, 50, .inl (CC 1))), ((qa 2), .inr (4, [.ref (qb 2), .int (CK 2), .int (CY 2)])), ((qb 2), .inl (cc 0, 50, .inl (CC 2))), ((qa 3), .inr (4, [.ref (qb 3), .int (CK 3), .int (CY 3)])), ((qb 3), .inl (cc 0, 50, .inl (CC 3))), ((qa 4), .inr (4, [.ref (qb 4), .int (CK 4), .int (CY 4)])), ((qb 4), .inl (cc 0, 50, .inl (CC 4))), ((qa 5), .inr (4, [.ref (qb 5), .int (CK 5), .int (CY 5)])), ((qb 5), .inl (cc 0, 50, .inl (CC 5))), ((qa 6), .inr (4, [.ref (qb 6), .int (CK 6), .int (CY 6)])), ((qb 6), .inl (cc 0, 50, .inl (CC 6))), ((qa 7), .inr (4, [.ref (qb 7), .int (CK 7), .int (CY 7)])), ((qb 7), .inl (cc 0, 50, .inl (CC 7))), (q2, .inr (4, [.ref q3, .int w5, .int w6])), (q3, .inl (cc 0, 50, .inl w4))] H locs := hP
        refine lv_iconst (v := 1) hx hb dX2_popInto_48 (by decide) ?_
        exact ret_z hC hr rfl hlk hP dX2_popInto_49 ((height - 1), w4, w5, w6) (Prod.mk.inj (Option.some.inj h)) rfl
      · subst e
        obtain ⟨⟨w4, w5, w6⟩, hu, h⟩ := bnd_h h
        refine kc_v (kV hC (c_X4_copy l dC dI cc q2 q3 (qa 4) (qb 4) o1_clogs o1_day o1_cells (CK 4) (CY 4) (CC 4) H.size w4 w5 w6 hu) cv_X2_33 kw372 rfl rfl ⟨(Nat.le_of_ble_eq_true rfl), (Nat.le_of_ble_eq_true rfl)⟩ hP [18, 19, 10, 11] rfl rfl rfl (q0 := 18) rfl (As := [.ref (qa 4)]) (rest := []) rfl rfl hl.1 (Nat.le_of_ble_eq_true rfl) dX2_popInto_45 ⟨Nat.zero_le _, Nat.zero_le _⟩) hP hA [18, 19, 10, 11] rfl rfl (fun H locs hP => ?_)
        have hP : PD (dC, dI) A s.heap [(q0, .inr (2, [.ref q1, .int (height - 1)])), (q1, .inl (cc 3, 8, .inr (.inr (.inr (.inr fun j => some (qa (pp j))))))), ((qa 0), .inr (4, [.ref (qb 0), .int (CK 0), .int (CY 0)])), ((qb 0), .inl (cc 0, 50, .inl (CC 0))), ((qa 1), .inr (4, [.ref (qb 1), .int (CK 1), .int (CY 1)])), ((qb 1), .inl (cc 0, 50, .inl (CC 1))), ((qa 2), .inr (4, [.ref (qb 2), .int (CK 2), .int (CY 2)])), ((qb 2), .inl (cc 0, 50, .inl (CC 2))), ((qa 3), .inr (4, [.ref (qb 3), .int (CK 3), .int (CY 3)])), ((qb 3), .inl (cc 0, 50, .inl (CC 3))), ((qa 4), .inr (4, [.ref (qb 4), .int (CK 4), .int (CY 4)])), ((qb 4), .inl (cc 0, 50, .inl (CC 4))), ((qa 5), .inr (4, [.ref (qb 5), .int (CK 5), .int (CY 5)])), ((qb 5), .inl (cc 0, 50, .inl (CC 5))), ((qa 6), .inr (4, [.ref (qb 6), .int (CK 6), .int (CY 6)])), ((qb 6), .inl (cc 0, 50, .inl (CC 6))), ((qa 7), .inr (4, [.ref (qb 7), .int (CK 7), .int (CY 7)])), ((qb 7), .inl (cc 0, 50, .inl (CC 7))), (q2, .inr (4, [.ref q3, .int w5, .int w6])), (q3, .inl (cc 0, 50, .inl w4))] H locs := hP
        have hP : PD (dC, dI) A s.heap [(q0, .inr (2, [.ref q1, .int (height - 1)])), (q1, .inl (cc 3, 8, .inr (.inr (.inr (.inr fun j => some (qa (pp j))))))), ((qa 0), .inr (4, [.ref (qb 0), .int (CK 0), .int (CY 0)])), ((qb 0), .inl (cc 0, 50, .inl (CC 0))), ((qa 1), .inr (4, [.ref (qb 1), .int (CK 1), .int (CY 1)])), ((qb 1), .inl (cc 0, 50, .inl (CC 1))), ((qa 2), .inr (4, [.ref (qb 2), .int (CK 2), .int (CY 2)])), ((qb 2), .inl (cc 0, 50, .inl (CC 2))), ((qa 3), .inr (4, [.ref (qb 3), .int (CK 3), .int (CY 3)])), ((qb 3), .inl (cc 0, 50, .inl (CC 3))), ((qa 4), .inr (4, [.ref (qb 4), .int (CK 4), .int (CY 4)])), ((qb 4), .inl (cc 0, 50, .inl (CC 4))), ((qa 5), .inr (4, [.ref (qb 5), .int (CK 5), .int (CY 5)])), ((qb 5), .inl (cc 0, 50, .inl (CC 5))), ((qa 6), .inr (4, [.ref (qb 6), .int (CK 6), .int (CY 6)])), ((qb 6), .inl (cc 0, 50, .inl (CC 6))), ((qa 7), .inr (4, [.ref (qb 7), .int (CK 7), .int (CY 7)])), ((qb 7), .inl (cc 0, 50, .inl (CC 7))), (q2, .inr (4, [.ref q3, .int w5, .int w6])), (q3, .inl (cc 0, 50, .inl w4))] H locs := hP
        refine lv_iconst (v := 1) hx hb dX2_popInto_48 (by decide) ?_
        exact ret_z hC hr rfl hlk hP dX2_popInto_49 ((height - 1), w4, w5, w6) (Prod.mk.inj (Option.some.inj h)) rfl
      · subst e
        obtain ⟨⟨w4, w5, w6⟩, hu, h⟩ := bnd_h h
        refine kc_v (kV hC (c_X4_copy l dC dI cc q2 q3 (qa 5) (qb 5) o1_clogs o1_day o1_cells (CK 5) (CY 5) (CC 5) H.size w4 w5 w6 hu) cv_X2_33 kw372 rfl rfl ⟨(Nat.le_of_ble_eq_true rfl), (Nat.le_of_ble_eq_true rfl)⟩ hP [18, 19, 12, 13] rfl rfl rfl (q0 := 18) rfl (As := [.ref (qa 5)]) (rest := []) rfl rfl hl.1 (Nat.le_of_ble_eq_true rfl) dX2_popInto_45 ⟨Nat.zero_le _, Nat.zero_le _⟩) hP hA [18, 19, 12, 13] rfl rfl (fun H locs hP => ?_)
        have hP : PD (dC, dI) A s.heap [(q0, .inr (2, [.ref q1, .int (height - 1)])), (q1, .inl (cc 3, 8, .inr (.inr (.inr (.inr fun j => some (qa (pp j))))))), ((qa 0), .inr (4, [.ref (qb 0), .int (CK 0), .int (CY 0)])), ((qb 0), .inl (cc 0, 50, .inl (CC 0))), ((qa 1), .inr (4, [.ref (qb 1), .int (CK 1), .int (CY 1)])), ((qb 1), .inl (cc 0, 50, .inl (CC 1))), ((qa 2), .inr (4, [.ref (qb 2), .int (CK 2), .int (CY 2)])), ((qb 2), .inl (cc 0, 50, .inl (CC 2))), ((qa 3), .inr (4, [.ref (qb 3), .int (CK 3), .int (CY 3)])), ((qb 3), .inl (cc 0, 50, .inl (CC 3))), ((qa 4), .inr (4, [.ref (qb 4), .int (CK 4), .int (CY 4)])), ((qb 4), .inl (cc 0, 50, .inl (CC 4))), ((qa 5), .inr (4, [.ref (qb 5), .int (CK 5), .int (CY 5)])), ((qb 5), .inl (cc 0, 50, .inl (CC 5))), ((qa 6), .inr (4, [.ref (qb 6), .int (CK 6), .int (CY 6)])), ((qb 6), .inl (cc 0, 50, .inl (CC 6))), ((qa 7), .inr (4, [.ref (qb 7), .int (CK 7), .int (CY 7)])), ((qb 7), .inl (cc 0, 50, .inl (CC 7))), (q2, .inr (4, [.ref q3, .int w5, .int w6])), (q3, .inl (cc 0, 50, .inl w4))] H locs := hP
        have hP : PD (dC, dI) A s.heap [(q0, .inr (2, [.ref q1, .int (height - 1)])), (q1, .inl (cc 3, 8, .inr (.inr (.inr (.inr fun j => some (qa (pp j))))))), ((qa 0), .inr (4, [.ref (qb 0), .int (CK 0), .int (CY 0)])), ((qb 0), .inl (cc 0, 50, .inl (CC 0))), ((qa 1), .inr (4, [.ref (qb 1), .int (CK 1), .int (CY 1)])), ((qb 1), .inl (cc 0, 50, .inl (CC 1))), ((qa 2), .inr (4, [.ref (qb 2), .int (CK 2), .int (CY 2)])), ((qb 2), .inl (cc 0, 50, .inl (CC 2))), ((qa 3), .inr (4, [.ref (qb 3), .int (CK 3), .int (CY 3)])), ((qb 3), .inl (cc 0, 50, .inl (CC 3))), ((qa 4), .inr (4, [.ref (qb 4), .int (CK 4), .int (CY 4)])), ((qb 4), .inl (cc 0, 50, .inl (CC 4))), ((qa 5), .inr (4, [.ref (qb 5), .int (CK 5), .int (CY 5)])), ((qb 5), .inl (cc 0, 50, .inl (CC 5))), ((qa 6), .inr (4, [.ref (qb 6), .int (CK 6), .int (CY 6)])), ((qb 6), .inl (cc 0, 50, .inl (CC 6))), ((qa 7), .inr (4, [.ref (qb 7), .int (CK 7), .int (CY 7)])), ((qb 7), .inl (cc 0, 50, .inl (CC 7))), (q2, .inr (4, [.ref q3, .int w5, .int w6])), (q3, .inl (cc 0, 50, .inl w4))] H locs := hP
        refine lv_iconst (v := 1) hx hb dX2_popInto_48 (by decide) ?_
        exact ret_z hC hr rfl hlk hP dX2_popInto_49 ((height - 1), w4, w5, w6) (Prod.mk.inj (Option.some.inj h)) rfl
      · subst e
        obtain ⟨⟨w4, w5, w6⟩, hu, h⟩ := bnd_h h
        refine kc_v (kV hC (c_X4_copy l dC dI cc q2 q3 (qa 6) (qb 6) o1_clogs o1_day o1_cells (CK 6) (CY 6) (CC 6) H.size w4 w5 w6 hu) cv_X2_33 kw372 rfl rfl ⟨(Nat.le_of_ble_eq_true rfl), (Nat.le_of_ble_eq_true rfl)⟩ hP [18, 19, 14, 15] rfl rfl rfl (q0 := 18) rfl (As := [.ref (qa 6)]) (rest := []) rfl rfl hl.1 (Nat.le_of_ble_eq_true rfl) dX2_popInto_45 ⟨Nat.zero_le _, Nat.zero_le _⟩) hP hA [18, 19, 14, 15] rfl rfl (fun H locs hP => ?_)
        have hP : PD (dC, dI) A s.heap [(q0, .inr (2, [.ref q1, .int (height - 1)])), (q1, .inl (cc 3, 8, .inr (.inr (.inr (.inr fun j => some (qa (pp j))))))), ((qa 0), .inr (4, [.ref (qb 0), .int (CK 0), .int (CY 0)])), ((qb 0), .inl (cc 0, 50, .inl (CC 0))), ((qa 1), .inr (4, [.ref (qb 1), .int (CK 1), .int (CY 1)])), ((qb 1), .inl (cc 0, 50, .inl (CC 1))), ((qa 2), .inr (4, [.ref (qb 2), .int (CK 2), .int (CY 2)])), ((qb 2), .inl (cc 0, 50, .inl (CC 2))), ((qa 3), .inr (4, [.ref (qb 3), .int (CK 3), .int (CY 3)])), ((qb 3), .inl (cc 0, 50, .inl (CC 3))), ((qa 4), .inr (4, [.ref (qb 4), .int (CK 4), .int (CY 4)])), ((qb 4), .inl (cc 0, 50, .inl (CC 4))), ((qa 5), .inr (4, [.ref (qb 5), .int (CK 5), .int (CY 5)])), ((qb 5), .inl (cc 0, 50, .inl (CC 5))), ((qa 6), .inr (4, [.ref (qb 6), .int (CK 6), .int (CY 6)])), ((qb 6), .inl (cc 0, 50, .inl (CC 6))), ((qa 7), .inr (4, [.ref (qb 7), .int (CK 7), .int (CY 7)])), ((qb 7), .inl (cc 0, 50, .inl (CC 7))), (q2, .inr (4, [.ref q3, .int w5, .int w6])), (q3, .inl (cc 0, 50, .inl w4))] H locs := hP
        have hP : PD (dC, dI) A s.heap [(q0, .inr (2, [.ref q1, .int (height - 1)])), (q1, .inl (cc 3, 8, .inr (.inr (.inr (.inr fun j => some (qa (pp j))))))), ((qa 0), .inr (4, [.ref (qb 0), .int (CK 0), .int (CY 0)])), ((qb 0), .inl (cc 0, 50, .inl (CC 0))), ((qa 1), .inr (4, [.ref (qb 1), .int (CK 1), .int (CY 1)])), ((qb 1), .inl (cc 0, 50, .inl (CC 1))), ((qa 2), .inr (4, [.ref (qb 2), .int (CK 2), .int (CY 2)])), ((qb 2), .inl (cc 0, 50, .inl (CC 2))), ((qa 3), .inr (4, [.ref (qb 3), .int (CK 3), .int (CY 3)])), ((qb 3), .inl (cc 0, 50, .inl (CC 3))), ((qa 4), .inr (4, [.ref (qb 4), .int (CK 4), .int (CY 4)])), ((qb 4), .inl (cc 0, 50, .inl (CC 4))), ((qa 5), .inr (4, [.ref (qb 5), .int (CK 5), .int (CY 5)])), ((qb 5), .inl (cc 0, 50, .inl (CC 5))), ((qa 6), .inr (4, [.ref (qb 6), .int (CK 6), .int (CY 6)])), ((qb 6), .inl (cc 0, 50, .inl (CC 6))), ((qa 7), .inr (4, [.ref (qb 7), .int (CK 7), .int (CY 7)])), ((qb 7), .inl (cc 0, 50, .inl (CC 7))), (q2, .inr (4, [.ref q3, .int w5, .int w6])), (q3, .inl (cc 0, 50, .inl w4))] H locs := hP
        refine lv_iconst (v := 1) hx hb dX2_popInto_48 (by decide) ?_
        exact ret_z hC hr rfl hlk hP dX2_popInto_49 ((height - 1), w4, w5, w6) (Prod.mk.inj (Option.some.inj h)) rfl
      · subst e
        obtain ⟨⟨w4, w5, w6⟩, hu, h⟩ := bnd_h h
        refine kc_v (kV hC (c_X4_copy l dC dI cc q2 q3 (qa 7) (qb 7) o1_clogs o1_day o1_cells (CK 7) (CY 7) (CC 7) H.size w4 w5 w6 hu) cv_X2_33 kw372 rfl rfl ⟨(Nat.le_of_ble_eq_true rfl), (Nat.le_of_ble_eq_true rfl)⟩ hP [18, 19, 16, 17] rfl rfl rfl (q0 := 18) rfl (As := [.ref (qa 7)]) (rest := []) rfl rfl hl.1 (Nat.le_of_ble_eq_true rfl) dX2_popInto_45 ⟨Nat.zero_le _, Nat.zero_le _⟩) hP hA [18, 19, 16, 17] rfl rfl (fun H locs hP => ?_)
        have hP : PD (dC, dI) A s.heap [(q0, .inr (2, [.ref q1, .int (height - 1)])), (q1, .inl (cc 3, 8, .inr (.inr (.inr (.inr fun j => some (qa (pp j))))))), ((qa 0), .inr (4, [.ref (qb 0), .int (CK 0), .int (CY 0)])), ((qb 0), .inl (cc 0, 50, .inl (CC 0))), ((qa 1), .inr (4, [.ref (qb 1), .int (CK 1), .int (CY 1)])), ((qb 1), .inl (cc 0, 50, .inl (CC 1))), ((qa 2), .inr (4, [.ref (qb 2), .int (CK 2), .int (CY 2)])), ((qb 2), .inl (cc 0, 50, .inl (CC 2))), ((qa 3), .inr (4, [.ref (qb 3), .int (CK 3), .int (CY 3)])), ((qb 3), .inl (cc 0, 50, .inl (CC 3))), ((qa 4), .inr (4, [.ref (qb 4), .int (CK 4), .int (CY 4)])), ((qb 4), .inl (cc 0, 50, .inl (CC 4))), ((qa 5), .inr (4, [.ref (qb 5), .int (CK 5), .int (CY 5)])), ((qb 5), .inl (cc 0, 50, .inl (CC 5))), ((qa 6), .inr (4, [.ref (qb 6), .int (CK 6), .int (CY 6)])), ((qb 6), .inl (cc 0, 50, .inl (CC 6))), ((qa 7), .inr (4, [.ref (qb 7), .int (CK 7), .int (CY 7)])), ((qb 7), .inl (cc 0, 50, .inl (CC 7))), (q2, .inr (4, [.ref q3, .int w5, .int w6])), (q3, .inl (cc 0, 50, .inl w4))] H locs := hP
        have hP : PD (dC, dI) A s.heap [(q0, .inr (2, [.ref q1, .int (height - 1)])), (q1, .inl (cc 3, 8, .inr (.inr (.inr (.inr fun j => some (qa (pp j))))))), ((qa 0), .inr (4, [.ref (qb 0), .int (CK 0), .int (CY 0)])), ((qb 0), .inl (cc 0, 50, .inl (CC 0))), ((qa 1), .inr (4, [.ref (qb 1), .int (CK 1), .int (CY 1)])), ((qb 1), .inl (cc 0, 50, .inl (CC 1))), ((qa 2), .inr (4, [.ref (qb 2), .int (CK 2), .int (CY 2)])), ((qb 2), .inl (cc 0, 50, .inl (CC 2))), ((qa 3), .inr (4, [.ref (qb 3), .int (CK 3), .int (CY 3)])), ((qb 3), .inl (cc 0, 50, .inl (CC 3))), ((qa 4), .inr (4, [.ref (qb 4), .int (CK 4), .int (CY 4)])), ((qb 4), .inl (cc 0, 50, .inl (CC 4))), ((qa 5), .inr (4, [.ref (qb 5), .int (CK 5), .int (CY 5)])), ((qb 5), .inl (cc 0, 50, .inl (CC 5))), ((qa 6), .inr (4, [.ref (qb 6), .int (CK 6), .int (CY 6)])), ((qb 6), .inl (cc 0, 50, .inl (CC 6))), ((qa 7), .inr (4, [.ref (qb 7), .int (CK 7), .int (CY 7)])), ((qb 7), .inl (cc 0, 50, .inl (CC 7))), (q2, .inr (4, [.ref q3, .int w5, .int w6])), (q3, .inl (cc 0, 50, .inl w4))] H locs := hP
        refine lv_iconst (v := 1) hx hb dX2_popInto_48 (by decide) ?_
        exact ret_z hC hr rfl hlk hP dX2_popInto_49 ((height - 1), w4, w5, w6) (Prod.mk.inj (Option.some.inj h)) rfl
    · have h := if_f c2 h
      refine lv_iconst (v := 0) hx hb dX2_popInto_23 (by decide) ?_
      exact ret_z hC hr rfl hlk hP dX2_popInto_24 (height, o1_cells, o1_clogs, o1_day) (Prod.mk.inj (Option.some.inj h)) rfl
set_option maxHeartbeats 8000000 in
set_option maxRecDepth 100000 in
theorem c_X2_isFull_2 (l : Launch) (dC : Nat → ClassId) (dI : Nat → Nat → Nat) (cc : Nat → ClassId) (q0 q1 : Nat) (qa qb : Nat → Nat) (height : Int32) (pp : (Nat → Nat)) (sz : Nat) (ret : Int32) (hu : f_X2_isFull_2 height = some ret) : Met l yX2_isFull (mw yX2_isFull cX2_isFull 1 (some .boolean)) ({ frames := 0, cells := 0, slots := 0, locals := 0 } : Room) (va_Pc [.ref q0] (mP (dC, dI) (ts cc) sz [(q0, .inr (2, [.ref q1, .int height])), (q1, .inl (cc 3, 2, .inr (.inr (.inr (.inr fun j => some (qa (pp j)))))))])) ((fun A => va_Qi (fun (r : Int32) (w : Unit) => narrow .boolean (.int r) = .int r ∧ (r = ret ∧ w = ())) (fun (w : Unit) t => va_P (dC, dI) classes [(q0, .inr (2, [.ref q1, .int height])), (q1, .inl (cc 3, 2, .inr (.inr (.inr (.inr fun j => some (qa (pp j)))))))] t.heap) A) (va_A [(q0, .inr (2, [.ref q1, .int height])), (q1, .inl (cc 3, 2, .inr (.inr (.inr (.inr fun j => some (qa (pp j)))))))] sz)) 0 0 (va_A [(q0, .inr (2, [.ref q1, .int height])), (q1, .inl (cc 3, 2, .inr (.inr (.inr (.inr fun j => some (qa (pp j)))))))] sz) := by
  refine met_go (Qc := fun A => va_Qi (fun (r : Int32) (w : Unit) => narrow .boolean (.int r) = .int r ∧ (r = ret ∧ w = ())) (fun (w : Unit) t => va_P (dC, dI) classes [(q0, .inr (2, [.ref q1, .int height])), (q1, .inl (cc 3, 2, .inr (.inr (.inr (.inr fun j => some (qa (pp j)))))))] t.heap) A) (by decide) (Nat.le_of_ble_eq_true rfl) ?_
  intro p e s m below meth c A ls H locs hC hr hlk hin hA hP hl _
  have hC : CX p m c cX2_isFull 1 s ([.ref q0] : List Value).toArray RX2 (dC, dI) (ts cc) := hC
  have hx := hC.1.1
  have hb := hC.1.2
  have h := hu
  have hu0 := hu
  unfold f_X2_isFull_2 at h
  have hl : lv_has ls 1 [(0, .ref q0)] := hl
  refine lv_aload_n hx hb dX2_isFull_0 rfl (lv_at hl 0 rfl) ?_
  refine g_get hC hP fg_X2_22 0 rfl rfl dX2_isFull_1 ?_
  refine lv_aload_n hx hb dX2_isFull_4 rfl (lv_at hl 0 rfl) ?_
  refine g_get hC hP fg_X2_15 0 rfl rfl dX2_isFull_5 ?_
  refine g_alen hC hP 1 3 rfl rfl (v := 2) rfl dX2_isFull_8 ?_
  refine lv_icmp_lt (tgt := 16) hx hb dX2_isFull_9 (by decide) (fun c1 => ?_) (fun c1 => ?_)
  · have h := if_t c1 h
    refine lv_iconst (v := 0) hx hb dX2_isFull_16 (by decide) ?_
    exact ret_z hC hr rfl hlk hP dX2_isFull_17 () (⟨Option.some.inj h, rfl⟩) rfl
  · have h := if_f c1 h
    refine lv_iconst (v := 1) hx hb dX2_isFull_12 (by decide) ?_
    refine lv_goto (tgt := 17) hx hb dX2_isFull_13 (by decide) ?_
    exact ret_z hC hr rfl hlk hP dX2_isFull_17 () (⟨Option.some.inj h, rfl⟩) rfl
set_option maxHeartbeats 8000000 in
set_option maxRecDepth 100000 in
theorem c_X2_clear_2 (l : Launch) (dC : Nat → ClassId) (dI : Nat → Nat → Nat) (cc : Nat → ClassId) (q0 q1 : Nat) (height : Int32) (sz : Nat) (o_height : Int32) (hu : f_X2_clear_2 = some o_height) : Met l yX2_clear (mw yX2_clear cX2_clear 1 none) ({ frames := 0, cells := 0, slots := 0, locals := 0 } : Room) (va_Pc [.ref q0] (mP (dC, dI) (ts cc) sz [(q0, .inr (2, [.ref q1, .int height]))])) ((fun A => va_Qv (fun (w : Int32) => w = o_height) (fun (w : Int32) t => va_P (dC, dI) classes [(q0, .inr (2, [.ref q1, .int w]))] t.heap) A) (va_A [(q0, .inr (2, [.ref q1, .int height]))] sz)) 0 0 (va_A [(q0, .inr (2, [.ref q1, .int height]))] sz) := by
  refine met_go (Qc := fun A => va_Qv (fun (w : Int32) => w = o_height) (fun (w : Int32) t => va_P (dC, dI) classes [(q0, .inr (2, [.ref q1, .int w]))] t.heap) A) (by decide) (Nat.le_of_ble_eq_true rfl) ?_
  intro p e s m below meth c A ls H locs hC hr hlk hin hA hP hl _
  have hC : CX p m c cX2_clear 1 s ([.ref q0] : List Value).toArray RX2 (dC, dI) (ts cc) := hC
  have hx := hC.1.1
  have hb := hC.1.2
  have h := hu
  have hu0 := hu
  unfold f_X2_clear_2 at h
  have hl : lv_has ls 1 [(0, .ref q0)] := hl
  refine lv_aload_n hx hb dX2_clear_0 rfl (lv_at hl 0 rfl) ?_
  refine lv_iconst (v := 0) hx hb dX2_clear_1 (by decide) ?_
  refine g_put hC hP fg_X2_22 0 rfl rfl rfl (Nat.le_of_ble_eq_true rfl) dX2_clear_2 (fun H locs hP => ?_)
  have hP : PD (dC, dI) A s.heap [(q0, .inr (2, [.ref q1, .int 0]))] H locs := hP
  exact ret_v hC hr hlk hP dX2_clear_5 0 (Option.some.inj h) rfl
set_option maxHeartbeats 8000000 in
set_option maxRecDepth 100000 in
theorem c_X2_dropLowest_2 (l : Launch) (dC : Nat → ClassId) (dI : Nat → Nat → Nat) (cc : Nat → ClassId) (q0 q1 : Nat) (qa qb : Nat → Nat) (height : Int32) (pp : (Nat → Nat)) (CC : (Nat → Nat → Int32)) (CK : (Nat → Int32)) (CY : (Nat → Int32)) (sz : Nat) (o_pp : (Nat → Nat)) (o_height : Int32) (hu : f_X2_dropLowest_2 height pp = some (o_pp, o_height)) : Met l yX2_dropLowest (mw yX2_dropLowest cX2_dropLowest 3 none) ({ frames := 0, cells := 0, slots := 0, locals := 0 } : Room) (va_Pc [.ref q0] (mP (dC, dI) (ts cc) sz [(q0, .inr (2, [.ref q1, .int height])), (q1, .inl (cc 3, 2, .inr (.inr (.inr (.inr fun j => some (qa (pp j))))))), ((qa 0), .inr (4, [.ref (qb 0), .int (CK 0), .int (CY 0)])), ((qb 0), .inl (cc 0, 50, .inl (CC 0))), ((qa 1), .inr (4, [.ref (qb 1), .int (CK 1), .int (CY 1)])), ((qb 1), .inl (cc 0, 50, .inl (CC 1)))])) ((fun A => va_Qv (fun (w : (Nat → Nat) × Int32) => w = (o_pp, o_height)) (fun (w : (Nat → Nat) × Int32) t => va_P (dC, dI) classes [(q0, .inr (2, [.ref q1, .int w.2])), (q1, .inl (cc 3, 2, .inr (.inr (.inr (.inr fun j => some (qa (w.1 j))))))), ((qa 0), .inr (4, [.ref (qb 0), .int (CK 0), .int (CY 0)])), ((qb 0), .inl (cc 0, 50, .inl (CC 0))), ((qa 1), .inr (4, [.ref (qb 1), .int (CK 1), .int (CY 1)])), ((qb 1), .inl (cc 0, 50, .inl (CC 1)))] t.heap) A) (va_A [(q0, .inr (2, [.ref q1, .int height])), (q1, .inl (cc 3, 2, .inr (.inr (.inr (.inr fun j => some (qa (pp j))))))), ((qa 0), .inr (4, [.ref (qb 0), .int (CK 0), .int (CY 0)])), ((qb 0), .inl (cc 0, 50, .inl (CC 0))), ((qa 1), .inr (4, [.ref (qb 1), .int (CK 1), .int (CY 1)])), ((qb 1), .inl (cc 0, 50, .inl (CC 1)))] sz)) 0 0 (va_A [(q0, .inr (2, [.ref q1, .int height])), (q1, .inl (cc 3, 2, .inr (.inr (.inr (.inr fun j => some (qa (pp j))))))), ((qa 0), .inr (4, [.ref (qb 0), .int (CK 0), .int (CY 0)])), ((qb 0), .inl (cc 0, 50, .inl (CC 0))), ((qa 1), .inr (4, [.ref (qb 1), .int (CK 1), .int (CY 1)])), ((qb 1), .inl (cc 0, 50, .inl (CC 1)))] sz) := by
  refine met_go (Qc := fun A => va_Qv (fun (w : (Nat → Nat) × Int32) => w = (o_pp, o_height)) (fun (w : (Nat → Nat) × Int32) t => va_P (dC, dI) classes [(q0, .inr (2, [.ref q1, .int w.2])), (q1, .inl (cc 3, 2, .inr (.inr (.inr (.inr fun j => some (qa (w.1 j))))))), ((qa 0), .inr (4, [.ref (qb 0), .int (CK 0), .int (CY 0)])), ((qb 0), .inl (cc 0, 50, .inl (CC 0))), ((qa 1), .inr (4, [.ref (qb 1), .int (CK 1), .int (CY 1)])), ((qb 1), .inl (cc 0, 50, .inl (CC 1)))] t.heap) A) (by decide) (Nat.le_of_ble_eq_true rfl) ?_
  intro p e s m below meth c A ls H locs hC hr hlk hin hA hP hl _
  have hC : CX p m c cX2_dropLowest 3 s ([.ref q0] : List Value).toArray RX2 (dC, dI) (ts cc) := hC
  have hx := hC.1.1
  have hb := hC.1.2
  have h := hu
  have hu0 := hu
  unfold f_X2_dropLowest_2 at h
  have hl : lv_has ls 3 [(0, .ref q0)] := hl
  refine W_abs (fun Z eZ => ?_)
  refine lv_aload_n hx hb dX2_dropLowest_0 rfl (lv_at hl 0 rfl) ?_
  refine g_get hC hP fg_X2_15 0 rfl rfl dX2_dropLowest_1 ?_
  refine g_alen hC hP 1 3 rfl rfl (v := 2) rfl dX2_dropLowest_4 ?_
  refine lv_if_le (tgt := 69) hx hb dX2_dropLowest_5 (by decide) (fun c => absurd c (by decide)) (fun _ => ?_)
  refine lv_aload_n hx hb dX2_dropLowest_8 rfl (lv_at hl 0 rfl) ?_
  refine g_get hC hP fg_X2_15 0 rfl rfl dX2_dropLowest_9 ?_
  refine lv_iconst (v := 0) hx hb dX2_dropLowest_12 (by decide) ?_
  obtain ⟨hin, hkN, h⟩ := rdp_h h
  refine g_aaldP hC hP 1 3 rfl rfl hin dX2_dropLowest_13 (fun k2 ek => ?_)
  have h := h k2 ek
  have hN_k2 : k2 < 2 := by rw [ek]; exact hkN
  refine lv_astore_n (lv' := [(1, .ref (qa k2)), (0, .ref q0)]) hx hb dX2_dropLowest_14 rfl hl (by decide) rfl (fun ls hl => ?_)
  refine lv_iconst (v := 1) hx hb dX2_dropLowest_15 (by decide) ?_
  refine lv_istore_n (lv' := [(2, .int 1), (1, .ref (qa k2)), (0, .ref q0)]) hx hb dX2_dropLowest_16 rfl hl (by decide) rfl (fun ls hl => ?_)
  obtain ⟨⟨j3x, w4x⟩, hlp, h⟩ := bnd_h h
  have L1 : ∀ (n : Nat) (j3 : Int32) (w4 : (Nat → Nat)) (j3x : Int32) (w4x : (Nat → Nat)), lp (u2 b_X2_dropLowest_2_1) n (j3, w4) = some (j3x, w4x) → ∀ (H : Heap) (locs : List Loc) (ls : Array Slot), PD (dC, dI) A s.heap [(q0, .inr (2, [.ref q1, .int height])), (q1, .inl (cc 3, 2, .inr (.inr (.inr (.inr fun j => some (qa (w4 j))))))), ((qa 0), .inr (4, [.ref (qb 0), .int (CK 0), .int (CY 0)])), ((qb 0), .inl (cc 0, 50, .inl (CC 0))), ((qa 1), .inr (4, [.ref (qb 1), .int (CK 1), .int (CY 1)])), ((qb 1), .inl (cc 0, 50, .inl (CC 1)))] H locs → lv_has ls 3 [(0, .ref q0), (1, .ref (qa k2)), (2, .int j3)] → (∀ (H : Heap) (locs : List Loc) (ls : Array Slot), PD (dC, dI) A s.heap [(q0, .inr (2, [.ref q1, .int height])), (q1, .inl (cc 3, 2, .inr (.inr (.inr (.inr fun j => some (qa (w4x j))))))), ((qa 0), .inr (4, [.ref (qb 0), .int (CK 0), .int (CY 0)])), ((qb 0), .inl (cc 0, 50, .inl (CC 0))), ((qa 1), .inr (4, [.ref (qb 1), .int (CK 1), .int (CY 1)])), ((qb 1), .inl (cc 0, 50, .inl (CC 1)))] H locs → lv_has ls 3 [(0, .ref q0), (1, .ref (qa k2)), (2, .int j3x)] → W p l e ({ frames := 0, cells := 0, slots := 0, locals := 0 } : Room) s m ([.ref q0] : List Value).toArray below meth c H locs 0 0 Z (F0 m 46 ls [])) → W p l e ({ frames := 0, cells := 0, slots := 0, locals := 0 } : Room) s m ([.ref q0] : List Value).toArray below meth c H locs 0 0 Z (F0 m 17 ls []) := by
    intro n
    induction n with
    | zero => intro j3 w4 j3x w4x h; exact (lp_0 h).elim
    | succ n ih =>
      intro j3 w4 j3x w4x h H locs ls hP hl KK
      obtain ⟨y, h, hz⟩ := lp_h h
      refine lv_iload_n hx hb dX2_dropLowest_17 rfl (lv_at hl 2 rfl) ?_
      refine lv_aload_n hx hb dX2_dropLowest_18 rfl (lv_at hl 0 rfl) ?_
      refine g_get hC hP fg_X2_15 0 rfl rfl dX2_dropLowest_19 ?_
      refine g_alen hC hP 1 3 rfl rfl (v := 2) rfl dX2_dropLowest_22 ?_
      refine lv_icmp_ge (tgt := 46) hx hb dX2_dropLowest_23 (by decide) (fun c5 => ?_) (fun c5 => ?_)
      · have h := if_t c5 h
        cases lp_e h hz
        exact KK H locs ls hP (lv_sub hl [0, 1, 2] rfl)
      · have h := if_f c5 h
        refine lv_aload_n hx hb dX2_dropLowest_26 rfl (lv_at hl 0 rfl) ?_
        refine g_get hC hP fg_X2_15 0 rfl rfl dX2_dropLowest_27 ?_
        refine lv_iload_n hx hb dX2_dropLowest_30 rfl (lv_at hl 2 rfl) ?_
        refine lv_iconst (v := 1) hx hb dX2_dropLowest_31 (by decide) ?_
        refine lv_isub hx hb dX2_dropLowest_32 ?_
        refine lv_aload_n hx hb dX2_dropLowest_33 rfl (lv_at hl 0 rfl) ?_
        refine g_get hC hP fg_X2_15 0 rfl rfl dX2_dropLowest_34 ?_
        refine lv_iload_n hx hb dX2_dropLowest_37 rfl (lv_at hl 2 rfl) ?_
        obtain ⟨hin, hkN, h⟩ := rdp_h h
        refine g_aaldP hC hP 1 3 rfl rfl hin dX2_dropLowest_38 (fun k6 ek => ?_)
        have h := h k6 ek
        have hN_k6 : k6 < 2 := by rw [ek]; exact hkN
        obtain ⟨hin, h⟩ := wrp_h h
        have hqk : ∃ (qk : Nat) (vs : List Value), ([(q0, .inr (2, [.ref q1, .int height])), (q1, .inl (cc 3, 2, .inr (.inr (.inr (.inr fun j => some (qa (w4 j))))))), ((qa 0), .inr (4, [.ref (qb 0), .int (CK 0), .int (CY 0)])), ((qb 0), .inl (cc 0, 50, .inl (CC 0))), ((qa 1), .inr (4, [.ref (qb 1), .int (CK 1), .int (CY 1)])), ((qb 1), .inl (cc 0, 50, .inl (CC 1)))] : va_W)[qk]? = some ((qa k6), .inr (4, vs)) := by
          rcases lt2 hN_k6 with e | e
          · subst e
            exact ⟨2, _, rfl⟩
          · subst e
            exact ⟨4, _, rfl⟩
        refine g_aastP hC hP 1 3 rfl rfl hqk hin dX2_dropLowest_39 (fun p7 ev H locs hP => ?_)
        have hP : PD (dC, dI) A s.heap [(q0, .inr (2, [.ref q1, .int height])), (q1, .inl (cc 3, 2, .inr (.inr (.inr (.inr fun j => some (qa (p7 j))))))), ((qa 0), .inr (4, [.ref (qb 0), .int (CK 0), .int (CY 0)])), ((qb 0), .inl (cc 0, 50, .inl (CC 0))), ((qa 1), .inr (4, [.ref (qb 1), .int (CK 1), .int (CY 1)])), ((qb 1), .inl (cc 0, 50, .inl (CC 1)))] H locs := hP
        have h := h p7 ev
        refine lv_iinc (v := (j3 + 1)) (lv' := [(2, .int (j3 + 1)), (0, .ref q0), (1, .ref (qa k2))]) hx hb dX2_dropLowest_40 hl (k := 2) rfl rfl (by decide) rfl (fun ls hl => ?_)
        refine lv_goto (tgt := 17) hx hb dX2_dropLowest_43 (by decide) ?_
        exact ih _ _ _ _ (lp_n h hz) H locs ls hP (lv_sub hl [1, 2, 0] rfl) KK
  refine L1 FU _ _ j3x w4x hlp H locs ls hP (lv_sub hl [2, 1, 0] rfl) (fun H locs ls hP hl => ?_)
  refine lv_aload_n hx hb dX2_dropLowest_46 rfl (lv_at hl 0 rfl) ?_
  refine g_get hC hP fg_X2_15 0 rfl rfl dX2_dropLowest_47 ?_
  refine lv_aload_n hx hb dX2_dropLowest_50 rfl (lv_at hl 0 rfl) ?_
  refine g_get hC hP fg_X2_15 0 rfl rfl dX2_dropLowest_51 ?_
  refine g_alen hC hP 1 3 rfl rfl (v := 2) rfl dX2_dropLowest_54 ?_
  refine lv_iconst (v := 1) hx hb dX2_dropLowest_55 (by decide) ?_
  refine lv_isub hx hb dX2_dropLowest_56 ?_
  refine lv_aload_n hx hb dX2_dropLowest_57 rfl (lv_at hl 1 rfl) ?_
  obtain ⟨hin, h⟩ := wrp_h h
  have hqk : ∃ (qk : Nat) (vs : List Value), ([(q0, .inr (2, [.ref q1, .int height])), (q1, .inl (cc 3, 2, .inr (.inr (.inr (.inr fun j => some (qa (w4x j))))))), ((qa 0), .inr (4, [.ref (qb 0), .int (CK 0), .int (CY 0)])), ((qb 0), .inl (cc 0, 50, .inl (CC 0))), ((qa 1), .inr (4, [.ref (qb 1), .int (CK 1), .int (CY 1)])), ((qb 1), .inl (cc 0, 50, .inl (CC 1)))] : va_W)[qk]? = some ((qa k2), .inr (4, vs)) := by
    rcases lt2 hN_k2 with e | e
    · subst e
      exact ⟨2, _, rfl⟩
    · subst e
      exact ⟨4, _, rfl⟩
  refine g_aastP hC hP 1 3 rfl rfl hqk hin dX2_dropLowest_58 (fun p8 ev H locs hP => ?_)
  have hP : PD (dC, dI) A s.heap [(q0, .inr (2, [.ref q1, .int height])), (q1, .inl (cc 3, 2, .inr (.inr (.inr (.inr fun j => some (qa (p8 j))))))), ((qa 0), .inr (4, [.ref (qb 0), .int (CK 0), .int (CY 0)])), ((qb 0), .inl (cc 0, 50, .inl (CC 0))), ((qa 1), .inr (4, [.ref (qb 1), .int (CK 1), .int (CY 1)])), ((qb 1), .inl (cc 0, 50, .inl (CC 1)))] H locs := hP
  have h := h p8 ev
  refine lv_aload_n hx hb dX2_dropLowest_59 rfl (lv_at hl 0 rfl) ?_
  refine lv_dup hx hb dX2_dropLowest_60 rfl ?_
  refine g_get hC hP fg_X2_22 0 rfl rfl dX2_dropLowest_61 ?_
  refine lv_iconst (v := 1) hx hb dX2_dropLowest_64 (by decide) ?_
  refine lv_isub hx hb dX2_dropLowest_65 ?_
  refine g_put hC hP fg_X2_22 0 rfl rfl rfl (Nat.le_of_ble_eq_true rfl) dX2_dropLowest_66 (fun H locs hP => ?_)
  have hP : PD (dC, dI) A s.heap [(q0, .inr (2, [.ref q1, .int (height - 1)])), (q1, .inl (cc 3, 2, .inr (.inr (.inr (.inr fun j => some (qa (p8 j))))))), ((qa 0), .inr (4, [.ref (qb 0), .int (CK 0), .int (CY 0)])), ((qb 0), .inl (cc 0, 50, .inl (CC 0))), ((qa 1), .inr (4, [.ref (qb 1), .int (CK 1), .int (CY 1)])), ((qb 1), .inl (cc 0, 50, .inl (CC 1)))] H locs := hP
  rw [eZ]
  exact ret_v hC hr hlk hP dX2_dropLowest_69 (p8, (height - 1)) (Option.some.inj h) rfl
set_option maxHeartbeats 8000000 in
set_option maxRecDepth 100000 in
theorem c_X2_push_2 (l : Launch) (dC : Nat → ClassId) (dI : Nat → Nat → Nat) (cc : Nat → ClassId) (q0 q1 q2 q3 : Nat) (qa qb : Nat → Nat) (height : Int32) (pp : (Nat → Nat)) (CC : (Nat → Nat → Int32)) (CK : (Nat → Int32)) (CY : (Nat → Int32)) (o1_clogs : Int32) (o1_day : Int32) (o1_cells : (Nat → Int32)) (sz : Nat) (o_pp : (Nat → Nat)) (o_CC : (Nat → Nat → Int32)) (o_CK : (Nat → Int32)) (o_CY : (Nat → Int32)) (o_height : Int32) (hu : f_X2_push_2 height pp CC CK CY o1_clogs o1_day o1_cells = some (o_pp, o_CC, o_CK, o_CY, o_height)) : Met l yX2_push (mw yX2_push cX2_push 2 none) ({ frames := 3, cells := 0, slots := 0, locals := 82 } : Room) (va_Pc [.ref q0, .ref q2] (mP (dC, dI) (ts cc) sz [(q0, .inr (2, [.ref q1, .int height])), (q1, .inl (cc 3, 2, .inr (.inr (.inr (.inr fun j => some (qa (pp j))))))), ((qa 0), .inr (4, [.ref (qb 0), .int (CK 0), .int (CY 0)])), ((qb 0), .inl (cc 0, 50, .inl (CC 0))), ((qa 1), .inr (4, [.ref (qb 1), .int (CK 1), .int (CY 1)])), ((qb 1), .inl (cc 0, 50, .inl (CC 1))), (q2, .inr (4, [.ref q3, .int o1_clogs, .int o1_day])), (q3, .inl (cc 0, 50, .inl o1_cells))])) ((fun A => va_Qv (fun (w : (Nat → Nat) × (Nat → Nat → Int32) × (Nat → Int32) × (Nat → Int32) × Int32) => w = (o_pp, o_CC, o_CK, o_CY, o_height)) (fun (w : (Nat → Nat) × (Nat → Nat → Int32) × (Nat → Int32) × (Nat → Int32) × Int32) t => va_P (dC, dI) classes [(q0, .inr (2, [.ref q1, .int w.2.2.2.2])), (q1, .inl (cc 3, 2, .inr (.inr (.inr (.inr fun j => some (qa (w.1 j))))))), ((qa 0), .inr (4, [.ref (qb 0), .int (w.2.2.1 0), .int (w.2.2.2.1 0)])), ((qb 0), .inl (cc 0, 50, .inl (w.2.1 0))), ((qa 1), .inr (4, [.ref (qb 1), .int (w.2.2.1 1), .int (w.2.2.2.1 1)])), ((qb 1), .inl (cc 0, 50, .inl (w.2.1 1))), (q2, .inr (4, [.ref q3, .int o1_clogs, .int o1_day])), (q3, .inl (cc 0, 50, .inl o1_cells))] t.heap) A) (va_A [(q0, .inr (2, [.ref q1, .int height])), (q1, .inl (cc 3, 2, .inr (.inr (.inr (.inr fun j => some (qa (pp j))))))), ((qa 0), .inr (4, [.ref (qb 0), .int (CK 0), .int (CY 0)])), ((qb 0), .inl (cc 0, 50, .inl (CC 0))), ((qa 1), .inr (4, [.ref (qb 1), .int (CK 1), .int (CY 1)])), ((qb 1), .inl (cc 0, 50, .inl (CC 1))), (q2, .inr (4, [.ref q3, .int o1_clogs, .int o1_day])), (q3, .inl (cc 0, 50, .inl o1_cells))] sz)) 0 0 (va_A [(q0, .inr (2, [.ref q1, .int height])), (q1, .inl (cc 3, 2, .inr (.inr (.inr (.inr fun j => some (qa (pp j))))))), ((qa 0), .inr (4, [.ref (qb 0), .int (CK 0), .int (CY 0)])), ((qb 0), .inl (cc 0, 50, .inl (CC 0))), ((qa 1), .inr (4, [.ref (qb 1), .int (CK 1), .int (CY 1)])), ((qb 1), .inl (cc 0, 50, .inl (CC 1))), (q2, .inr (4, [.ref q3, .int o1_clogs, .int o1_day])), (q3, .inl (cc 0, 50, .inl o1_cells))] sz) := by
  refine met_go (Qc := fun A => va_Qv (fun (w : (Nat → Nat) × (Nat → Nat → Int32) × (Nat → Int32) × (Nat → Int32) × Int32) => w = (o_pp, o_CC, o_CK, o_CY, o_height)) (fun (w : (Nat → Nat) × (Nat → Nat → Int32) × (Nat → Int32) × (Nat → Int32) × Int32) t => va_P (dC, dI) classes [(q0, .inr (2, [.ref q1, .int w.2.2.2.2])), (q1, .inl (cc 3, 2, .inr (.inr (.inr (.inr fun j => some (qa (w.1 j))))))), ((qa 0), .inr (4, [.ref (qb 0), .int (w.2.2.1 0), .int (w.2.2.2.1 0)])), ((qb 0), .inl (cc 0, 50, .inl (w.2.1 0))), ((qa 1), .inr (4, [.ref (qb 1), .int (w.2.2.1 1), .int (w.2.2.2.1 1)])), ((qb 1), .inl (cc 0, 50, .inl (w.2.1 1))), (q2, .inr (4, [.ref q3, .int o1_clogs, .int o1_day])), (q3, .inl (cc 0, 50, .inl o1_cells))] t.heap) A) (by decide) (Nat.le_of_ble_eq_true rfl) ?_
  intro p e s m below meth c A ls H locs hC hr hlk hin hA hP hl _
  have hC : CX p m c cX2_push 2 s ([.ref q0, .ref q2] : List Value).toArray RX2 (dC, dI) (ts cc) := hC
  have hx := hC.1.1
  have hb := hC.1.2
  have h := hu
  have hu0 := hu
  unfold f_X2_push_2 at h
  have hl : lv_has ls 2 [(0, .ref q0), (1, .ref q2)] := hl
  refine lv_aload_n hx hb dX2_push_0 rfl (lv_at hl 0 rfl) ?_
  obtain ⟨r1, hu, h⟩ := bnd_h h
  refine kc_z (kV hC (c_X2_isFull_2 l dC dI cc q0 q1 qa qb height pp H.size r1 hu) cv_X2_26 kw495 rfl rfl ⟨(Nat.le_of_ble_eq_true rfl), (Nat.le_of_ble_eq_true rfl)⟩ hP [0, 1] rfl rfl rfl (q0 := 0) rfl (As := []) (rest := []) rfl rfl hl.1 (Nat.le_of_ble_eq_true rfl) dX2_push_1 ⟨Nat.zero_le _, Nat.zero_le _⟩) hP hA [0, 1] rfl rfl (fun hz_r1 H locs hP => ?_)
  have hP : PD (dC, dI) A s.heap [(q0, .inr (2, [.ref q1, .int height])), (q1, .inl (cc 3, 2, .inr (.inr (.inr (.inr fun j => some (qa (pp j))))))), ((qa 0), .inr (4, [.ref (qb 0), .int (CK 0), .int (CY 0)])), ((qb 0), .inl (cc 0, 50, .inl (CC 0))), ((qa 1), .inr (4, [.ref (qb 1), .int (CK 1), .int (CY 1)])), ((qb 1), .inl (cc 0, 50, .inl (CC 1))), (q2, .inr (4, [.ref q3, .int o1_clogs, .int o1_day])), (q3, .inl (cc 0, 50, .inl o1_cells))] H locs := hP
  refine lv_if_eq (tgt := 11) hx hb dX2_push_4 (by decide) (fun c2 => ?_) (fun c2 => ?_)
  · have h := if_t c2 h
    refine lv_aload_n hx hb dX2_push_11 rfl (lv_at hl 0 rfl) ?_
    refine g_get hC hP fg_X2_22 0 rfl rfl dX2_push_12 ?_
    refine lv_if_lt (tgt := 65) hx hb dX2_push_15 (by decide) (fun c3 => ?_) (fun c3 => ?_)
    · have h := if_t c3 h
      exact ret_v hC hr hlk hP dX2_push_65 (pp, CC, CK, CY, height) (Option.some.inj h) rfl
    · have h := if_f c3 h
      refine lv_aload_n hx hb dX2_push_18 rfl (lv_at hl 0 rfl) ?_
      refine g_get hC hP fg_X2_22 0 rfl rfl dX2_push_19 ?_
      refine lv_aload_n hx hb dX2_push_22 rfl (lv_at hl 0 rfl) ?_
      refine g_get hC hP fg_X2_15 0 rfl rfl dX2_push_23 ?_
      refine g_alen hC hP 1 3 rfl rfl (v := 2) rfl dX2_push_26 ?_
      refine lv_icmp_ge (tgt := 65) hx hb dX2_push_27 (by decide) (fun c4 => ?_) (fun c4 => ?_)
      · have h := if_t c4 h
        exact ret_v hC hr hlk hP dX2_push_65 (pp, CC, CK, CY, height) (Option.some.inj h) rfl
      · have h := if_f c4 h
        refine lv_aload_n hx hb dX2_push_30 rfl (lv_at hl 0 rfl) ?_
        refine g_get hC hP fg_X2_15 0 rfl rfl dX2_push_31 ?_
        refine lv_aload_n hx hb dX2_push_34 rfl (lv_at hl 0 rfl) ?_
        refine g_get hC hP fg_X2_22 0 rfl rfl dX2_push_35 ?_
        obtain ⟨hin, hkN, h⟩ := rdp_h h
        refine g_aaldP hC hP 1 3 rfl rfl hin dX2_push_38 (fun k5 ek => ?_)
        have h := h k5 ek
        have hN_k5 : k5 < 2 := by rw [ek]; exact hkN
        refine lv_ifnull hx hb dX2_push_39 ?_
        refine lv_aload_n hx hb dX2_push_42 rfl (lv_at hl 0 rfl) ?_
        refine g_get hC hP fg_X2_15 0 rfl rfl dX2_push_43 ?_
        refine lv_aload_n hx hb dX2_push_46 rfl (lv_at hl 0 rfl) ?_
        refine g_get hC hP fg_X2_22 0 rfl rfl dX2_push_47 ?_
        obtain ⟨hin, hkN, h⟩ := rdp_h h
        refine g_aaldP hC hP 1 3 rfl rfl hin dX2_push_50 (fun k6 ek => ?_)
        have h := h k6 ek
        have hN_k6 : k6 < 2 := by rw [ek]; exact hkN
        refine lv_aload_n hx hb dX2_push_51 rfl (lv_at hl 1 rfl) ?_
        rcases lt2 hN_k6 with e | e
        · subst e
          obtain ⟨⟨w7, w8, w9⟩, hu, h⟩ := bnd_h h
          refine kc_v (kV hC (c_X4_copy l dC dI cc (qa 0) (qb 0) q2 q3 (CK 0) (CY 0) (CC 0) o1_clogs o1_day o1_cells H.size w7 w8 w9 hu) cv_X2_33 kw372 rfl rfl ⟨(Nat.le_of_ble_eq_true rfl), (Nat.le_of_ble_eq_true rfl)⟩ hP [2, 3, 6, 7] rfl rfl rfl (q0 := 2) rfl (As := [.ref q2]) (rest := []) rfl rfl hl.1 (Nat.le_of_ble_eq_true rfl) dX2_push_52 ⟨Nat.zero_le _, Nat.zero_le _⟩) hP hA [2, 3, 6, 7] rfl rfl (fun H locs hP => ?_)
          have hP : PD (dC, dI) A s.heap [(q0, .inr (2, [.ref q1, .int height])), (q1, .inl (cc 3, 2, .inr (.inr (.inr (.inr fun j => some (qa (pp j))))))), ((qa 0), .inr (4, [.ref (qb 0), .int w8, .int w9])), ((qb 0), .inl (cc 0, 50, .inl w7)), ((qa 1), .inr (4, [.ref (qb 1), .int (CK 1), .int (CY 1)])), ((qb 1), .inl (cc 0, 50, .inl (CC 1))), (q2, .inr (4, [.ref q3, .int o1_clogs, .int o1_day])), (q3, .inl (cc 0, 50, .inl o1_cells))] H locs := hP
          have hP : PD (dC, dI) A s.heap [(q0, .inr (2, [.ref q1, .int height])), (q1, .inl (cc 3, 2, .inr (.inr (.inr (.inr fun j => some (qa (pp j))))))), ((qa 0), .inr (4, [.ref (qb 0), .int ((va_up CK 0 w8) 0), .int ((va_up CY 0 w9) 0)])), ((qb 0), .inl (cc 0, 50, .inl ((va_up CC 0 w7) 0))), ((qa 1), .inr (4, [.ref (qb 1), .int ((va_up CK 0 w8) 1), .int ((va_up CY 0 w9) 1)])), ((qb 1), .inl (cc 0, 50, .inl ((va_up CC 0 w7) 1))), (q2, .inr (4, [.ref q3, .int o1_clogs, .int o1_day])), (q3, .inl (cc 0, 50, .inl o1_cells))] H locs := hP
          refine lv_aload_n hx hb dX2_push_55 rfl (lv_at hl 0 rfl) ?_
          refine lv_dup hx hb dX2_push_56 rfl ?_
          refine g_get hC hP fg_X2_22 0 rfl rfl dX2_push_57 ?_
          refine lv_iconst (v := 1) hx hb dX2_push_60 (by decide) ?_
          refine lv_iadd hx hb dX2_push_61 ?_
          refine g_put hC hP fg_X2_22 0 rfl rfl rfl (Nat.le_of_ble_eq_true rfl) dX2_push_62 (fun H locs hP => ?_)
          have hP : PD (dC, dI) A s.heap [(q0, .inr (2, [.ref q1, .int (height + 1)])), (q1, .inl (cc 3, 2, .inr (.inr (.inr (.inr fun j => some (qa (pp j))))))), ((qa 0), .inr (4, [.ref (qb 0), .int ((va_up CK 0 w8) 0), .int ((va_up CY 0 w9) 0)])), ((qb 0), .inl (cc 0, 50, .inl ((va_up CC 0 w7) 0))), ((qa 1), .inr (4, [.ref (qb 1), .int ((va_up CK 0 w8) 1), .int ((va_up CY 0 w9) 1)])), ((qb 1), .inl (cc 0, 50, .inl ((va_up CC 0 w7) 1))), (q2, .inr (4, [.ref q3, .int o1_clogs, .int o1_day])), (q3, .inl (cc 0, 50, .inl o1_cells))] H locs := hP
          exact ret_v hC hr hlk hP dX2_push_65 (pp, (va_up CC 0 w7), (va_up CK 0 w8), (va_up CY 0 w9), (height + 1)) (Option.some.inj h) rfl
        · subst e
          obtain ⟨⟨w7, w8, w9⟩, hu, h⟩ := bnd_h h
          refine kc_v (kV hC (c_X4_copy l dC dI cc (qa 1) (qb 1) q2 q3 (CK 1) (CY 1) (CC 1) o1_clogs o1_day o1_cells H.size w7 w8 w9 hu) cv_X2_33 kw372 rfl rfl ⟨(Nat.le_of_ble_eq_true rfl), (Nat.le_of_ble_eq_true rfl)⟩ hP [4, 5, 6, 7] rfl rfl rfl (q0 := 4) rfl (As := [.ref q2]) (rest := []) rfl rfl hl.1 (Nat.le_of_ble_eq_true rfl) dX2_push_52 ⟨Nat.zero_le _, Nat.zero_le _⟩) hP hA [4, 5, 6, 7] rfl rfl (fun H locs hP => ?_)
          have hP : PD (dC, dI) A s.heap [(q0, .inr (2, [.ref q1, .int height])), (q1, .inl (cc 3, 2, .inr (.inr (.inr (.inr fun j => some (qa (pp j))))))), ((qa 0), .inr (4, [.ref (qb 0), .int (CK 0), .int (CY 0)])), ((qb 0), .inl (cc 0, 50, .inl (CC 0))), ((qa 1), .inr (4, [.ref (qb 1), .int w8, .int w9])), ((qb 1), .inl (cc 0, 50, .inl w7)), (q2, .inr (4, [.ref q3, .int o1_clogs, .int o1_day])), (q3, .inl (cc 0, 50, .inl o1_cells))] H locs := hP
          have hP : PD (dC, dI) A s.heap [(q0, .inr (2, [.ref q1, .int height])), (q1, .inl (cc 3, 2, .inr (.inr (.inr (.inr fun j => some (qa (pp j))))))), ((qa 0), .inr (4, [.ref (qb 0), .int ((va_up CK 1 w8) 0), .int ((va_up CY 1 w9) 0)])), ((qb 0), .inl (cc 0, 50, .inl ((va_up CC 1 w7) 0))), ((qa 1), .inr (4, [.ref (qb 1), .int ((va_up CK 1 w8) 1), .int ((va_up CY 1 w9) 1)])), ((qb 1), .inl (cc 0, 50, .inl ((va_up CC 1 w7) 1))), (q2, .inr (4, [.ref q3, .int o1_clogs, .int o1_day])), (q3, .inl (cc 0, 50, .inl o1_cells))] H locs := hP
          refine lv_aload_n hx hb dX2_push_55 rfl (lv_at hl 0 rfl) ?_
          refine lv_dup hx hb dX2_push_56 rfl ?_
          refine g_get hC hP fg_X2_22 0 rfl rfl dX2_push_57 ?_
          refine lv_iconst (v := 1) hx hb dX2_push_60 (by decide) ?_
          refine lv_iadd hx hb dX2_push_61 ?_
          refine g_put hC hP fg_X2_22 0 rfl rfl rfl (Nat.le_of_ble_eq_true rfl) dX2_push_62 (fun H locs hP => ?_)
          have hP : PD (dC, dI) A s.heap [(q0, .inr (2, [.ref q1, .int (height + 1)])), (q1, .inl (cc 3, 2, .inr (.inr (.inr (.inr fun j => some (qa (pp j))))))), ((qa 0), .inr (4, [.ref (qb 0), .int ((va_up CK 1 w8) 0), .int ((va_up CY 1 w9) 0)])), ((qb 0), .inl (cc 0, 50, .inl ((va_up CC 1 w7) 0))), ((qa 1), .inr (4, [.ref (qb 1), .int ((va_up CK 1 w8) 1), .int ((va_up CY 1 w9) 1)])), ((qb 1), .inl (cc 0, 50, .inl ((va_up CC 1 w7) 1))), (q2, .inr (4, [.ref q3, .int o1_clogs, .int o1_day])), (q3, .inl (cc 0, 50, .inl o1_cells))] H locs := hP
          exact ret_v hC hr hlk hP dX2_push_65 (pp, (va_up CC 1 w7), (va_up CK 1 w8), (va_up CY 1 w9), (height + 1)) (Option.some.inj h) rfl
  · have h := if_f c2 h
    refine lv_aload_n hx hb dX2_push_7 rfl (lv_at hl 0 rfl) ?_
    obtain ⟨⟨w10, w11⟩, hu, h⟩ := bnd_h h
    refine kc_v (kV hC (c_X2_dropLowest_2 l dC dI cc q0 q1 qa qb height pp CC CK CY H.size w10 w11 hu) cv_X2_30 kw499 rfl rfl ⟨(Nat.le_of_ble_eq_true rfl), (Nat.le_of_ble_eq_true rfl)⟩ hP [0, 1, 2, 3, 4, 5] rfl rfl rfl (q0 := 0) rfl (As := []) (rest := []) rfl rfl hl.1 (Nat.le_of_ble_eq_true rfl) dX2_push_8 ⟨Nat.zero_le _, Nat.zero_le _⟩) hP hA [0, 1, 2, 3, 4, 5] rfl rfl (fun H locs hP => ?_)
    have hP : PD (dC, dI) A s.heap [(q0, .inr (2, [.ref q1, .int w11])), (q1, .inl (cc 3, 2, .inr (.inr (.inr (.inr fun j => some (qa (w10 j))))))), ((qa 0), .inr (4, [.ref (qb 0), .int (CK 0), .int (CY 0)])), ((qb 0), .inl (cc 0, 50, .inl (CC 0))), ((qa 1), .inr (4, [.ref (qb 1), .int (CK 1), .int (CY 1)])), ((qb 1), .inl (cc 0, 50, .inl (CC 1))), (q2, .inr (4, [.ref q3, .int o1_clogs, .int o1_day])), (q3, .inl (cc 0, 50, .inl o1_cells))] H locs := hP
    refine lv_aload_n hx hb dX2_push_11 rfl (lv_at hl 0 rfl) ?_
    refine g_get hC hP fg_X2_22 0 rfl rfl dX2_push_12 ?_
    refine lv_if_lt (tgt := 65) hx hb dX2_push_15 (by decide) (fun c12 => ?_) (fun c12 => ?_)
    · have h := if_t c12 h
      exact ret_v hC hr hlk hP dX2_push_65 (w10, CC, CK, CY, w11) (Option.some.inj h) rfl
    · have h := if_f c12 h
      refine lv_aload_n hx hb dX2_push_18 rfl (lv_at hl 0 rfl) ?_
      refine g_get hC hP fg_X2_22 0 rfl rfl dX2_push_19 ?_
      refine lv_aload_n hx hb dX2_push_22 rfl (lv_at hl 0 rfl) ?_
      refine g_get hC hP fg_X2_15 0 rfl rfl dX2_push_23 ?_
      refine g_alen hC hP 1 3 rfl rfl (v := 2) rfl dX2_push_26 ?_
      refine lv_icmp_ge (tgt := 65) hx hb dX2_push_27 (by decide) (fun c13 => ?_) (fun c13 => ?_)
      · have h := if_t c13 h
        exact ret_v hC hr hlk hP dX2_push_65 (w10, CC, CK, CY, w11) (Option.some.inj h) rfl
      · have h := if_f c13 h
        refine lv_aload_n hx hb dX2_push_30 rfl (lv_at hl 0 rfl) ?_
        refine g_get hC hP fg_X2_15 0 rfl rfl dX2_push_31 ?_
        refine lv_aload_n hx hb dX2_push_34 rfl (lv_at hl 0 rfl) ?_
        refine g_get hC hP fg_X2_22 0 rfl rfl dX2_push_35 ?_
        obtain ⟨hin, hkN, h⟩ := rdp_h h
        refine g_aaldP hC hP 1 3 rfl rfl hin dX2_push_38 (fun k14 ek => ?_)
        have h := h k14 ek
        have hN_k14 : k14 < 2 := by rw [ek]; exact hkN
        refine lv_ifnull hx hb dX2_push_39 ?_
        refine lv_aload_n hx hb dX2_push_42 rfl (lv_at hl 0 rfl) ?_
        refine g_get hC hP fg_X2_15 0 rfl rfl dX2_push_43 ?_
        refine lv_aload_n hx hb dX2_push_46 rfl (lv_at hl 0 rfl) ?_
        refine g_get hC hP fg_X2_22 0 rfl rfl dX2_push_47 ?_
        obtain ⟨hin, hkN, h⟩ := rdp_h h
        refine g_aaldP hC hP 1 3 rfl rfl hin dX2_push_50 (fun k15 ek => ?_)
        have h := h k15 ek
        have hN_k15 : k15 < 2 := by rw [ek]; exact hkN
        refine lv_aload_n hx hb dX2_push_51 rfl (lv_at hl 1 rfl) ?_
        rcases lt2 hN_k15 with e | e
        · subst e
          obtain ⟨⟨w16, w17, w18⟩, hu, h⟩ := bnd_h h
          refine kc_v (kV hC (c_X4_copy l dC dI cc (qa 0) (qb 0) q2 q3 (CK 0) (CY 0) (CC 0) o1_clogs o1_day o1_cells H.size w16 w17 w18 hu) cv_X2_33 kw372 rfl rfl ⟨(Nat.le_of_ble_eq_true rfl), (Nat.le_of_ble_eq_true rfl)⟩ hP [2, 3, 6, 7] rfl rfl rfl (q0 := 2) rfl (As := [.ref q2]) (rest := []) rfl rfl hl.1 (Nat.le_of_ble_eq_true rfl) dX2_push_52 ⟨Nat.zero_le _, Nat.zero_le _⟩) hP hA [2, 3, 6, 7] rfl rfl (fun H locs hP => ?_)
          have hP : PD (dC, dI) A s.heap [(q0, .inr (2, [.ref q1, .int w11])), (q1, .inl (cc 3, 2, .inr (.inr (.inr (.inr fun j => some (qa (w10 j))))))), ((qa 0), .inr (4, [.ref (qb 0), .int w17, .int w18])), ((qb 0), .inl (cc 0, 50, .inl w16)), ((qa 1), .inr (4, [.ref (qb 1), .int (CK 1), .int (CY 1)])), ((qb 1), .inl (cc 0, 50, .inl (CC 1))), (q2, .inr (4, [.ref q3, .int o1_clogs, .int o1_day])), (q3, .inl (cc 0, 50, .inl o1_cells))] H locs := hP
          have hP : PD (dC, dI) A s.heap [(q0, .inr (2, [.ref q1, .int w11])), (q1, .inl (cc 3, 2, .inr (.inr (.inr (.inr fun j => some (qa (w10 j))))))), ((qa 0), .inr (4, [.ref (qb 0), .int ((va_up CK 0 w17) 0), .int ((va_up CY 0 w18) 0)])), ((qb 0), .inl (cc 0, 50, .inl ((va_up CC 0 w16) 0))), ((qa 1), .inr (4, [.ref (qb 1), .int ((va_up CK 0 w17) 1), .int ((va_up CY 0 w18) 1)])), ((qb 1), .inl (cc 0, 50, .inl ((va_up CC 0 w16) 1))), (q2, .inr (4, [.ref q3, .int o1_clogs, .int o1_day])), (q3, .inl (cc 0, 50, .inl o1_cells))] H locs := hP
          refine lv_aload_n hx hb dX2_push_55 rfl (lv_at hl 0 rfl) ?_
          refine lv_dup hx hb dX2_push_56 rfl ?_
          refine g_get hC hP fg_X2_22 0 rfl rfl dX2_push_57 ?_
          refine lv_iconst (v := 1) hx hb dX2_push_60 (by decide) ?_
          refine lv_iadd hx hb dX2_push_61 ?_
          refine g_put hC hP fg_X2_22 0 rfl rfl rfl (Nat.le_of_ble_eq_true rfl) dX2_push_62 (fun H locs hP => ?_)
          have hP : PD (dC, dI) A s.heap [(q0, .inr (2, [.ref q1, .int (w11 + 1)])), (q1, .inl (cc 3, 2, .inr (.inr (.inr (.inr fun j => some (qa (w10 j))))))), ((qa 0), .inr (4, [.ref (qb 0), .int ((va_up CK 0 w17) 0), .int ((va_up CY 0 w18) 0)])), ((qb 0), .inl (cc 0, 50, .inl ((va_up CC 0 w16) 0))), ((qa 1), .inr (4, [.ref (qb 1), .int ((va_up CK 0 w17) 1), .int ((va_up CY 0 w18) 1)])), ((qb 1), .inl (cc 0, 50, .inl ((va_up CC 0 w16) 1))), (q2, .inr (4, [.ref q3, .int o1_clogs, .int o1_day])), (q3, .inl (cc 0, 50, .inl o1_cells))] H locs := hP
          exact ret_v hC hr hlk hP dX2_push_65 (w10, (va_up CC 0 w16), (va_up CK 0 w17), (va_up CY 0 w18), (w11 + 1)) (Option.some.inj h) rfl
        · subst e
          obtain ⟨⟨w16, w17, w18⟩, hu, h⟩ := bnd_h h
          refine kc_v (kV hC (c_X4_copy l dC dI cc (qa 1) (qb 1) q2 q3 (CK 1) (CY 1) (CC 1) o1_clogs o1_day o1_cells H.size w16 w17 w18 hu) cv_X2_33 kw372 rfl rfl ⟨(Nat.le_of_ble_eq_true rfl), (Nat.le_of_ble_eq_true rfl)⟩ hP [4, 5, 6, 7] rfl rfl rfl (q0 := 4) rfl (As := [.ref q2]) (rest := []) rfl rfl hl.1 (Nat.le_of_ble_eq_true rfl) dX2_push_52 ⟨Nat.zero_le _, Nat.zero_le _⟩) hP hA [4, 5, 6, 7] rfl rfl (fun H locs hP => ?_)
          have hP : PD (dC, dI) A s.heap [(q0, .inr (2, [.ref q1, .int w11])), (q1, .inl (cc 3, 2, .inr (.inr (.inr (.inr fun j => some (qa (w10 j))))))), ((qa 0), .inr (4, [.ref (qb 0), .int (CK 0), .int (CY 0)])), ((qb 0), .inl (cc 0, 50, .inl (CC 0))), ((qa 1), .inr (4, [.ref (qb 1), .int w17, .int w18])), ((qb 1), .inl (cc 0, 50, .inl w16)), (q2, .inr (4, [.ref q3, .int o1_clogs, .int o1_day])), (q3, .inl (cc 0, 50, .inl o1_cells))] H locs := hP
          have hP : PD (dC, dI) A s.heap [(q0, .inr (2, [.ref q1, .int w11])), (q1, .inl (cc 3, 2, .inr (.inr (.inr (.inr fun j => some (qa (w10 j))))))), ((qa 0), .inr (4, [.ref (qb 0), .int ((va_up CK 1 w17) 0), .int ((va_up CY 1 w18) 0)])), ((qb 0), .inl (cc 0, 50, .inl ((va_up CC 1 w16) 0))), ((qa 1), .inr (4, [.ref (qb 1), .int ((va_up CK 1 w17) 1), .int ((va_up CY 1 w18) 1)])), ((qb 1), .inl (cc 0, 50, .inl ((va_up CC 1 w16) 1))), (q2, .inr (4, [.ref q3, .int o1_clogs, .int o1_day])), (q3, .inl (cc 0, 50, .inl o1_cells))] H locs := hP
          refine lv_aload_n hx hb dX2_push_55 rfl (lv_at hl 0 rfl) ?_
          refine lv_dup hx hb dX2_push_56 rfl ?_
          refine g_get hC hP fg_X2_22 0 rfl rfl dX2_push_57 ?_
          refine lv_iconst (v := 1) hx hb dX2_push_60 (by decide) ?_
          refine lv_iadd hx hb dX2_push_61 ?_
          refine g_put hC hP fg_X2_22 0 rfl rfl rfl (Nat.le_of_ble_eq_true rfl) dX2_push_62 (fun H locs hP => ?_)
          have hP : PD (dC, dI) A s.heap [(q0, .inr (2, [.ref q1, .int (w11 + 1)])), (q1, .inl (cc 3, 2, .inr (.inr (.inr (.inr fun j => some (qa (w10 j))))))), ((qa 0), .inr (4, [.ref (qb 0), .int ((va_up CK 1 w17) 0), .int ((va_up CY 1 w18) 0)])), ((qb 0), .inl (cc 0, 50, .inl ((va_up CC 1 w16) 0))), ((qa 1), .inr (4, [.ref (qb 1), .int ((va_up CK 1 w17) 1), .int ((va_up CY 1 w18) 1)])), ((qb 1), .inl (cc 0, 50, .inl ((va_up CC 1 w16) 1))), (q2, .inr (4, [.ref q3, .int o1_clogs, .int o1_day])), (q3, .inl (cc 0, 50, .inl o1_cells))] H locs := hP
          exact ret_v hC hr hlk hP dX2_push_65 (w10, (va_up CC 1 w16), (va_up CK 1 w17), (va_up CY 1 w18), (w11 + 1)) (Option.some.inj h) rfl
set_option maxHeartbeats 8000000 in
set_option maxRecDepth 100000 in
theorem c_X2_popInto_2 (l : Launch) (dC : Nat → ClassId) (dI : Nat → Nat → Nat) (cc : Nat → ClassId) (q0 q1 q2 q3 : Nat) (qa qb : Nat → Nat) (height : Int32) (pp : (Nat → Nat)) (CC : (Nat → Nat → Int32)) (CK : (Nat → Int32)) (CY : (Nat → Int32)) (o1_clogs : Int32) (o1_day : Int32) (o1_cells : (Nat → Int32)) (sz : Nat) (ret : Int32) (o_height : Int32) (o_o1_cells : (Nat → Int32)) (o_o1_clogs : Int32) (o_o1_day : Int32) (hu : f_X2_popInto_2 height pp CC CK CY o1_clogs o1_day o1_cells = some (ret, o_height, o_o1_cells, o_o1_clogs, o_o1_day)) : Met l yX2_popInto (mw yX2_popInto cX2_popInto 2 (some .boolean)) ({ frames := 3, cells := 0, slots := 0, locals := 82 } : Room) (va_Pc [.ref q0, .ref q2] (mP (dC, dI) (ts cc) sz [(q0, .inr (2, [.ref q1, .int height])), (q1, .inl (cc 3, 2, .inr (.inr (.inr (.inr fun j => some (qa (pp j))))))), ((qa 0), .inr (4, [.ref (qb 0), .int (CK 0), .int (CY 0)])), ((qb 0), .inl (cc 0, 50, .inl (CC 0))), ((qa 1), .inr (4, [.ref (qb 1), .int (CK 1), .int (CY 1)])), ((qb 1), .inl (cc 0, 50, .inl (CC 1))), (q2, .inr (4, [.ref q3, .int o1_clogs, .int o1_day])), (q3, .inl (cc 0, 50, .inl o1_cells))])) ((fun A => va_Qi (fun (r : Int32) (w : Int32 × (Nat → Int32) × Int32 × Int32) => narrow .boolean (.int r) = .int r ∧ (r = ret ∧ w = (o_height, o_o1_cells, o_o1_clogs, o_o1_day))) (fun (w : Int32 × (Nat → Int32) × Int32 × Int32) t => va_P (dC, dI) classes [(q0, .inr (2, [.ref q1, .int w.1])), (q1, .inl (cc 3, 2, .inr (.inr (.inr (.inr fun j => some (qa (pp j))))))), ((qa 0), .inr (4, [.ref (qb 0), .int (CK 0), .int (CY 0)])), ((qb 0), .inl (cc 0, 50, .inl (CC 0))), ((qa 1), .inr (4, [.ref (qb 1), .int (CK 1), .int (CY 1)])), ((qb 1), .inl (cc 0, 50, .inl (CC 1))), (q2, .inr (4, [.ref q3, .int w.2.2.1, .int w.2.2.2])), (q3, .inl (cc 0, 50, .inl w.2.1))] t.heap) A) (va_A [(q0, .inr (2, [.ref q1, .int height])), (q1, .inl (cc 3, 2, .inr (.inr (.inr (.inr fun j => some (qa (pp j))))))), ((qa 0), .inr (4, [.ref (qb 0), .int (CK 0), .int (CY 0)])), ((qb 0), .inl (cc 0, 50, .inl (CC 0))), ((qa 1), .inr (4, [.ref (qb 1), .int (CK 1), .int (CY 1)])), ((qb 1), .inl (cc 0, 50, .inl (CC 1))), (q2, .inr (4, [.ref q3, .int o1_clogs, .int o1_day])), (q3, .inl (cc 0, 50, .inl o1_cells))] sz)) 0 0 (va_A [(q0, .inr (2, [.ref q1, .int height])), (q1, .inl (cc 3, 2, .inr (.inr (.inr (.inr fun j => some (qa (pp j))))))), ((qa 0), .inr (4, [.ref (qb 0), .int (CK 0), .int (CY 0)])), ((qb 0), .inl (cc 0, 50, .inl (CC 0))), ((qa 1), .inr (4, [.ref (qb 1), .int (CK 1), .int (CY 1)])), ((qb 1), .inl (cc 0, 50, .inl (CC 1))), (q2, .inr (4, [.ref q3, .int o1_clogs, .int o1_day])), (q3, .inl (cc 0, 50, .inl o1_cells))] sz) := by
  refine met_go (Qc := fun A => va_Qi (fun (r : Int32) (w : Int32 × (Nat → Int32) × Int32 × Int32) => narrow .boolean (.int r) = .int r ∧ (r = ret ∧ w = (o_height, o_o1_cells, o_o1_clogs, o_o1_day))) (fun (w : Int32 × (Nat → Int32) × Int32 × Int32) t => va_P (dC, dI) classes [(q0, .inr (2, [.ref q1, .int w.1])), (q1, .inl (cc 3, 2, .inr (.inr (.inr (.inr fun j => some (qa (pp j))))))), ((qa 0), .inr (4, [.ref (qb 0), .int (CK 0), .int (CY 0)])), ((qb 0), .inl (cc 0, 50, .inl (CC 0))), ((qa 1), .inr (4, [.ref (qb 1), .int (CK 1), .int (CY 1)])), ((qb 1), .inl (cc 0, 50, .inl (CC 1))), (q2, .inr (4, [.ref q3, .int w.2.2.1, .int w.2.2.2])), (q3, .inl (cc 0, 50, .inl w.2.1))] t.heap) A) (by decide) (Nat.le_of_ble_eq_true rfl) ?_
  intro p e s m below meth c A ls H locs hC hr hlk hin hA hP hl _
  have hC : CX p m c cX2_popInto 2 s ([.ref q0, .ref q2] : List Value).toArray RX2 (dC, dI) (ts cc) := hC
  have hx := hC.1.1
  have hb := hC.1.2
  have h := hu
  have hu0 := hu
  unfold f_X2_popInto_2 at h
  have hl : lv_has ls 2 [(0, .ref q0), (1, .ref q2)] := hl
  refine lv_aload_n hx hb dX2_popInto_0 rfl (lv_at hl 1 rfl) ?_
  refine lv_ifnull hx hb dX2_popInto_1 ?_
  refine lv_aload_n hx hb dX2_popInto_4 rfl (lv_at hl 0 rfl) ?_
  refine g_get hC hP fg_X2_22 0 rfl rfl dX2_popInto_5 ?_
  refine lv_if_le (tgt := 23) hx hb dX2_popInto_8 (by decide) (fun c1 => ?_) (fun c1 => ?_)
  · have h := if_t c1 h
    refine lv_iconst (v := 0) hx hb dX2_popInto_23 (by decide) ?_
    exact ret_z hC hr rfl hlk hP dX2_popInto_24 (height, o1_cells, o1_clogs, o1_day) (Prod.mk.inj (Option.some.inj h)) rfl
  · have h := if_f c1 h
    refine lv_aload_n hx hb dX2_popInto_11 rfl (lv_at hl 0 rfl) ?_
    refine g_get hC hP fg_X2_22 0 rfl rfl dX2_popInto_12 ?_
    refine lv_aload_n hx hb dX2_popInto_15 rfl (lv_at hl 0 rfl) ?_
    refine g_get hC hP fg_X2_15 0 rfl rfl dX2_popInto_16 ?_
    refine g_alen hC hP 1 3 rfl rfl (v := 2) rfl dX2_popInto_19 ?_
    refine lv_icmp_le (tgt := 25) hx hb dX2_popInto_20 (by decide) (fun c2 => ?_) (fun c2 => ?_)
    · have h := if_t c2 h
      refine lv_aload_n hx hb dX2_popInto_25 rfl (lv_at hl 0 rfl) ?_
      refine lv_dup hx hb dX2_popInto_26 rfl ?_
      refine g_get hC hP fg_X2_22 0 rfl rfl dX2_popInto_27 ?_
      refine lv_iconst (v := 1) hx hb dX2_popInto_30 (by decide) ?_
      refine lv_isub hx hb dX2_popInto_31 ?_
      refine g_put hC hP fg_X2_22 0 rfl rfl rfl (Nat.le_of_ble_eq_true rfl) dX2_popInto_32 (fun H locs hP => ?_)
      have hP : PD (dC, dI) A s.heap [(q0, .inr (2, [.ref q1, .int (height - 1)])), (q1, .inl (cc 3, 2, .inr (.inr (.inr (.inr fun j => some (qa (pp j))))))), ((qa 0), .inr (4, [.ref (qb 0), .int (CK 0), .int (CY 0)])), ((qb 0), .inl (cc 0, 50, .inl (CC 0))), ((qa 1), .inr (4, [.ref (qb 1), .int (CK 1), .int (CY 1)])), ((qb 1), .inl (cc 0, 50, .inl (CC 1))), (q2, .inr (4, [.ref q3, .int o1_clogs, .int o1_day])), (q3, .inl (cc 0, 50, .inl o1_cells))] H locs := hP
      refine lv_aload_n hx hb dX2_popInto_35 rfl (lv_at hl 1 rfl) ?_
      refine lv_aload_n hx hb dX2_popInto_36 rfl (lv_at hl 0 rfl) ?_
      refine g_get hC hP fg_X2_15 0 rfl rfl dX2_popInto_37 ?_
      refine lv_aload_n hx hb dX2_popInto_40 rfl (lv_at hl 0 rfl) ?_
      refine g_get hC hP fg_X2_22 0 rfl rfl dX2_popInto_41 ?_
      obtain ⟨hin, hkN, h⟩ := rdp_h h
      refine g_aaldP hC hP 1 3 rfl rfl hin dX2_popInto_44 (fun k3 ek => ?_)
      have h := h k3 ek
      have hN_k3 : k3 < 2 := by rw [ek]; exact hkN
      rcases lt2 hN_k3 with e | e
      · subst e
        obtain ⟨⟨w4, w5, w6⟩, hu, h⟩ := bnd_h h
        refine kc_v (kV hC (c_X4_copy l dC dI cc q2 q3 (qa 0) (qb 0) o1_clogs o1_day o1_cells (CK 0) (CY 0) (CC 0) H.size w4 w5 w6 hu) cv_X2_33 kw372 rfl rfl ⟨(Nat.le_of_ble_eq_true rfl), (Nat.le_of_ble_eq_true rfl)⟩ hP [6, 7, 2, 3] rfl rfl rfl (q0 := 6) rfl (As := [.ref (qa 0)]) (rest := []) rfl rfl hl.1 (Nat.le_of_ble_eq_true rfl) dX2_popInto_45 ⟨Nat.zero_le _, Nat.zero_le _⟩) hP hA [6, 7, 2, 3] rfl rfl (fun H locs hP => ?_)
        have hP : PD (dC, dI) A s.heap [(q0, .inr (2, [.ref q1, .int (height - 1)])), (q1, .inl (cc 3, 2, .inr (.inr (.inr (.inr fun j => some (qa (pp j))))))), ((qa 0), .inr (4, [.ref (qb 0), .int (CK 0), .int (CY 0)])), ((qb 0), .inl (cc 0, 50, .inl (CC 0))), ((qa 1), .inr (4, [.ref (qb 1), .int (CK 1), .int (CY 1)])), ((qb 1), .inl (cc 0, 50, .inl (CC 1))), (q2, .inr (4, [.ref q3, .int w5, .int w6])), (q3, .inl (cc 0, 50, .inl w4))] H locs := hP
        have hP : PD (dC, dI) A s.heap [(q0, .inr (2, [.ref q1, .int (height - 1)])), (q1, .inl (cc 3, 2, .inr (.inr (.inr (.inr fun j => some (qa (pp j))))))), ((qa 0), .inr (4, [.ref (qb 0), .int (CK 0), .int (CY 0)])), ((qb 0), .inl (cc 0, 50, .inl (CC 0))), ((qa 1), .inr (4, [.ref (qb 1), .int (CK 1), .int (CY 1)])), ((qb 1), .inl (cc 0, 50, .inl (CC 1))), (q2, .inr (4, [.ref q3, .int w5, .int w6])), (q3, .inl (cc 0, 50, .inl w4))] H locs := hP
        refine lv_iconst (v := 1) hx hb dX2_popInto_48 (by decide) ?_
        exact ret_z hC hr rfl hlk hP dX2_popInto_49 ((height - 1), w4, w5, w6) (Prod.mk.inj (Option.some.inj h)) rfl
      · subst e
        obtain ⟨⟨w4, w5, w6⟩, hu, h⟩ := bnd_h h
        refine kc_v (kV hC (c_X4_copy l dC dI cc q2 q3 (qa 1) (qb 1) o1_clogs o1_day o1_cells (CK 1) (CY 1) (CC 1) H.size w4 w5 w6 hu) cv_X2_33 kw372 rfl rfl ⟨(Nat.le_of_ble_eq_true rfl), (Nat.le_of_ble_eq_true rfl)⟩ hP [6, 7, 4, 5] rfl rfl rfl (q0 := 6) rfl (As := [.ref (qa 1)]) (rest := []) rfl rfl hl.1 (Nat.le_of_ble_eq_true rfl) dX2_popInto_45 ⟨Nat.zero_le _, Nat.zero_le _⟩) hP hA [6, 7, 4, 5] rfl rfl (fun H locs hP => ?_)
        have hP : PD (dC, dI) A s.heap [(q0, .inr (2, [.ref q1, .int (height - 1)])), (q1, .inl (cc 3, 2, .inr (.inr (.inr (.inr fun j => some (qa (pp j))))))), ((qa 0), .inr (4, [.ref (qb 0), .int (CK 0), .int (CY 0)])), ((qb 0), .inl (cc 0, 50, .inl (CC 0))), ((qa 1), .inr (4, [.ref (qb 1), .int (CK 1), .int (CY 1)])), ((qb 1), .inl (cc 0, 50, .inl (CC 1))), (q2, .inr (4, [.ref q3, .int w5, .int w6])), (q3, .inl (cc 0, 50, .inl w4))] H locs := hP
        have hP : PD (dC, dI) A s.heap [(q0, .inr (2, [.ref q1, .int (height - 1)])), (q1, .inl (cc 3, 2, .inr (.inr (.inr (.inr fun j => some (qa (pp j))))))), ((qa 0), .inr (4, [.ref (qb 0), .int (CK 0), .int (CY 0)])), ((qb 0), .inl (cc 0, 50, .inl (CC 0))), ((qa 1), .inr (4, [.ref (qb 1), .int (CK 1), .int (CY 1)])), ((qb 1), .inl (cc 0, 50, .inl (CC 1))), (q2, .inr (4, [.ref q3, .int w5, .int w6])), (q3, .inl (cc 0, 50, .inl w4))] H locs := hP
        refine lv_iconst (v := 1) hx hb dX2_popInto_48 (by decide) ?_
        exact ret_z hC hr rfl hlk hP dX2_popInto_49 ((height - 1), w4, w5, w6) (Prod.mk.inj (Option.some.inj h)) rfl
    · have h := if_f c2 h
      refine lv_iconst (v := 0) hx hb dX2_popInto_23 (by decide) ?_
      exact ret_z hC hr rfl hlk hP dX2_popInto_24 (height, o1_cells, o1_clogs, o1_day) (Prod.mk.inj (Option.some.inj h)) rfl
