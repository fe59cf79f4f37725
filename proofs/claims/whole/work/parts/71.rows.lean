theorem nst_all : ∀ t ∈ NSt, Cond.methodLinkNest t.1 t.2.1 t.2.2.1 t.2.2.2 ∈ tables_1 := List.forall_mem_cons.mpr ⟨List.mem_of_getElem? (i := 31) (by decide +kernel), List.forall_mem_cons.mpr ⟨List.mem_of_getElem? (i := 47) (by decide +kernel), List.forall_mem_cons.mpr ⟨List.mem_of_getElem? (i := 53) (by decide +kernel), List.forall_mem_cons.mpr ⟨List.mem_of_getElem? (i := 77) (by decide +kernel), List.forall_mem_cons.mpr ⟨List.mem_of_getElem? (i := 101) (by decide +kernel), List.forall_mem_cons.mpr ⟨List.mem_of_getElem? (i := 138) (by decide +kernel), List.forall_mem_cons.mpr ⟨List.mem_of_getElem? (i := 140) (by decide +kernel), List.forall_mem_cons.mpr ⟨List.mem_of_getElem? (i := 142) (by decide +kernel), List.forall_mem_cons.mpr ⟨List.mem_of_getElem? (i := 145) (by decide +kernel), List.forall_mem_cons.mpr ⟨List.mem_of_getElem? (i := 174) (by decide +kernel), List.forall_mem_cons.mpr ⟨List.mem_of_getElem? (i := 185) (by decide +kernel), List.forall_mem_cons.mpr ⟨List.mem_of_getElem? (i := 218) (by decide +kernel), List.forall_mem_cons.mpr ⟨List.mem_of_getElem? (i := 223) (by decide +kernel), List.forall_mem_cons.mpr ⟨List.mem_of_getElem? (i := 318) (by decide +kernel), List.forall_mem_cons.mpr ⟨List.mem_of_getElem? (i := 330) (by decide +kernel), List.forall_mem_cons.mpr ⟨List.mem_of_getElem? (i := 333) (by decide +kernel), List.forall_mem_cons.mpr ⟨List.mem_of_getElem? (i := 346) (by decide +kernel), List.forall_mem_cons.mpr ⟨List.mem_of_getElem? (i := 351) (by decide +kernel), List.forall_mem_cons.mpr ⟨List.mem_of_getElem? (i := 356) (by decide +kernel), List.forall_mem_cons.mpr ⟨List.mem_of_getElem? (i := 373) (by decide +kernel), List.forall_mem_cons.mpr ⟨List.mem_of_getElem? (i := 386) (by decide +kernel), List.forall_mem_cons.mpr ⟨List.mem_of_getElem? (i := 455) (by decide +kernel), List.forall_mem_cons.mpr ⟨List.mem_of_getElem? (i := 483) (by decide +kernel), List.forall_mem_cons.mpr ⟨List.mem_of_getElem? (i := 533) (by decide +kernel), List.forall_mem_cons.mpr ⟨List.mem_of_getElem? (i := 574) (by decide +kernel), List.forall_mem_cons.mpr ⟨List.mem_of_getElem? (i := 584) (by decide +kernel), List.forall_mem_cons.mpr ⟨List.mem_of_getElem? (i := 587) (by decide +kernel), List.forall_mem_cons.mpr ⟨List.mem_of_getElem? (i := 636) (by decide +kernel), List.forall_mem_cons.mpr ⟨List.mem_of_getElem? (i := 688) (by decide +kernel), List.forall_mem_cons.mpr ⟨List.mem_of_getElem? (i := 705) (by decide +kernel), fun _ h => absurd h List.not_mem_nil⟩⟩⟩⟩⟩⟩⟩⟩⟩⟩⟩⟩⟩⟩⟩⟩⟩⟩⟩⟩⟩⟩⟩⟩⟩⟩⟩⟩⟩⟩
theorem AR_int {args : Array Value} {s : State} (h : (Cond.arrayClass .int).before args s = true) : ∃ cA, ArrOfT s cA .int ∧ va_RA s cA .int := by
  obtain ⟨c, k, comp, h1, h2, h3⟩ := Cond.arrayClass_spec h
  exact ⟨c, fun n z => ⟨fun k h => (by cases h), k, h2, comp, h3⟩, h1⟩
theorem AR_char {args : Array Value} {s : State} (h : (Cond.arrayClass .char).before args s = true) : ∃ cA, ArrOfT s cA .char ∧ va_RA s cA .char := by
  obtain ⟨c, k, comp, h1, h2, h3⟩ := Cond.arrayClass_spec h
  exact ⟨c, fun n z => ⟨fun k h => (by cases h), k, h2, comp, h3⟩, h1⟩
theorem AR_bool {args : Array Value} {s : State} (h : (Cond.arrayClass .boolean).before args s = true) : ∃ cA, ArrOfT s cA .boolean ∧ va_RA s cA .boolean := by
  obtain ⟨c, k, comp, h1, h2, h3⟩ := Cond.arrayClass_spec h
  exact ⟨c, fun n z => ⟨fun k h => (by cases h), k, h2, comp, h3⟩, h1⟩
theorem AR_obj {args : Array Value} {s : State} {C : String} (h : (Cond.arrayOver (.object C)).before args s = true) : ∃ cA, ArrOfT s cA (.object C) ∧ va_RA s cA (.object C) := by
  obtain ⟨comp, c, k, h1, h2, h3, h4, h5⟩ := Cond.arrayOver_spec h
  exact ⟨c, fun n z => ⟨fun k h => (by cases h), k, h3, comp, h4⟩, k, comp, h3, h4, h1, h5⟩
/-- what the law's state gives of the classes -/
theorem law_K {args : Array Value} {s : State} (hts : ∀ w ∈ lw_tbl, w.before args s = true) : ∃ (dC : Nat → ClassId) (dI : Nat → Nat → Nat) (cc : Nat → ClassId), va_K (dC, dI) classes (ts cc) s ∧ nests s := by
  have hTg : ∀ w ∈ Tg, w.before args s = true := fun w h => hts w (List.mem_filter.mp h).1
  obtain ⟨c0, i0, k0⟩ := u_known (C := RX0) (T := TX0) (N := 3) (n := 3) hTg in0 (hTg _ kw100)
  obtain ⟨c1, i1, k1⟩ := u_known (C := RX1) (T := TX1) (N := 8) (n := 8) hTg in1 (hTg _ kw184)
  obtain ⟨c2, i2, k2⟩ := u_known (C := RX2) (T := TX2) (N := 2) (n := 2) hTg in2 (hTg _ kw164)
  obtain ⟨c3, i3, k3⟩ := u_known (C := RX3) (T := TX3) (N := 5) (n := 5) hTg in3 (hTg _ kw46)
  obtain ⟨c4, i4, k4⟩ := u_known (C := RX4) (T := TX4) (N := 3) (n := 3) hTg in4 (hTg _ kw52)
  obtain ⟨c5, i5, k5⟩ := u_known (C := RX5) (T := TX5) (N := 2) (n := 2) hTg in5 (hTg _ kw30)
  obtain ⟨c6, i6, k6⟩ := u_known (C := RX6) (T := TX6) (N := 4) (n := 4) hTg in6 (hTg _ kw76)
  obtain ⟨c7, i7, k7⟩ := u_known (C := RX7) (T := TX7) (N := 4) (n := 4) hTg in7 (hTg _ kw144)
  obtain ⟨c8, i8, k8⟩ := u_known (C := RX8) (T := TX8) (N := 2) (n := 2) hTg in8 (hTg _ kw217)
  obtain ⟨c9, i9, k9⟩ := u_known (C := RX9) (T := TX9) (N := 10) (n := 10) hTg in9 (hTg _ kw22)
  obtain ⟨c10, i10, k10⟩ := u_known (C := RX10) (T := TX10) (N := 32) (n := 32) hTg in10 (hTg _ kw781)
  obtain ⟨d0, e0, f0⟩ := AR_int (hTg _ kw74)
  obtain ⟨d1, e1, f1⟩ := AR_char (hTg _ kw44)
  obtain ⟨d2, e2, f2⟩ := AR_bool (hTg _ kw905)
  have hao : (Cond.arrayOver (.object "LeftAndRight$Shelf")).before args s = true := hts _ (List.mem_append_right _ (List.mem_of_getElem? (i := 173) (by decide +kernel)))
  obtain ⟨d3, e3, f3⟩ := AR_obj hao
  refine ⟨(fun k => if k = 0 then c0 else if k = 1 then c1 else if k = 2 then c2 else if k = 3 then c3 else if k = 4 then c4 else if k = 5 then c5 else if k = 6 then c6 else if k = 7 then c7 else if k = 8 then c8 else if k = 9 then c9 else c10), (fun k => if k = 0 then i0 else if k = 1 then i1 else if k = 2 then i2 else if k = 3 then i3 else if k = 4 then i4 else if k = 5 then i5 else if k = 6 then i6 else if k = 7 then i7 else if k = 8 then i8 else if k = 9 then i9 else i10), fun k => if k = 0 then d0 else if k = 1 then d1 else if k = 2 then d2 else d3, ⟨?_, ?_⟩, fun t ht => va_Nw.of rfl (hts _ (List.mem_append_right _ (nst_all t ht))), va_AO.of hao⟩
  · intro k q hq
    match k, hq with
    | 0, hq => cases hq; exact k0
    | 1, hq => cases hq; exact k1
    | 2, hq => cases hq; exact k2
    | 3, hq => cases hq; exact k3
    | 4, hq => cases hq; exact k4
    | 5, hq => cases hq; exact k5
    | 6, hq => cases hq; exact k6
    | 7, hq => cases hq; exact k7
    | 8, hq => cases hq; exact k8
    | 9, hq => cases hq; exact k9
    | 10, hq => cases hq; exact k10
    | k + 11, hq => simp [classes] at hq
  · intro k q hq
    match k, hq with
    | 0, hq => cases hq; exact ⟨e0, f0⟩
    | 1, hq => cases hq; exact ⟨e1, f1⟩
    | 2, hq => cases hq; exact ⟨e2, f2⟩
    | 3, hq => cases hq; exact ⟨e3, f3⟩
    | k + 4, hq => simp [ts] at hq
/-- what the law's state gives of the literal -/
theorem law_S {b : Nat} {s : State} (hts : ∀ w ∈ lw_tbl, w.before #[Value.ref b] s = true) (hgv : (Jvm.Cond.and given_1 narrow_1).before #[Value.ref b] s = true) : ∃ ak av, SF ak av (fun q : Nat => s.heap.size ≤ q) s s.heap ∧ vk_R RX9 77 sTX ak s := by
  have hTg : ∀ w ∈ Tg, w.before #[Value.ref b] s = true := fun w h => hts w (List.mem_filter.mp h).1
  have hq := flat_of_before _ hgv
  have hA : ∀ a : Nat, a < s.heap.size → ¬ (fun q : Nat => s.heap.size ≤ q) a := fun a h => Nat.not_le.mpr h
  have one : ∀ i : Nat, i < 1 → i = 0 := fun i h => by omega
  have hel : ∀ j : Nat, j < 105 → (Cond.eq (.elem (.field (.string "LeftAndRight" 77) "java/lang/String" "value" "[B") (.int (Int32.ofNat j))) (.int ((sBYT.getD 0 []).getD j 0))).before #[Value.ref b] s = true := fun j hj => hq _ ((show ∀ j : Nat, j < 105 → Cond.eq (.elem (.field (.string "LeftAndRight" 77) "java/lang/String" "value" "[B") (.int (Int32.ofNat j))) (.int ((sBYT.getD 0 []).getD j 0)) ∈ flatC (Jvm.Cond.and given_1 narrow_1) by decide +kernel) j hj)
  obtain ⟨adK, adV, hS, hev⟩ := vk_Sof (N := 1) (tm := fun _ => .string "LeftAndRight" 77) (len := sLEN) (byt := sBYT) (A := (fun q : Nat => s.heap.size ≤ q)) (args := #[Value.ref b]) (s := s) (fun i hi => by rw [one i hi]; decide) (fun i hi => hq (.exactly (.string "LeftAndRight" 77) "java/lang/String") (by decide +kernel)) (fun i hi => hq (.eq (.field (.string "LeftAndRight" 77) "java/lang/String" "coder" "B") (.int 0)) (by decide +kernel)) (fun i hi => hq (.arrayOf (.field (.string "LeftAndRight" 77) "java/lang/String" "value" "[B") .byte) (by decide +kernel)) (fun i hi => by rw [one i hi]; exact hq (.eq (.length (.field (.string "LeftAndRight" 77) "java/lang/String" "value" "[B")) (.int 105)) (by decide +kernel)) (fun i hi j hj => by rw [one i hi] at hj ⊢; exact hel j hj) (fun i j hi hj h => absurd (by rw [one i hi, one j hj]) h) hA
  refine ⟨adK 0, adV 0, ⟨⟨fun i hi => by rw [one i hi]; exact hS.1 0 (by decide), fun i j hi hj _ => by rw [one i hi, one j hj]⟩, va_Zof (args := #[Value.ref b]) (hts _ (List.mem_append_right _ (List.mem_of_getElem? (i := 243) (by decide +kernel)))) (hTg _ kw12) (va_eqt (hq (.eq (.static "java/lang/String" "COMPACT_STRINGS" "Z") (.int 1)) (by decide +kernel))) hA, va_Zqof (args := #[Value.ref b]) (hts _ (List.mem_append_right _ (List.mem_of_getElem? (i := 259) (by decide +kernel)))) (hTg _ kw14) (hq (.isRef (.static "jdk/internal/util/Preconditions" "SIOOBE_FORMATTER" "Ljava/util/function/BiFunction;")) (by decide +kernel)) hA⟩, vk_R.of (A := #[Value.ref b]) (hts _ (List.mem_append_right _ (List.mem_of_getElem? (i := 233) (by decide +kernel)))) (hev 0 (by decide))⟩
theorem kJX {p : Program} {l : Launch} {e : Env} {R : Room} {s : State} {m : MethodId} {args : Array Value} {below : List Frame} {meth : Method} {c : Code} {H : Heap} {locs : List Loc} {cells slots : Nat} {cc : ByteArray} {nL : Nat} {own : String} {D : va_G} {T : List (ClassId × FieldType)} {A : Nat → Prop} {ws wc : va_W} {pc : Nat} {ls : Array Slot} {rest st0 : List Value} {b : Addr} {As : List Value} {y : MethodName} {bytes : ByteArray} {maxL index n mc ms ak av : Nat} {rm : Room} {Qc : Array Value → State → Outcome → State → Prop} {free : Addr → Prop} (hC : CX p m c cc nL s args own D T) (hM : Met l y (mw y bytes maxL none) rm (va_Pc (.ref b :: As) (mX D T H.size wc ak av)) Qc mc ms free) (cv : CJw own index y n) (co : Cond.code y bytes maxL none ∈ Tg) (hrc : rm.cells = mc) (hrs : rm.slots = ms) (hR : rm.frames + 1 ≤ R.frames ∧ 8 + (maxL + 11) + rm.locals ≤ R.locals) (hF : SF ak av A s s.heap) (hT : vk_R RX9 77 sTX ak s) (hA : ∀ q, s.heap.size ≤ q → A q) (hP : PD D A s.heap ws H locs) (isC : List Nat) (hCm : isC.map (fun i => ws[i]?) = wc.map some) (hnd : va_nd isC = true)
    (hn : As.length = n) (hstack : st0 = As.reverse ++ .ref b :: rest) (hsz : ls.size = nL) (hW : (rest.map fun v => v.category).sum ≤ 8) (hdg : decode cc pc = .ok (.invokespecial index, 3)) (hf : cells + mc ≤ R.cells ∧ slots + ms ≤ R.slots) : va_Run p l e R s m args below meth c H locs cells slots mc ms (F0 m pc ls st0) rest (Qc (Value.ref b :: As).toArray) free := by
  obtain ⟨c1, c2, c3, c4, c5⟩ := cv
  exact va_runI (Ts := Tg) ⟨hC.1.1, hC.1.2, hC.2.1, hC.2.2.1, hC.2.2.2.1⟩ hM (cwI n hC.2.2.2.1 (good_mw co) rfl hrc hrs (hC.2.2.2.1 _ c4) (hC.2.2.2.1 _ c2) (hC.2.2.2.1 _ c3) c5 c1 hR) ⟨mX_blind, fun U hU hW => ⟨rfl, PD_mP hC hP isC hCm hnd hU hW, by rw [hU]; exact ((hF.kept hP.2.2.2.1).moved hW.alike).narrow (kc_free hP hA isC hCm), vk_R.warm hW hT⟩⟩ rfl hn hsz hstack (lv_room (rest := st0) hW) hdg hf
