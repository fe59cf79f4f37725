/-! the literal and the JDK's methods over it -/
def sLEN : List Nat := [105]
def sBYT : List (List Int32) := [[99, 48, 44, 48, 44, 52, 48, 44, 49, 48, 59, 99, 49, 44, 48, 44, 52, 56, 44, 49, 52, 59, 99, 48, 44, 49, 44, 52, 49, 44, 49, 49, 59, 99, 50, 44, 49, 44, 52, 52, 44, 57, 59, 99, 51, 44, 49, 44, 52, 52, 44, 49, 50, 59, 99, 49, 44, 49, 44, 51, 54, 44, 49, 51, 59, 99, 48, 44, 48, 44, 51, 51, 44, 56, 59, 102, 51, 56, 44, 51, 57, 59, 102, 52, 50, 44, 52, 48, 59, 103, 50, 51, 44, 53, 59, 107, 55, 59, 107, 49, 52, 59, 115, 50, 59]]
def chF (k : Nat) : Int32 := (((sBYT.getD 0 []).getD k 0 &&& 255).toUInt32 % 65536).toInt32
theorem chF_n : ∀ k, k < 105 → narrow .char (.int (chF k)) = .int (chF k) := by decide +kernel
def SF (ak av : Nat) (A : Nat → Prop) (U : State) (H : Heap) : Prop := vk_S 1 sLEN sBYT (fun _ => ak) (fun _ => av) A U H ∧ va_Z "java/lang/String" "COMPACT_STRINGS" "Z" (.int 1) A U H ∧ va_Zq "jdk/internal/util/Preconditions" "SIOOBE_FORMATTER" "Ljava/util/function/BiFunction;" A U H
theorem SF.moved {ak av : Nat} {A : Nat → Prop} {u U : State} {H : Heap} (hvm : u.vm.Alike U.vm) (h : SF ak av A u H) : SF ak av A U H := ⟨vk_S.moved hvm h.1, va_Z.moved hvm h.2.1, va_Zq.moved hvm h.2.2⟩
theorem SF.kept {ak av : Nat} {A : Nat → Prop} {U : State} {H H1 : Heap} (h : SF ak av A U H) (hq : ∀ a : Nat, a < H.size → ¬ A a → H1[a]? = H[a]?) : SF ak av A U H1 := ⟨h.1.kept hq, h.2.1.kept hq, h.2.2.kept hq⟩
theorem SF.narrow {ak av : Nat} {A B : Nat → Prop} {U : State} {H : Heap} (h : SF ak av A U H) (hAB : ∀ q, B q → A q) : SF ak av B U H := ⟨h.1.narrow hAB, h.2.1.narrow hAB, h.2.2.narrow hAB⟩
def mS (D : va_G) (T : List (ClassId × FieldType)) (sz ak av : Nat) (U : State) : Prop := mP D T sz [] U ∧ SF ak av (va_A [] sz) U U.heap
def sTX : String := "c0,0,40,10;c1,0,48,14;c0,1,41,11;c2,1,44,9;c3,1,44,12;c1,1,36,13;c0,0,33,8;f38,39;f42,40;g23,5;k7;k14;s2;"
def mX (D : va_G) (T : List (ClassId × FieldType)) (sz : Nat) (ws : va_W) (ak av : Nat) (U : State) : Prop := mP D T sz ws U ∧ SF ak av (va_A ws sz) U U.heap ∧ vk_R RX9 77 sTX ak U
theorem mS_blind {As : List Value} {D : va_G} {T : List (ClassId × FieldType)} {sz ak av : Nat} : FrameBlind (va_Pc As (mS D T sz ak av)) := fun a U g mk q => by
  obtain ⟨q0, q1, qF⟩ := q
  obtain ⟨q2, q3⟩ := mP_blind (av := As) (D := D) (T := T) (sz := sz) (ws := []) a U g mk ⟨q0, q1⟩
  exact ⟨q2, q3, SF.moved (u := U) (U := U.calling g mk a) (Vm.Alike.refl U.vm) qF⟩
theorem mX_blind {As : List Value} {D : va_G} {T : List (ClassId × FieldType)} {sz ak av : Nat} {ws : va_W} : FrameBlind (va_Pc As (mX D T sz ws ak av)) := fun a U g mk q => by
  obtain ⟨q0, q1, qF, qR⟩ := q
  obtain ⟨q2, q3⟩ := mP_blind (av := As) (D := D) (T := T) (sz := sz) (ws := ws) a U g mk ⟨q0, q1⟩
  exact ⟨q2, q3, SF.moved (u := U) (U := U.calling g mk a) (Vm.Alike.refl U.vm) qF, vk_R.same (u := U) (U := U.calling g mk a) rfl qR⟩
section STRR
variable {p : Program} {l : Launch} {e : Env} {R : Room} {s : State} {m : MethodId} {args : Array Value} {below : List Frame} {meth : Method} {c : Code} {H H0 : Heap} {locs : List Loc} {cells slots : Nat} {Q : State → Prop} {cc : ByteArray} {nL : Nat} {own : String} {D : va_G} {T : List (ClassId × FieldType)} {A : Nat → Prop} {ws wc : va_W} {pc : Nat} {ls : Array Slot} {rest st0 : List Value} {a : Nat} {b : Addr} {As : List Value}
theorem met_goS {y : MethodName} {maxL : Nat} {ret : Option FieldType} {rm : Room} {As : List Value} {Qc : (Nat → Prop) → Array Value → State → Outcome → State → Prop} {mc ms sz ak av : Nat} (hy : plainName y.cls = true) (hle : (lg_sl As).length ≤ maxL)
    (body : ∀ (p : Program) (e : Env) (s : State) (m : MethodId) (below : List Frame) (meth : Method) (c : Code) (A : Nat → Prop) (ls : Array Slot) (H : Heap) (locs : List Loc), CX p m c cc maxL s As.toArray y.cls D T → meth.sig.returnType = ret → meth.locks = false → meth.name = y.name → (∀ q, s.heap.size ≤ q → A q) → PD D A s.heap [] H locs → lv_has ls maxL (lv_args 0 As) → sz = s.heap.size → SF ak av A s s.heap →
      W p l e rm s m As.toArray below meth c H locs 0 0 (MQ below (Qc A) As.toArray s mc ms A) (F0 m 0 ls [])) :
    Met l y (mw y cc maxL ret) rm (va_Pc As (mS D T sz ak av)) (Qc (va_A [] sz)) mc ms (va_A [] sz) := by
  refine Met.ofW (cc := cc) (maxL := maxL) (ret := ret) hy rfl ?_
  intro p e s m args below meth c s₁ B hml hv
  obtain ⟨rfl, ⟨hsz, hP, hK, hD0, hN⟩, hF⟩ := hv
  have hts := atoms_spec (ws := mw y cc maxL ret) B.pre
  have hl := lv_entry As (n := maxL) hle
  rw [lg_entry_eq]
  subst hsz
  exact body p e s m below meth c (va_A [] s.heap.size) _ s.heap [] ⟨⟨B.exec, B.bytes⟩, hml, findClass_of_methodNamed B.named, fun w h => hts w (List.mem_cons_of_mem _ h), hK, hN⟩ B.returns B.notSynchronized (name_of_methodNamed B.named B.method).1 (fun q h => Or.inr h) ⟨hP, hD0.self, va_S.rf⟩ hl rfl hF
theorem met_goX {y : MethodName} {maxL : Nat} {ret : Option FieldType} {rm : Room} {As : List Value} {Qc : (Nat → Prop) → Array Value → State → Outcome → State → Prop} {mc ms sz ak av : Nat} (hy : plainName y.cls = true) (hle : (lg_sl As).length ≤ maxL)
    (body : ∀ (p : Program) (e : Env) (s : State) (m : MethodId) (below : List Frame) (meth : Method) (c : Code) (A : Nat → Prop) (ls : Array Slot) (H : Heap) (locs : List Loc), CX p m c cc maxL s As.toArray y.cls D T → meth.sig.returnType = ret → meth.locks = false → meth.name = y.name → (∀ q, s.heap.size ≤ q → A q) → PD D A s.heap ws H locs → lv_has ls maxL (lv_args 0 As) → sz = s.heap.size → SF ak av A s s.heap → vk_R RX9 77 sTX ak s →
      W p l e rm s m As.toArray below meth c H locs 0 0 (MQ below (Qc A) As.toArray s mc ms A) (F0 m 0 ls [])) :
    Met l y (mw y cc maxL ret) rm (va_Pc As (mX D T sz ws ak av)) (Qc (va_A ws sz)) mc ms (va_A ws sz) := by
  refine Met.ofW (cc := cc) (maxL := maxL) (ret := ret) hy rfl ?_
  intro p e s m args below meth c s₁ B hml hv
  obtain ⟨rfl, ⟨hsz, hP, hK, hD0, hN⟩, hF, hR⟩ := hv
  have hts := atoms_spec (ws := mw y cc maxL ret) B.pre
  have hl := lv_entry As (n := maxL) hle
  rw [lg_entry_eq]
  subst hsz
  exact body p e s m below meth c (va_A ws s.heap.size) _ s.heap [] ⟨⟨B.exec, B.bytes⟩, hml, findClass_of_methodNamed B.named, fun w h => hts w (List.mem_cons_of_mem _ h), hK, hN⟩ B.returns B.notSynchronized (name_of_methodNamed B.named B.method).1 (fun q h => Or.inr h) ⟨hP, hD0.self, va_S.rf⟩ hl rfl hF hR
theorem SF_at {U : State} {ak av : Nat} (hF : SF ak av A s s.heap) (hA : ∀ q, s.heap.size ≤ q → A q) (hP : PD D A s.heap ws H locs) (hU : U.heap = H) (hW : s.WarmedH U.vm) : SF ak av (va_A [] H.size) U U.heap := by
  rw [hU]
  exact ((hF.kept hP.2.2.2.1).moved hW.alike).narrow (kc_free hP hA [] rfl)
theorem kVS {y : MethodName} {bytes : ByteArray} {maxL index n mc ms ak av : Nat} {ret : Option FieldType} {rm : Room} {Qc : Array Value → State → Outcome → State → Prop} {free : Addr → Prop} (hC : CX p m c cc nL s args own D T) (hM : Met l y (mw y bytes maxL ret) rm (va_Pc (.ref ak :: As) (mS D T H.size ak av)) Qc mc ms free) (cv : CVw own index "java/lang/String" y n) (co : Cond.code y bytes maxL ret ∈ Tg) (hrc : rm.cells = mc) (hrs : rm.slots = ms) (hR : rm.frames + 1 ≤ R.frames ∧ 8 + (maxL + 11) + rm.locals ≤ R.locals) (hF : SF ak av A s s.heap) (hA : ∀ q, s.heap.size ≤ q → A q) (hP : PD D A s.heap ws H locs)
    (hn : As.length = n) (hstack : st0 = As.reverse ++ .ref ak :: rest) (hsz : ls.size = nL) (hW : (rest.map fun v => v.category).sum ≤ 8) (hdg : decode cc pc = .ok (.invokevirtual index, 3)) (hf : cells + mc ≤ R.cells ∧ slots + ms ≤ R.slots) : va_Run p l e R s m args below meth c H locs cells slots mc ms (F0 m pc ls st0) rest (Qc (Value.ref ak :: As).toArray) free := by
  obtain ⟨c1, c2, c3, c4, c5⟩ := cv
  refine va_runV (Ts := Tg) ⟨hC.1.1, hC.1.2, hC.2.1, hC.2.2.1, hC.2.2.2.1⟩ hM (cwV n hC.2.2.2.1 (fun w hw => ?_) rfl hrc hrs c1 hR) ⟨mS_blind, vk_recv hF.1 (i := 0) (by decide) hP.2.2, fun U hU hW => ⟨rfl, PD_mP hC hP [] rfl rfl hU hW, SF_at hF hA hP hU hW⟩⟩ rfl hn hsz hstack (lv_room (rest := st0) hW) hdg hf
  rcases List.mem_append.mp hw with h | h
  · have h' : w = .methodLink own index y ∨ w = .instanceMethod y ∨ w = .selects "java/lang/String" y y ∨ w = .initialized "java/lang/String" := by simpa using h
    rcases h' with h' | h' | h' | h'
    · rw [h']; exact good_Tg c2
    · rw [h']; exact good_Tg c3
    · rw [h']; exact good_Tg c4
    · rw [h']; exact good_Tg c5
  · exact good_mw co w h
theorem kSS {y : MethodName} {bytes : ByteArray} {maxL index n mc ms ak av : Nat} {ret : Option FieldType} {rm : Room} {Qc : Array Value → State → Outcome → State → Prop} {free : Addr → Prop} (hC : CX p m c cc nL s args own D T) (hM : Met l y (mw y bytes maxL ret) rm (va_Pc As (mS D T H.size ak av)) Qc mc ms free) (cv : CSw own index y n) (co : Cond.code y bytes maxL ret ∈ Tg) (hrc : rm.cells = mc) (hrs : rm.slots = ms) (hR : rm.frames + 1 ≤ R.frames ∧ 8 + (maxL + 11) + rm.locals ≤ R.locals) (hF : SF ak av A s s.heap) (hA : ∀ q, s.heap.size ≤ q → A q) (hP : PD D A s.heap ws H locs)
    (hn : As.length = n) (hstack : st0 = As.reverse ++ rest) (hsz : ls.size = nL) (hW : (rest.map fun v => v.category).sum ≤ 8) (hdg : decode cc pc = .ok (.invokestatic index, 3)) (hf : cells + mc ≤ R.cells ∧ slots + ms ≤ R.slots) : va_Run p l e R s m args below meth c H locs cells slots mc ms (F0 m pc ls st0) rest (Qc As.toArray) free := by
  obtain ⟨c1, c2, c3, c4⟩ := cv
  refine va_runS (Ts := Tg) ⟨hC.1.1, hC.1.2, hC.2.1, hC.2.2.1, hC.2.2.2.1⟩ hM (va_cwS n hC.2.2.2.1 (fun w hw => ?_) rfl hrc hrs c1 hR) ⟨mS_blind, fun U hU hW => ⟨rfl, PD_mP hC hP [] rfl rfl hU hW, SF_at hF hA hP hU hW⟩⟩ rfl hn hsz hstack (lv_room (rest := st0) hW) hdg hf
  rcases List.mem_append.mp hw with h | h
  · have h' : w = .methodLink own index y ∨ w = .static y ∨ w = .initialized y.cls := by simpa using h
    rcases h' with h' | h' | h'
    · rw [h']; exact good_Tg c2
    · rw [h']; exact good_Tg c3
    · rw [h']; exact good_Tg c4
  · exact good_mw co w h
/-- an end with a small kind of int -/
theorem ret_s {S : Type} {post : Int32 → S → Prop} {wd : S → va_W} {v : Int32} {ty : FieldType} (hC : CX p m c cc nL s args own D T) (hr : meth.sig.returnType = some ty) (hn : narrow ty (.int v) = .int v) (hlk : meth.locks = false) (hP : PD D A s.heap ws H locs) (hdg : decode cc pc = .ok (.ireturn, 1)) (w : S) (hp : post v w) (hw : ws = wd w) :
    W p l e R s m args below meth c H locs cells slots (MQ below (va_Qi post (fun u t => va_P D classes (wd u) t.heap) A) args s cells slots A) (F0 m pc ls [.int v]) :=
  W.zret (v := v) hC.1.1 hC.1.2 hr hn (fun t ht _ => ⟨⟨v, w, rfl, hp, by show va_P D classes (wd w) t.heap; rw [ht, ← hw]; exact hP.1⟩, hP.2.2.F ht⟩) hP.2.2.2.2 hdg
end STRR
set_option maxHeartbeats 8000000 in
set_option maxRecDepth 100000 in
theorem c_J3_checkIndex_8e157 (l : Launch) (dC : Nat → ClassId) (dI : Nat → Nat → Nat) (cc : Nat → ClassId) (sz : Nat) (i n : Int32) (f : Value) (hf : f = .null ∨ ∃ t : Nat, f = .ref t) (h0 : ¬ i < 0) (h1 : i < n) : Met l yJ3_checkIndex_8e157 (mw yJ3_checkIndex_8e157 cJ3_checkIndex_8e157 3 (some .int)) ({ frames := 0, cells := 0, slots := 0, locals := 0 } : Room) (va_Pc [.int i, .int n, f] (mP (dC, dI) (ts cc) sz [])) ((fun A => va_Qi (fun (r : Int32) (w : Unit) => r = i ∧ w = ()) (fun (w : Unit) t => va_P (dC, dI) classes [] t.heap) A) (va_A [] sz)) 0 0 (va_A [] sz) := by
  refine met_go (Qc := fun A => va_Qi (fun (r : Int32) (w : Unit) => r = i ∧ w = ()) (fun (w : Unit) t => va_P (dC, dI) classes [] t.heap) A) (by decide) (by rcases hf with rfl | ⟨t, rfl⟩ <;> exact Nat.le_of_ble_eq_true rfl) ?_
  intro p e s m below meth c A ls H locs hC hr hlk hin9 hA hP hl _
  have hC : CX p m c cJ3_checkIndex_8e157 3 s ([.int i, .int n, f] : List Value).toArray RJ3 (dC, dI) (ts cc) := hC
  have hx := hC.1.1
  have hb := hC.1.2
  have hl : lv_has ls 3 [(0, .int i), (1, .int n), (2, f)] := hl
  refine lv_iload_n hx hb dJ3_checkIndex_8e157_0 rfl (lv_at hl 0 rfl) ?_
  refine lv_if_lt (tgt := 9) hx hb dJ3_checkIndex_8e157_1 (by decide) (fun z => absurd z h0) (fun _ => ?_)
  refine lv_iload_n hx hb dJ3_checkIndex_8e157_4 rfl (lv_at hl 0 rfl) ?_
  refine lv_iload_n hx hb dJ3_checkIndex_8e157_5 rfl (lv_at hl 1 rfl) ?_
  refine lv_icmp_lt (tgt := 16) hx hb dJ3_checkIndex_8e157_6 (by decide) (fun _ => ?_) (fun z => absurd h1 z)
  refine lv_iload_n hx hb dJ3_checkIndex_8e157_16 rfl (lv_at hl 0 rfl) ?_
  exact ret_i hC hr hlk hP dJ3_checkIndex_8e157_17 () ⟨rfl, rfl⟩ rfl
set_option maxHeartbeats 8000000 in
set_option maxRecDepth 100000 in
theorem c_J0_checkIndex_df160 (l : Launch) (dC : Nat → ClassId) (dI : Nat → Nat → Nat) (cc : Nat → ClassId) (ak av : Nat) (sz : Nat) (i n : Int32) (h0 : ¬ i < 0) (h1 : i < n) : Met l yJ0_checkIndex_df160 (mw yJ0_checkIndex_df160 cJ0_checkIndex_df160 2 none) ({ frames := 1, cells := 0, slots := 0, locals := 22 } : Room) (va_Pc [.int i, .int n] (mS (dC, dI) (ts cc) sz ak av)) ((fun A => va_Qv (fun (w : Unit) => w = ()) (fun (w : Unit) t => va_P (dC, dI) classes [] t.heap) A) (va_A [] sz)) 0 0 (va_A [] sz) := by
  refine met_goS (ak := ak) (av := av) (Qc := fun A => va_Qv (fun (w : Unit) => w = ()) (fun (w : Unit) t => va_P (dC, dI) classes [] t.heap) A) (by decide) (Nat.le_of_ble_eq_true rfl) ?_
  intro p e s m below meth c A ls H locs hC hr hlk hin9 hA hP hl _ hF
  have hC : CX p m c cJ0_checkIndex_df160 2 s ([.int i, .int n] : List Value).toArray RJ0 (dC, dI) (ts cc) := hC
  have hx := hC.1.1
  have hb := hC.1.2
  have hl : lv_has ls 2 [(0, .int i), (1, .int n)] := hl
  refine lv_iload_n hx hb dJ0_checkIndex_df160_0 rfl (lv_at hl 0 rfl) ?_
  refine lv_iload_n hx hb dJ0_checkIndex_df160_1 rfl (lv_at hl 1 rfl) ?_
  rcases hF.2.2 with hz | ⟨t, hz⟩
  · refine va_gets hC.1.1 hC.1.2 hz hP.2.2 hC.2.2.1 (hC.2.2.2.1 _ kw258) (fun _ z => z) dJ0_checkIndex_df160_2 ?_
    refine kc_i (kS hC (c_J3_checkIndex_8e157 l dC dI cc H.size i n .null (Or.inl rfl) h0 h1) cs_J0_1059 kw262 rfl rfl ⟨(Nat.le_of_ble_eq_true rfl), (Nat.le_of_ble_eq_true rfl)⟩ hP [] rfl rfl (As := [.int i, .int n, .null]) (rest := []) rfl rfl hl.1 (Nat.le_of_ble_eq_true rfl) dJ0_checkIndex_df160_5 ⟨(Nat.le_of_ble_eq_true rfl), (Nat.le_of_ble_eq_true rfl)⟩) hP hA [] rfl rfl (fun H locs hP => ?_)
    have hP : PD (dC, dI) A s.heap [] H locs := hP
    refine lv_pop hx hb dJ0_checkIndex_df160_8 rfl ?_
    exact ret_v hC hr hlk hP dJ0_checkIndex_df160_9 () rfl rfl
  · refine va_gets hC.1.1 hC.1.2 hz hP.2.2 hC.2.2.1 (hC.2.2.2.1 _ kw258) (fun _ z => z) dJ0_checkIndex_df160_2 ?_
    refine kc_i (kS hC (c_J3_checkIndex_8e157 l dC dI cc H.size i n (.ref t) (Or.inr ⟨t, rfl⟩) h0 h1) cs_J0_1059 kw262 rfl rfl ⟨(Nat.le_of_ble_eq_true rfl), (Nat.le_of_ble_eq_true rfl)⟩ hP [] rfl rfl (As := [.int i, .int n, (.ref t)]) (rest := []) rfl rfl hl.1 (Nat.le_of_ble_eq_true rfl) dJ0_checkIndex_df160_5 ⟨(Nat.le_of_ble_eq_true rfl), (Nat.le_of_ble_eq_true rfl)⟩) hP hA [] rfl rfl (fun H locs hP => ?_)
    have hP : PD (dC, dI) A s.heap [] H locs := hP
    refine lv_pop hx hb dJ0_checkIndex_df160_8 rfl ?_
    exact ret_v hC hr hlk hP dJ0_checkIndex_df160_9 () rfl rfl
theorem vin_lt {i : Int32} (h : vp_in i 105) : ¬ i < 0 ∧ i < 105 := by
  have h0 : ¬ i < 0 := fun z => h (Or.inl z)
  obtain ⟨k, hk, rfl⟩ := nI_of h0
  have hk2 : ¬ 105 ≤ (nI k).toNatClampNeg := fun z => h (Or.inr z)
  rw [nI_clamp hk] at hk2
  exact ⟨h0, nI_lt (b := 105) (by omega) (by omega)⟩
set_option maxHeartbeats 8000000 in
set_option maxRecDepth 100000 in
theorem c_J1_charAt_3b067 (l : Launch) (dC : Nat → ClassId) (dI : Nat → Nat → Nat) (cc : Nat → ClassId) (ak av : Nat) (sz : Nat) (i : Int32) (hin : vp_in i 105) : Met l yJ1_charAt_3b067 (mw yJ1_charAt_3b067 cJ1_charAt_3b067 2 (some .char)) ({ frames := 2, cells := 0, slots := 0, locals := 44 } : Room) (va_Pc [.ref av, .int i] (mS (dC, dI) (ts cc) sz ak av)) ((fun A => va_Qi (fun (r : Int32) (w : Unit) => r = chF i.toNatClampNeg ∧ w = ()) (fun (w : Unit) t => va_P (dC, dI) classes [] t.heap) A) (va_A [] sz)) 0 0 (va_A [] sz) := by
  refine met_goS (ak := ak) (av := av) (Qc := fun A => va_Qi (fun (r : Int32) (w : Unit) => r = chF i.toNatClampNeg ∧ w = ()) (fun (w : Unit) t => va_P (dC, dI) classes [] t.heap) A) (by decide) (Nat.le_of_ble_eq_true rfl) ?_
  intro p e s m below meth c A ls H locs hC hr hlk hin9 hA hP hl _ hF
  have hC : CX p m c cJ1_charAt_3b067 2 s ([.ref av, .int i] : List Value).toArray RJ1 (dC, dI) (ts cc) := hC
  have hx := hC.1.1
  have hb := hC.1.2
  have hl : lv_has ls 2 [(0, .ref av), (1, .int i)] := hl
  have hk : i.toNatClampNeg < 105 := Nat.not_le.mp (fun z => hin (Or.inr z))
  refine lv_iload_n hx hb dJ1_charAt_3b067_0 rfl (lv_at hl 1 rfl) ?_
  refine lv_aload_n hx hb dJ1_charAt_3b067_1 rfl (lv_at hl 0 rfl) ?_
  refine va_tlen hC.1.1 hC.1.2 (hF.1.1 0 (by decide)).2.2.2 hP.2.2 (v := 105) rfl dJ1_charAt_3b067_2 ?_
  refine kc_v (kSS hC (c_J0_checkIndex_df160 l dC dI cc ak av H.size i 105 (vin_lt hin).1 (vin_lt hin).2) cs_J1_9 kw257 rfl rfl ⟨(Nat.le_of_ble_eq_true rfl), (Nat.le_of_ble_eq_true rfl)⟩ hF hA hP (As := [.int i, .int 105]) (rest := []) rfl rfl hl.1 (Nat.le_of_ble_eq_true rfl) dJ1_charAt_3b067_3 ⟨(Nat.le_of_ble_eq_true rfl), (Nat.le_of_ble_eq_true rfl)⟩) hP hA [] rfl rfl (fun H locs hP => ?_)
  have hP : PD (dC, dI) A s.heap [] H locs := hP
  refine lv_aload_n hx hb dJ1_charAt_3b067_6 rfl (lv_at hl 0 rfl) ?_
  refine lv_iload_n hx hb dJ1_charAt_3b067_7 rfl (lv_at hl 1 rfl) ?_
  refine va_tb hC.1.1 hC.1.2 (hF.1.1 0 (by decide)).2.2.2 hP.2.2 hin (v := .int ((sBYT.getD 0 []).getD i.toNatClampNeg 0)) rfl dJ1_charAt_3b067_8 ?_
  refine lv_sipush (v := 255) hx hb dJ1_charAt_3b067_9 (by decide) ?_
  refine lv_iand hx hb dJ1_charAt_3b067_12 ?_
  refine lv_i2c hx hb dJ1_charAt_3b067_13 rfl ?_
  exact ret_s hC hr (chF_n _ hk) hlk hP dJ1_charAt_3b067_14 () ⟨rfl, rfl⟩ rfl
set_option maxHeartbeats 8000000 in
set_option maxRecDepth 100000 in
theorem c_J0_isLatin1_aae02 (l : Launch) (dC : Nat → ClassId) (dI : Nat → Nat → Nat) (cc : Nat → ClassId) (ak av : Nat) (sz : Nat) : Met l yJ0_isLatin1_aae02 (mw yJ0_isLatin1_aae02 cJ0_isLatin1_aae02 1 (some .boolean)) ({ frames := 0, cells := 0, slots := 0, locals := 0 } : Room) (va_Pc [.ref ak] (mS (dC, dI) (ts cc) sz ak av)) ((fun A => va_Qi (fun (r : Int32) (w : Unit) => r = 1 ∧ w = ()) (fun (w : Unit) t => va_P (dC, dI) classes [] t.heap) A) (va_A [] sz)) 0 0 (va_A [] sz) := by
  refine met_goS (ak := ak) (av := av) (Qc := fun A => va_Qi (fun (r : Int32) (w : Unit) => r = 1 ∧ w = ()) (fun (w : Unit) t => va_P (dC, dI) classes [] t.heap) A) (by decide) (Nat.le_of_ble_eq_true rfl) ?_
  intro p e s m below meth c A ls H locs hC hr hlk hin9 hA hP hl _ hF
  have hC : CX p m c cJ0_isLatin1_aae02 1 s ([.ref ak] : List Value).toArray RJ0 (dC, dI) (ts cc) := hC
  have hx := hC.1.1
  have hb := hC.1.2
  have hl : lv_has ls 1 [(0, .ref ak)] := hl
  refine va_gets hC.1.1 hC.1.2 hF.2.1 hP.2.2 hC.2.2.1 (hC.2.2.2.1 _ kw242) (fun _ z => z) dJ0_isLatin1_aae02_0 ?_
  refine lv_if_eq (tgt := 17) hx hb dJ0_isLatin1_aae02_3 (by decide) (fun z => absurd z (by decide)) (fun _ => ?_)
  refine lv_aload_n hx hb dJ0_isLatin1_aae02_6 rfl (lv_at hl 0 rfl) ?_
  refine vk_getf hC.1.1 hC.1.2 (hF.1.1 0 (by decide)).2.1 hP.2.2 hC.2.2.1 (hC.2.2.2.1 _ kw1161) (fun _ z => z) dJ0_isLatin1_aae02_7 ?_
  refine lv_if_ne (tgt := 17) hx hb dJ0_isLatin1_aae02_10 (by decide) (fun z => absurd rfl z) (fun _ => ?_)
  refine lv_iconst (v := 1) hx hb dJ0_isLatin1_aae02_13 (by decide) ?_
  refine lv_goto (tgt := 18) hx hb dJ0_isLatin1_aae02_14 (by decide) ?_
  exact ret_s hC hr rfl hlk hP dJ0_isLatin1_aae02_18 () ⟨rfl, rfl⟩ rfl
set_option maxHeartbeats 8000000 in
set_option maxRecDepth 100000 in
theorem c_J0_coder_7d493 (l : Launch) (dC : Nat → ClassId) (dI : Nat → Nat → Nat) (cc : Nat → ClassId) (ak av : Nat) (sz : Nat) : Met l yJ0_coder_7d493 (mw yJ0_coder_7d493 cJ0_coder_7d493 1 (some .byte)) ({ frames := 0, cells := 0, slots := 0, locals := 0 } : Room) (va_Pc [.ref ak] (mS (dC, dI) (ts cc) sz ak av)) ((fun A => va_Qi (fun (r : Int32) (w : Unit) => r = 0 ∧ w = ()) (fun (w : Unit) t => va_P (dC, dI) classes [] t.heap) A) (va_A [] sz)) 0 0 (va_A [] sz) := by
  refine met_goS (ak := ak) (av := av) (Qc := fun A => va_Qi (fun (r : Int32) (w : Unit) => r = 0 ∧ w = ()) (fun (w : Unit) t => va_P (dC, dI) classes [] t.heap) A) (by decide) (Nat.le_of_ble_eq_true rfl) ?_
  intro p e s m below meth c A ls H locs hC hr hlk hin9 hA hP hl _ hF
  have hC : CX p m c cJ0_coder_7d493 1 s ([.ref ak] : List Value).toArray RJ0 (dC, dI) (ts cc) := hC
  have hx := hC.1.1
  have hb := hC.1.2
  have hl : lv_has ls 1 [(0, .ref ak)] := hl
  refine va_gets hC.1.1 hC.1.2 hF.2.1 hP.2.2 hC.2.2.1 (hC.2.2.2.1 _ kw242) (fun _ z => z) dJ0_coder_7d493_0 ?_
  refine lv_if_eq (tgt := 13) hx hb dJ0_coder_7d493_3 (by decide) (fun z => absurd z (by decide)) (fun _ => ?_)
  refine lv_aload_n hx hb dJ0_coder_7d493_6 rfl (lv_at hl 0 rfl) ?_
  refine vk_getf hC.1.1 hC.1.2 (hF.1.1 0 (by decide)).2.1 hP.2.2 hC.2.2.1 (hC.2.2.2.1 _ kw1161) (fun _ z => z) dJ0_coder_7d493_7 ?_
  refine lv_goto (tgt := 14) hx hb dJ0_coder_7d493_10 (by decide) ?_
  exact ret_s hC hr rfl hlk hP dJ0_coder_7d493_14 () ⟨rfl, rfl⟩ rfl
set_option maxHeartbeats 8000000 in
set_option maxRecDepth 100000 in
theorem c_J0_length_8abf5 (l : Launch) (dC : Nat → ClassId) (dI : Nat → Nat → Nat) (cc : Nat → ClassId) (ak av : Nat) (sz : Nat) : Met l yJ0_length_8abf5 (mw yJ0_length_8abf5 cJ0_length_8abf5 1 (some .int)) ({ frames := 1, cells := 0, slots := 0, locals := 20 } : Room) (va_Pc [.ref ak] (mS (dC, dI) (ts cc) sz ak av)) ((fun A => va_Qi (fun (r : Int32) (w : Unit) => r = 105 ∧ w = ()) (fun (w : Unit) t => va_P (dC, dI) classes [] t.heap) A) (va_A [] sz)) 0 0 (va_A [] sz) := by
  refine met_goS (ak := ak) (av := av) (Qc := fun A => va_Qi (fun (r : Int32) (w : Unit) => r = 105 ∧ w = ()) (fun (w : Unit) t => va_P (dC, dI) classes [] t.heap) A) (by decide) (Nat.le_of_ble_eq_true rfl) ?_
  intro p e s m below meth c A ls H locs hC hr hlk hin9 hA hP hl _ hF
  have hC : CX p m c cJ0_length_8abf5 1 s ([.ref ak] : List Value).toArray RJ0 (dC, dI) (ts cc) := hC
  have hx := hC.1.1
  have hb := hC.1.2
  have hl : lv_has ls 1 [(0, .ref ak)] := hl
  refine lv_aload_n hx hb dJ0_length_8abf5_0 rfl (lv_at hl 0 rfl) ?_
  refine vk_getf hC.1.1 hC.1.2 (hF.1.1 0 (by decide)).2.2.1 hP.2.2 hC.2.2.1 (hC.2.2.2.1 _ kw1160) (fun _ z => z) dJ0_length_8abf5_1 ?_
  refine va_tlen hC.1.1 hC.1.2 (hF.1.1 0 (by decide)).2.2.2 hP.2.2 (v := 105) rfl dJ0_length_8abf5_4 ?_
  refine lv_aload_n hx hb dJ0_length_8abf5_5 rfl (lv_at hl 0 rfl) ?_
  refine kc_i (kVS hC (c_J0_coder_7d493 l dC dI cc ak av H.size) cv_J0_335 kw241 rfl rfl ⟨(Nat.le_of_ble_eq_true rfl), (Nat.le_of_ble_eq_true rfl)⟩ hF hA hP (As := []) (rest := [.int 105]) rfl rfl hl.1 (Nat.le_of_ble_eq_true rfl) dJ0_length_8abf5_6 ⟨(Nat.le_of_ble_eq_true rfl), (Nat.le_of_ble_eq_true rfl)⟩) hP hA [] rfl rfl (fun H locs hP => ?_)
  have hP : PD (dC, dI) A s.heap [] H locs := hP
  refine lv_ishr hx hb dJ0_length_8abf5_9 ?_
  exact ret_i hC hr hlk hP dJ0_length_8abf5_10 () ⟨by decide, rfl⟩ rfl
set_option maxHeartbeats 8000000 in
set_option maxRecDepth 100000 in
theorem c_J0_charAt_5068e (l : Launch) (dC : Nat → ClassId) (dI : Nat → Nat → Nat) (cc : Nat → ClassId) (ak av : Nat) (sz : Nat) (i : Int32) (hin : vp_in i 105) : Met l yJ0_charAt_5068e (mw yJ0_charAt_5068e cJ0_charAt_5068e 2 (some .char)) ({ frames := 3, cells := 0, slots := 0, locals := 65 } : Room) (va_Pc [.ref ak, .int i] (mS (dC, dI) (ts cc) sz ak av)) ((fun A => va_Qi (fun (r : Int32) (w : Unit) => r = chF i.toNatClampNeg ∧ w = ()) (fun (w : Unit) t => va_P (dC, dI) classes [] t.heap) A) (va_A [] sz)) 0 0 (va_A [] sz) := by
  refine met_goS (ak := ak) (av := av) (Qc := fun A => va_Qi (fun (r : Int32) (w : Unit) => r = chF i.toNatClampNeg ∧ w = ()) (fun (w : Unit) t => va_P (dC, dI) classes [] t.heap) A) (by decide) (Nat.le_of_ble_eq_true rfl) ?_
  intro p e s m below meth c A ls H locs hC hr hlk hin9 hA hP hl _ hF
  have hC : CX p m c cJ0_charAt_5068e 2 s ([.ref ak, .int i] : List Value).toArray RJ0 (dC, dI) (ts cc) := hC
  have hx := hC.1.1
  have hb := hC.1.2
  have hl : lv_has ls 2 [(0, .ref ak), (1, .int i)] := hl
  have hk : i.toNatClampNeg < 105 := Nat.not_le.mp (fun z => hin (Or.inr z))
  refine lv_aload_n hx hb dJ0_charAt_5068e_0 rfl (lv_at hl 0 rfl) ?_
  refine kc_i (kVS hC (c_J0_isLatin1_aae02 l dC dI cc ak av H.size) cv_J0_492 kw251 rfl rfl ⟨(Nat.le_of_ble_eq_true rfl), (Nat.le_of_ble_eq_true rfl)⟩ hF hA hP (As := []) (rest := []) rfl rfl hl.1 (Nat.le_of_ble_eq_true rfl) dJ0_charAt_5068e_1 ⟨(Nat.le_of_ble_eq_true rfl), (Nat.le_of_ble_eq_true rfl)⟩) hP hA [] rfl rfl (fun H locs hP => ?_)
  have hP : PD (dC, dI) A s.heap [] H locs := hP
  refine lv_if_eq (tgt := 16) hx hb dJ0_charAt_5068e_4 (by decide) (fun z => absurd z (by decide)) (fun _ => ?_)
  refine lv_aload_n hx hb dJ0_charAt_5068e_7 rfl (lv_at hl 0 rfl) ?_
  refine vk_getf hC.1.1 hC.1.2 (hF.1.1 0 (by decide)).2.2.1 hP.2.2 hC.2.2.1 (hC.2.2.2.1 _ kw1160) (fun _ z => z) dJ0_charAt_5068e_8 ?_
  refine lv_iload_n hx hb dJ0_charAt_5068e_11 rfl (lv_at hl 1 rfl) ?_
  refine kc_i (kSS hC (c_J1_charAt_3b067 l dC dI cc ak av H.size i hin) cs_J0_495 kw254 rfl rfl ⟨(Nat.le_of_ble_eq_true rfl), (Nat.le_of_ble_eq_true rfl)⟩ hF hA hP (As := [.ref av, .int i]) (rest := []) rfl rfl hl.1 (Nat.le_of_ble_eq_true rfl) dJ0_charAt_5068e_12 ⟨(Nat.le_of_ble_eq_true rfl), (Nat.le_of_ble_eq_true rfl)⟩) hP hA [] rfl rfl (fun H locs hP => ?_)
  have hP : PD (dC, dI) A s.heap [] H locs := hP
  exact ret_s hC hr (chF_n _ hk) hlk hP dJ0_charAt_5068e_15 () ⟨rfl, rfl⟩ rfl
