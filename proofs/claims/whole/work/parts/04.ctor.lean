/-! what makes objects: new cells, constructors -/
def NWp (own : String) (index ci N : Nat) (fs : List Value) : Prop := ∃ (C : String) (T : u_T) (ty0 : Nat → FieldType), classes[ci]? = some (C, T, N) ∧ (∀ w ∈ u_ws C T N, w ∈ Tg) ∧ (∀ k, k < N → parseFieldDescriptor (T k).2.2.1 = some (ty0 k)) ∧ Cond.classLink own index C ∈ Tg ∧ Cond.instantiable C N ∈ Tg ∧ Cond.initialized C ∈ Tg ∧ ∀ j, j < N → defaultValue (ty0 j) = vp_V fs j
section CTOR
variable {p : Program} {l : Launch} {e : Env} {R : Room} {s : State} {m : MethodId} {args : Array Value} {below : List Frame} {meth : Method} {c : Code} {H H0 : Heap} {locs : List Loc} {cells slots : Nat} {Q : State → Prop} {cc : ByteArray} {nL : Nat} {own : String} {D : va_G} {T : List (ClassId × FieldType)} {A : Nat → Prop} {ws wc wr : va_W} {pc : Nat} {ls : Array Slot} {rest st0 : List Value} {a : Nat} {b : Addr} {As : List Value}
theorem g_new {index ci N : Nat} {fs : List Value} (hC : CX p m c cc nL s args own D T) (hP : PD D A H0 ws H locs) (hA : ∀ q, H0.size ≤ q → A q) (nw : NWp own index ci N fs) (hcells : cells + 1 ≤ R.cells) (hslots : slots + N ≤ R.slots) (hdg : decode cc pc = .ok (.new index, 3))
    (kk : ∀ (q : Nat) (H1 : Heap), PD D A H0 (ws ++ [(q, .inr (ci, fs))]) H1 locs → W p l e R s m args below meth c H1 locs (cells + 1) (slots + N) Q (F0 m (pc + 3) ls (.ref q :: rest))) : W p l e R s m args below meth c H locs cells slots Q (F0 m pc ls rest) := by
  obtain ⟨C, Tf, ty0, h1, h2, h3, h4, h5, h6, h7⟩ := nw
  exact va_new hC.1.1 hC.1.2 hC.2.2.2.1 h2 ty0 h3 hC.2.2.1 (hC.2.2.2.1 _ h4) (hC.2.2.2.1 _ h5) (hC.2.2.2.1 _ h6) hC.2.2.2.2.1 hP.1 hP.2.1 hP.2.2 hA h1 h7 hcells hslots hdg (fun q H1 x1 x2 x3 => kk q H1 ⟨x1, x2, x3⟩)
theorem va_RA_inj {cA c0 : ClassId} {ty : FieldType} (h1 : va_RA s cA ty) (h2 : va_RA s c0 ty) : cA = c0 := by
  cases ty with
  | object C =>
    obtain ⟨k1, k2, a1, a2, a3, a4⟩ := h1
    obtain ⟨k3, k4, b1, b2, b3, b4⟩ := h2
    rw [a4] at b4
    exact Option.some.inj b4
  | _ =>
    have a1 : s.vm.findClass _ = some cA := h1
    have b1 : s.vm.findClass _ = some c0 := h2
    rw [a1] at b1
    exact Option.some.inj b1
theorem g_newa {atype : ArrayType} {ty : FieldType} {c0 : ClassId} {n : Int32} {N' : Nat} (hC : CX p m c cc nL s args own D T) (hP : PD D A H0 ws H locs) (hA : ∀ q, H0.size ≤ q → A q) (harr : Cond.arrayClass (newarray.typeOf atype) ∈ Tg) (hty : newarray.typeOf atype = ty) (t0 : Nat) (ht : T[t0]? = some (c0, ty)) (a0 : vp_A) (ha : ∀ cA : ClassId, vp_cell cA a0 = arrV cA N' (fun _ => defaultValue ty)) (hn : ¬ n < 0) (hN : n.toNatClampNeg = N') (hbytes : N' * componentBytes ty ≤ 536870912) (hcells : cells + 1 ≤ R.cells) (hslots : slots + N' ≤ R.slots) (hdg : decode cc pc = .ok (.newarray atype, 2))
    (kk : ∀ (q : Nat) (H1 : Heap), PD D A H0 (ws ++ [(q, .inl (c0, a0))]) H1 locs → W p l e R s m args below meth c H1 locs (cells + 1) (slots + N') Q (F0 m (pc + 2) ls (.ref q :: rest))) : W p l e R s m args below meth c H locs cells slots Q (F0 m pc ls (.int n :: rest)) := by
  refine va_newa hC.1.1 hC.1.2 (hC.2.2.2.1 _ harr) hty hC.2.2.2.2.1 hP.1 hP.2.1 hP.2.2 hA ha hn hN hbytes hcells hslots hdg (fun q cA H1 x0 x1 x2 x3 => ?_)
  have g1 := (x0.2 T.length (cA, ty) (by simp)).2
  have g2 := (hC.2.2.2.2.1.2 t0 _ ht).2
  have e := va_RA_inj g1 g2
  subst e
  exact kk q H1 ⟨x1, x2, x3⟩
theorem g_newq {index : Nat} {c0 : ClassId} {n : Int32} {N' : Nat} (hC : CX p m c cc nL s args own D T) (hP : PD D A H0 ws H locs) (hA : ∀ q, H0.size ≤ q → A q) (hcl : Cond.classLink own index "LeftAndRight$Shelf" ∈ Tg) (t0 : Nat) (ht : T[t0]? = some (c0, .object "LeftAndRight$Shelf")) (hn : ¬ n < 0) (hN : n.toNatClampNeg = N') (hbytes : N' * 4 ≤ 536870912) (hcells : cells + 1 ≤ R.cells) (hslots : slots + N' ≤ R.slots) (hdg : decode cc pc = .ok (.anewarray index, 3))
    (kk : ∀ (q : Nat) (H1 : Heap), PD D A H0 (ws ++ [(q, .inl (c0, N', .inr (.inr (.inr (.inr (fun _ => none))))))]) H1 locs → W p l e R s m args below meth c H1 locs (cells + 1) (slots + N') Q (F0 m (pc + 3) ls (.ref q :: rest))) : W p l e R s m args below meth c H locs cells slots Q (F0 m pc ls (.int n :: rest)) := by
  refine va_newq hC.1.1 hC.1.2 hC.2.2.1 (hC.2.2.2.1 _ hcl) hC.2.2.2.2.2.2 hC.2.2.2.2.1 hP.1 hP.2.1 hP.2.2 hA hn hN hbytes hcells hslots hdg (fun q cA H1 x0 x1 x2 x3 => ?_)
  have g1 := (x0.2 T.length (cA, .object "LeftAndRight$Shelf") (by simp)).2
  have g2 := (hC.2.2.2.2.1.2 t0 _ ht).2
  have e := va_RA_inj g1 g2
  subst e
  exact kk q H1 ⟨x1, x2, x3⟩
theorem ret_n {S : Type} {wd : S → va_W} (hC : CX p m c cc nL s args own D T) (hr : meth.sig.returnType = none) (hlk : meth.locks = false) (hP : PD D A s.heap ws H locs) (hdg : decode cc pc = .ok (.return_, 1)) (w : S) (hw : ws = wd w) :
    W p l e R s m args below meth c H locs cells slots (MQ below (va_Qv (fun _ => True) (fun u t => va_P D classes (wd u) t.heap ∧ va_D A (wd u)) A) args s cells slots A) (F0 m pc ls []) :=
  W.vret hC.1.1 hC.1.2 hr (fun t ht _ => ⟨⟨w, rfl, trivial, by show va_P D classes (wd w) t.heap ∧ va_D A (wd w); rw [ht, ← hw]; exact ⟨hP.1, hP.2.1⟩⟩, hP.2.2.F ht⟩) hP.2.2.2.2 hdg
def CIw (own : String) (index : Nat) (y : MethodName) (host : String) (n : Nat) : Prop := (y.cls ≠ "java/lang/invoke/MethodHandle" ∧ y.cls ≠ "java/lang/invoke/VarHandle" ∧ (parseMethodDescriptor y.desc).map (fun d => d.parameters.length) = some n) ∧ (own, index, y, host) ∈ NSt ∧ Cond.instanceMethod y ∈ Tg ∧ Cond.initialized y.cls ∈ Tg ∧ y.name = "<init>"
def CJw (own : String) (index : Nat) (y : MethodName) (n : Nat) : Prop := (y.cls ≠ "java/lang/invoke/MethodHandle" ∧ y.cls ≠ "java/lang/invoke/VarHandle" ∧ (parseMethodDescriptor y.desc).map (fun d => d.parameters.length) = some n) ∧ Cond.methodLink own index y ∈ Tg ∧ Cond.instanceMethod y ∈ Tg ∧ Cond.initialized y.cls ∈ Tg ∧ y.name = "<init>"
theorem kI {y : MethodName} {bytes : ByteArray} {maxL index n mc ms : Nat} {host : String} {rm : Room} {Qc : Array Value → State → Outcome → State → Prop} {free : Addr → Prop} (hC : CX p m c cc nL s args own D T) (hM : Met l y (mw y bytes maxL none) rm (va_Pc (.ref b :: As) (mP D T H.size wc)) Qc mc ms free) (cv : CIw own index y host n) (co : Cond.code y bytes maxL none ∈ Tg) (hrc : rm.cells = mc) (hrs : rm.slots = ms) (hR : rm.frames + 1 ≤ R.frames ∧ 8 + (maxL + 11) + rm.locals ≤ R.locals) (hP : PD D A H0 ws H locs) (isC : List Nat) (hCm : isC.map (fun i => ws[i]?) = wc.map some) (hnd : va_nd isC = true)
    (hn : As.length = n) (hstack : st0 = As.reverse ++ .ref b :: rest) (hsz : ls.size = nL) (hW : (rest.map fun v => v.category).sum ≤ 8) (hdg : decode cc pc = .ok (.invokespecial index, 3)) (hf : cells + mc ≤ R.cells ∧ slots + ms ≤ R.slots) : va_Run p l e R s m args below meth c H locs cells slots mc ms (F0 m pc ls st0) rest (Qc (Value.ref b :: As).toArray) free := by
  obtain ⟨c1, c2, c3, c4, c5⟩ := cv
  exact va_runIN (Ts := Tg) ⟨hC.1.1, hC.1.2, hC.2.1, hC.2.2.1, hC.2.2.2.1⟩ hM ⟨va_cnB n hC.2.2.2.1 (good_mw co) rfl hrc hrs (hC.2.2.2.2.2.1 _ c2) (hC.2.2.2.1 _ c4) c1 hR, c5, hC.2.2.2.1 _ c3⟩ ⟨mP_blind, fun U hU hW => ⟨rfl, PD_mP hC hP isC hCm hnd hU hW⟩⟩ rfl hn hsz hstack (lv_room (rest := st0) hW) hdg hf
theorem kJ {y : MethodName} {bytes : ByteArray} {maxL index n mc ms : Nat} {rm : Room} {Qc : Array Value → State → Outcome → State → Prop} {free : Addr → Prop} (hC : CX p m c cc nL s args own D T) (hM : Met l y (mw y bytes maxL none) rm (va_Pc (.ref b :: As) (mP D T H.size wc)) Qc mc ms free) (cv : CJw own index y n) (co : Cond.code y bytes maxL none ∈ Tg) (hrc : rm.cells = mc) (hrs : rm.slots = ms) (hR : rm.frames + 1 ≤ R.frames ∧ 8 + (maxL + 11) + rm.locals ≤ R.locals) (hP : PD D A H0 ws H locs) (isC : List Nat) (hCm : isC.map (fun i => ws[i]?) = wc.map some) (hnd : va_nd isC = true)
    (hn : As.length = n) (hstack : st0 = As.reverse ++ .ref b :: rest) (hsz : ls.size = nL) (hW : (rest.map fun v => v.category).sum ≤ 8) (hdg : decode cc pc = .ok (.invokespecial index, 3)) (hf : cells + mc ≤ R.cells ∧ slots + ms ≤ R.slots) : va_Run p l e R s m args below meth c H locs cells slots mc ms (F0 m pc ls st0) rest (Qc (Value.ref b :: As).toArray) free := by
  obtain ⟨c1, c2, c3, c4, c5⟩ := cv
  exact va_runI (Ts := Tg) ⟨hC.1.1, hC.1.2, hC.2.1, hC.2.2.1, hC.2.2.2.1⟩ hM (cwI n hC.2.2.2.1 (good_mw co) rfl hrc hrs (hC.2.2.2.1 _ c4) (hC.2.2.2.1 _ c2) (hC.2.2.2.1 _ c3) c5 c1 hR) ⟨mP_blind, fun U hU hW => ⟨rfl, PD_mP hC hP isC hCm hnd hU hW⟩⟩ rfl hn hsz hstack (lv_room (rest := st0) hW) hdg hf
theorem kc_n {S : Type} {wd : S → va_W} {av : Array Value} {mc ms : Nat} (hr : va_Run p l e R s m args below meth c H locs cells slots mc ms (F0 m pc ls st0) rest (va_Qv (fun _ => True) (fun u t => va_P D classes (wd u) t.heap ∧ va_D (va_A wc H.size) (wd u)) (va_A wc H.size) av) (va_A wc H.size)) (hP : PD D A H0 ws H locs) (hA : ∀ q, H0.size ≤ q → A q) (isC isR : List Nat) (hCm : isC.map (fun i => ws[i]?) = wc.map some) (hRm : isR.map (fun i => ws[i]?) = wr.map some) (hnd : va_nd isR = true) (hdis : ∀ i ∈ isR, i ∉ isC)
    (kk : ∀ (u : S) (H1 : Heap) (locs1 : List Loc), PD D A H0 (wr ++ wd u) H1 locs1 → W p l e R s m args below meth c H1 locs1 (cells + mc) (slots + ms) Q (F0 m (pc + 3) ls rest)) : W p l e R s m args below meth c H locs cells slots Q (F0 m pc ls st0) := by
  refine va_callv hr hP.2.2 (fun q _ h => kc_free hP hA isC hCm q h) (kc_free hP hA isC hCm) (fun u t H1 locs1 ht hvm hw hB hz1 hk1 hS => ?_)
  obtain ⟨hB1, hB2⟩ := hB
  rw [ht] at hB1
  obtain ⟨g1, g2⟩ := va_join hP.1 hP.2.1 isC isR hCm hRm hnd hdis hk1 (kc_free hP hA isC hCm) hB1 hB2
  exact kk u H1 locs1 ⟨g1, g2, hS⟩
theorem g_objInit {idx : Nat} (hC : CX p m c cc nL s args own D T) (hl : Cond.methodLink own idx objectInit ∈ Tg) (hi : Cond.instanceMethod objectInit ∈ Tg) (hco : Cond.code objectInit ⟨#[0xb1]⟩ 1 none ∈ Tg) (hsz : ls.size = nL) (hdg : decode cc pc = .ok (.invokespecial idx, 3)) (hframes : 1 ≤ R.frames) (hlocals : (rest.map fun v => v.category).sum + 12 ≤ R.locals)
    (kk : W p l e R s m args below meth c H locs cells slots Q (F0 m (pc + 3) ls rest)) : W p l e R s m args below meth c H locs cells slots Q (F0 m pc ls (.ref a :: rest)) :=
  W.objInit hC.1.1 hC.1.2 hC.2.2.1 (hC.2.2.2.1 _ hl) (hC.2.2.2.1 _ hi) (hC.2.2.2.1 _ hco) rfl (hsz.trans hC.2.1.symm) rfl hdg hframes (by show 2 * 0 + _ + 12 ≤ _; omega) kk
/-- a row's picture that holds the same cells -/
theorem PD_cell {cA : ClassId} {x x' : vp_A} (hP : PD D A H0 ws H locs) (k : Nat) (hk : ws[k]? = some (a, .inl (cA, x))) (e : vp_cell cA x = vp_cell cA x') : PD D A H0 (ws.set k (a, .inl (cA, x'))) H locs := by
  obtain ⟨h1, h2, h3⟩ := hP
  refine ⟨fun j q hq => ?_, va_Dfst ?_ h2, h3⟩
  · by_cases z : k = j
    · subst z
      have hlt : k < ws.length := (List.getElem?_eq_some_iff.mp hk).1
      rw [List.getElem?_set_self hlt] at hq
      cases hq
      have g := h1 k _ hk
      show H[a]? = some (vp_cell cA x')
      rw [← e]
      exact g
    · rw [List.getElem?_set_ne z] at hq
      exact h1 j q hq
  · apply List.ext_getElem?
    intro j
    rw [List.getElem?_map, List.getElem?_map]
    by_cases z : k = j
    · subst z
      rw [List.getElem?_set_self (List.getElem?_eq_some_iff.mp hk).1, hk]
      rfl
    · rw [List.getElem?_set_ne z]
end CTOR
