/-! what changes a shelf -/
def vAdd (v : Nat → Nat → Nat) (n k s z w d : Nat) : Nat → Nat → Nat := fun i j => if i = n then (if j = 0 then k else if j = 1 then s else if j = 2 then z else if j = 3 then w else d) else v i j
def vDel (v : Nat → Nat → Nat) (i : Nat) : Nat → Nat → Nat := fun j => if j < i then v j else v (j + 1)
def vHol (v : Nat → Nat → Nat) (i : Nat) : Nat → Nat → Nat := fun a b => if a = i ∧ b = 0 then 2 else v a b
theorem X9_put_s {k n : Nat} {x : Int32} {f : Nat → Int32} (h : k < n) (hn : n < 2147483648) : f_X9_put (nI k) x n f = some (fun j => if j = k then x else f j) := by
  unfold f_X9_put
  simp (disch := omega) only [l0, l1, l2, l3, l4, l5, l6, l7, l8, l9, l10, l12, l20, l24, l30, l31, l32, l40, l47, l48, l50, l52, l57, l60, l72, l79, l90, l98, l99, l100, l103, l104, l126, l200, l360, l364, l416, l999, l1000, l1024, nI_add, pk_mul, nIsub, nIdiv, nIrem, nIle, nIlt, nIeq, rd_s, wr_s, bnd_some, u2, u3, u4, u5, u6, u7, if_pos, if_neg, ne_eq, not_false_eq_true, Nat.add_sub_cancel, if_true, if_false]
theorem X9_at_s {k n : Nat} {f : Nat → Int32} (h : k < n) (hn : n < 2147483648) : f_X9_at (nI k) n f = some (f k) := by
  unfold f_X9_at
  simp (disch := omega) only [l0, l1, l2, l3, l4, l5, l6, l7, l8, l9, l10, l12, l20, l24, l30, l31, l32, l40, l47, l48, l50, l52, l57, l60, l72, l79, l90, l98, l99, l100, l103, l104, l126, l200, l360, l364, l416, l999, l1000, l1024, nI_add, pk_mul, nIsub, nIdiv, nIrem, nIle, nIlt, nIeq, rd_s, wr_s, bnd_some, u2, u3, u4, u5, u6, u7, if_pos, if_neg, ne_eq, not_false_eq_true, Nat.add_sub_cancel, if_true, if_false]
theorem X9_copyRow_s {n1 : Nat} {f g : Nat → Int32} (hn : n1 < 2147483648) : f_X9_copyRow n1 n1 f g = some (fun j => if j < n1 then f j else g j) := by
  unfold f_X9_copyRow
  rw [if_neg (nI_nlt (Nat.le_refl _) (by omega)), bnd_some, acp_s (Nat.le_refl _) (Nat.le_refl _) hn, bnd_some]
theorem okC_mono {v : Nat → Nat → Nat} {i d e : Nat} (h : okC v i d) (hd : d ≤ e) : okC v i e := by
  obtain ⟨o0, o1, o2, o3, o4, o5, o6⟩ := h
  exact ⟨o0, o1, o2, o3, o4, o5, by omega⟩
theorem okS_pass {n d e : Nat} {v : Nat → Nat → Nat} (h : okS n d v) (hd : d ≤ e) (he : e ≤ 999) : okS n e v := ⟨h.1, he, fun i hi => okC_mono (h.2.2 i hi) hd⟩
theorem okS_add {n d k s z w : Nat} {v : Nat → Nat → Nat} (h : okS n d v) (hn : n < 10) (hk : k ≤ 3) (hs : s ≤ 1) (hz : 12 ≤ z ∧ z ≤ 72) (hw : 1 ≤ w ∧ w ≤ 40) : okS (n + 1) d (vAdd v n k s z w d) := by
  refine ⟨by omega, h.2.1, fun i hi => ?_⟩
  unfold okC vAdd
  by_cases q : i = n
  · simp only [q, if_true]
    simp
    omega
  · simp only [q, if_false]
    exact h.2.2 i (by omega)
theorem okS_del {n d i : Nat} {v : Nat → Nat → Nat} (h : okS n d v) (hi : i < n) : okS (n - 1) d (vDel v i) := by
  refine ⟨by have := h.1; omega, h.2.1, fun j hj => ?_⟩
  unfold okC vDel
  by_cases q : j < i
  · simp only [q, if_true]
    exact h.2.2 j (by omega)
  · simp only [q, if_false]
    exact h.2.2 (j + 1) (by omega)
theorem okS_hol {n d i : Nat} {v : Nat → Nat → Nat} (h : okS n d v) (hi : i < n) : okS n d (vHol v i) := by
  refine ⟨h.1, h.2.1, fun j hj => ?_⟩
  obtain ⟨o0, o1, o2, o3, o4, o5, o6⟩ := h.2.2 j hj
  unfold okC vHol
  simp
  refine ⟨?_, o1, o2, o3, o4, o5, o6⟩
  split <;> omega
section XM
variable {c : Nat → Int32} {n d : Nat} {v : Nat → Nat → Nat}
theorem X4_add_s (hc : XC c n v) (hn : n < 10) (k s z w : Nat) : ∃ c', f_X4_add (nI k) (nI s) (nI z) (nI w) (nI n) (nI d) c = some (c', nI (n + 1)) ∧ XC c' (n + 1) (vAdd v n k s z w d) := by
  unfold f_X4_add
  simp (disch := omega) only [l0, l1, l2, l3, l4, l5, l6, l7, l8, l9, l10, l12, l20, l24, l30, l31, l32, l40, l47, l48, l50, l52, l57, l60, l72, l79, l90, l98, l99, l100, l103, l104, l126, l200, l360, l364, l416, l999, l1000, l1024, nI_add, pk_mul, nIsub, nIdiv, nIrem, nIle, nIlt, nIeq, rd_s, wr_s, bnd_some, u2, u3, u4, u5, u6, u7, if_pos, if_neg, ne_eq, not_false_eq_true, Nat.add_sub_cancel, if_true, if_false, X9_put_s]
  refine ⟨_, rfl, ?_⟩
  intro i hi j hj
  unfold vAdd
  by_cases q : i = n
  · subst q
    rcases (show j = 0 ∨ j = 1 ∨ j = 2 ∨ j = 3 ∨ j = 4 by omega) with e | e | e | e | e <;> subst e <;> simp
  · have h := hc i (by omega) j hj
    simp (disch := omega) only [l0, l1, l2, l3, l4, l5, l6, l7, l8, l9, l10, l12, l20, l24, l30, l31, l32, l40, l47, l48, l50, l52, l57, l60, l72, l79, l90, l98, l99, l100, l103, l104, l126, l200, l360, l364, l416, l999, l1000, l1024, nI_add, pk_mul, nIsub, nIdiv, nIrem, nIle, nIlt, nIeq, rd_s, wr_s, bnd_some, u2, u3, u4, u5, u6, u7, if_pos, if_neg, ne_eq, not_false_eq_true, Nat.add_sub_cancel, if_true, if_false, h]
theorem X4_removeOne_s (hc : XC c n v) (hn : n ≤ 10) {i : Nat} (hi : i < n) : ∃ c', f_X4_removeOne (nI i) (nI n) c = some (c', nI (n - 1)) ∧ XC c' (n - 1) (vDel v i) := by
  obtain ⟨r, h1, h2⟩ := lp_FU (b := u2 (b_X4_removeOne_1 (nI n))) (fun t s => s.1 = nI (i * 5 + t) ∧ ∀ j, s.2 j = if i * 5 ≤ j ∧ j < i * 5 + t then c (j + 5) else c j) (fun r => ∀ j, r.2 j = if i * 5 ≤ j ∧ j < (n - 1) * 5 then c (j + 5) else c j) ((n - 1 - i) * 5) (nI (i * 5), c) (by omega) ⟨by rw [Nat.add_zero], fun j => by rw [if_neg (by omega)]⟩ (by
    intro t s ht ⟨e1, e2⟩
    obtain ⟨x, f⟩ := s
    dsimp only at e1 e2
    subst e1
    show (∃ r, b_X4_removeOne_1 (nI n) (nI (i * 5 + t)) f = some (.inr r) ∧ _) ∨ (_ ∧ ∃ s', b_X4_removeOne_1 (nI n) (nI (i * 5 + t)) f = some (.inl s') ∧ _)
    unfold b_X4_removeOne_1
    by_cases q : t < (n - 1 - i) * 5
    · refine Or.inr ⟨q, ?_⟩
      simp (disch := omega) only [l0, l1, l2, l3, l4, l5, l6, l7, l8, l9, l10, l12, l20, l24, l30, l31, l32, l40, l47, l48, l50, l52, l57, l60, l72, l79, l90, l98, l99, l100, l103, l104, l126, l200, l360, l364, l416, l999, l1000, l1024, nI_add, pk_mul, nIsub, nIdiv, nIrem, nIle, nIlt, nIeq, rd_s, wr_s, bnd_some, u2, u3, u4, u5, u6, u7, if_pos, if_neg, ne_eq, not_false_eq_true, Nat.add_sub_cancel, if_true, if_false, X9_put_s, X9_at_s]
      refine ⟨_, rfl, by dsimp only; congr 1, fun j => ?_⟩
      try dsimp only
      by_cases z : j = i * 5 + t
      · subst z
        rw [if_pos rfl, if_pos (by omega), e2, if_neg (by omega)]
      · rw [if_neg z, e2]
        by_cases z2 : i * 5 ≤ j ∧ j < i * 5 + t
        · rw [if_pos z2, if_pos (by omega)]
        · rw [if_neg z2, if_neg (by omega)]
    · have : t = (n - 1 - i) * 5 := by omega
      refine Or.inl ?_
      simp (disch := omega) only [l0, l1, l2, l3, l4, l5, l6, l7, l8, l9, l10, l12, l20, l24, l30, l31, l32, l40, l47, l48, l50, l52, l57, l60, l72, l79, l90, l98, l99, l100, l103, l104, l126, l200, l360, l364, l416, l999, l1000, l1024, nI_add, pk_mul, nIsub, nIdiv, nIrem, nIle, nIlt, nIeq, rd_s, wr_s, bnd_some, u2, u3, u4, u5, u6, u7, if_pos, if_neg, ne_eq, not_false_eq_true, Nat.add_sub_cancel, if_true, if_false]
      refine ⟨_, rfl, fun j => ?_⟩
      try dsimp only
      rw [e2, show i * 5 + t = (n - 1) * 5 by omega])
  obtain ⟨x, f⟩ := r
  dsimp only at h2
  refine ⟨f, ?_, ?_⟩
  · unfold f_X4_removeOne
    rw [X4_holds_s hn hi, bnd_some, if_neg (by decide), show nI i * 5 = nI (i * 5) from by rw [l5, pk_mul], h1, bnd_some]
    simp (disch := omega) only [l0, l1, l2, l3, l4, l5, l6, l7, l8, l9, l10, l12, l20, l24, l30, l31, l32, l40, l47, l48, l50, l52, l57, l60, l72, l79, l90, l98, l99, l100, l103, l104, l126, l200, l360, l364, l416, l999, l1000, l1024, nI_add, pk_mul, nIsub, nIdiv, nIrem, nIle, nIlt, nIeq, rd_s, wr_s, bnd_some, u2, u3, u4, u5, u6, u7, if_pos, if_neg, ne_eq, not_false_eq_true, Nat.add_sub_cancel, if_true, if_false]
  · intro a ha w hw
    rw [h2]
    unfold vDel
    by_cases q : a < i
    · rw [if_neg (by omega), if_pos q]
      exact hc a (by omega) w hw
    · rw [if_pos (by omega), if_neg q, show a * 5 + w + 5 = (a + 1) * 5 + w by omega]
      exact hc (a + 1) (by omega) w hw
theorem X4_removeTwo_s (hc : XC c n v) (hn : n ≤ 10) {i j : Nat} (hi : i < n) (hj : j < n) (hij : i ≠ j) : ∃ c', f_X4_removeTwo (nI i) (nI j) (nI n) c = some (c', nI (n - 2)) ∧ XC c' (n - 2) (vDel (vDel v (if i < j then j else i)) (if i < j then i else j)) := by
  unfold f_X4_removeTwo
  simp only [bnd_some]
  by_cases q : i < j
  · obtain ⟨c1, a1, a2⟩ := X4_removeOne_s hc hn hj
    obtain ⟨c2, a3, a4⟩ := X4_removeOne_s (i := i) a2 (by omega) (by omega)
    rw [if_pos (nI_lt q (by omega)), if_neg (nI_nlt (by omega) (by omega)), a1, bnd_some]
    dsimp only [u2]
    rw [a3, bnd_some]
    refine ⟨c2, by rw [show n - 1 - 1 = n - 2 by omega], ?_⟩
    rw [if_pos q, if_pos q, show n - 2 = n - 1 - 1 by omega]
    exact a4
  · obtain ⟨c1, a1, a2⟩ := X4_removeOne_s hc hn hi
    obtain ⟨c2, a3, a4⟩ := X4_removeOne_s (i := j) a2 (by omega) (by omega)
    rw [if_neg (nI_nlt (by omega) (by omega)), if_pos (nI_lt (by omega) (by omega)), a1, bnd_some]
    dsimp only [u2]
    rw [a3, bnd_some]
    refine ⟨c2, by rw [show n - 1 - 1 = n - 2 by omega], ?_⟩
    rw [if_neg q, if_neg q, show n - 2 = n - 1 - 1 by omega]
    exact a4
theorem X4_pierce_s (hc : XC c n v) (hn : n ≤ 10) {i : Nat} (hi : i < n) : ∃ c', f_X4_pierce (nI i) (nI n) c = some c' ∧ XC c' n (vHol v i) := by
  unfold f_X4_pierce
  rw [X4_holds_s hn hi, bnd_some, if_neg (by decide)]
  simp (disch := omega) only [l0, l1, l2, l3, l4, l5, l6, l7, l8, l9, l10, l12, l20, l24, l30, l31, l32, l40, l47, l48, l50, l52, l57, l60, l72, l79, l90, l98, l99, l100, l103, l104, l126, l200, l360, l364, l416, l999, l1000, l1024, nI_add, pk_mul, nIsub, nIdiv, nIrem, nIle, nIlt, nIeq, rd_s, wr_s, bnd_some, u2, u3, u4, u5, u6, u7, if_pos, if_neg, ne_eq, not_false_eq_true, Nat.add_sub_cancel, if_true, if_false, X9_put_s]
  refine ⟨_, rfl, ?_⟩
  intro a ha w hw
  unfold vHol
  by_cases q : a = i ∧ w = 0
  · try dsimp only
    rw [if_pos q, if_pos (by omega)]
  · try dsimp only
    rw [if_neg q, if_neg (by omega)]
    exact hc a ha w hw
theorem X4_copy_s (c0 : Nat → Int32) (hc : XC c n v) (hn : n ≤ 10) : ∃ c', f_X4_copy c0 (nI n) (nI d) c = some (c', nI n, nI d) ∧ XC c' n v := by
  unfold f_X4_copy
  rw [X9_copyRow_s (by omega), bnd_some]
  refine ⟨_, rfl, ?_⟩
  intro a ha w hw
  try dsimp only
  rw [if_pos (by omega)]
  exact hc a ha w hw
end XM
section MM
variable {st : Nat → Int32} {n d : Nat} {v : Nat → Nat → Nat}
theorem M_puts_s (h : MN st n d v) (hn : n < 10) (k s z w : Nat) : ∃ st', f_X10_puts (nI k) (nI s) (nI z) (nI w) 52 st = some st' ∧ MN st' (n + 1) d (vAdd v n k s z w d) := by
  have e1 := h.2.1
  have e0 := h.1
  unfold f_X10_puts
  simp (disch := omega) only [l0, l1, l2, l3, l4, l5, l6, l7, l8, l9, l10, l12, l20, l24, l30, l31, l32, l40, l47, l48, l50, l52, l57, l60, l72, l79, l90, l98, l99, l100, l103, l104, l126, l200, l360, l364, l416, l999, l1000, l1024, nI_add, pk_mul, nIsub, nIdiv, nIrem, nIle, nIlt, nIeq, rd_s, wr_s, bnd_some, u2, u3, u4, u5, u6, u7, if_pos, if_neg, ne_eq, not_false_eq_true, Nat.add_sub_cancel, if_true, if_false, e1, e0]
  refine ⟨_, rfl, ?_, ?_, fun i hi => ?_⟩
  · simp (disch := omega) only [l0, l1, l2, l3, l4, l5, l6, l7, l8, l9, l10, l12, l20, l24, l30, l31, l32, l40, l47, l48, l50, l52, l57, l60, l72, l79, l90, l98, l99, l100, l103, l104, l126, l200, l360, l364, l416, l999, l1000, l1024, nI_add, pk_mul, nIsub, nIdiv, nIrem, nIle, nIlt, nIeq, rd_s, wr_s, bnd_some, u2, u3, u4, u5, u6, u7, if_pos, if_neg, ne_eq, not_false_eq_true, Nat.add_sub_cancel, if_true, if_false, e0]
  · simp (disch := omega) only [l0, l1, l2, l3, l4, l5, l6, l7, l8, l9, l10, l12, l20, l24, l30, l31, l32, l40, l47, l48, l50, l52, l57, l60, l72, l79, l90, l98, l99, l100, l103, l104, l126, l200, l360, l364, l416, l999, l1000, l1024, nI_add, pk_mul, nIsub, nIdiv, nIrem, nIle, nIlt, nIeq, rd_s, wr_s, bnd_some, u2, u3, u4, u5, u6, u7, if_pos, if_neg, ne_eq, not_false_eq_true, Nat.add_sub_cancel, if_true, if_false]
  · unfold vAdd
    by_cases q : i = n
    · subst q
      refine ⟨?_, ?_, ?_, ?_, ?_⟩ <;> simp (disch := omega) only [l0, l1, l2, l3, l4, l5, l6, l7, l8, l9, l10, l12, l20, l24, l30, l31, l32, l40, l47, l48, l50, l52, l57, l60, l72, l79, l90, l98, l99, l100, l103, l104, l126, l200, l360, l364, l416, l999, l1000, l1024, nI_add, pk_mul, nIsub, nIdiv, nIrem, nIle, nIlt, nIeq, rd_s, wr_s, bnd_some, u2, u3, u4, u5, u6, u7, if_pos, if_neg, ne_eq, not_false_eq_true, Nat.add_sub_cancel, if_true, if_false]
    · obtain ⟨a0, a1, a2, a3, a4⟩ := h.2.2 i (by omega)
      refine ⟨?_, ?_, ?_, ?_, ?_⟩ <;> simp (disch := omega) only [l0, l1, l2, l3, l4, l5, l6, l7, l8, l9, l10, l12, l20, l24, l30, l31, l32, l40, l47, l48, l50, l52, l57, l60, l72, l79, l90, l98, l99, l100, l103, l104, l126, l200, l360, l364, l416, l999, l1000, l1024, nI_add, pk_mul, nIsub, nIdiv, nIrem, nIle, nIlt, nIeq, rd_s, wr_s, bnd_some, u2, u3, u4, u5, u6, u7, if_pos, if_neg, ne_eq, not_false_eq_true, Nat.add_sub_cancel, if_true, if_false, a0, a1, a2, a3, a4]
theorem M_leaves_s (h : MN st n d v) (hn : n ≤ 10) {i : Nat} (hi : i < n) : ∃ st', f_X10_leaves (nI i) 52 st = some st' ∧ MN st' (n - 1) d (vDel v i) := by
  obtain ⟨r, h1, h2⟩ := lp_FU (b := u2 (b_X10_leaves_1 52)) (fun t s => s.1 = nI (2 + 5 * i + t) ∧ ∀ j, s.2 j = if 2 + 5 * i ≤ j ∧ j < 2 + 5 * i + t then st (j + 5) else st j) (fun r => ∀ j, r.2 j = if 2 + 5 * i ≤ j ∧ j < 47 then st (j + 5) else st j) (45 - 5 * i) (nI (2 + 5 * i), st) (by omega) ⟨by rw [Nat.add_zero], fun j => by rw [if_neg (by omega)]⟩ (by
    intro t s ht ⟨e1, e2⟩
    obtain ⟨x, f⟩ := s
    dsimp only at e1 e2
    subst e1
    show (∃ r, b_X10_leaves_1 52 (nI (2 + 5 * i + t)) f = some (.inr r) ∧ _) ∨ (_ ∧ ∃ s', b_X10_leaves_1 52 (nI (2 + 5 * i + t)) f = some (.inl s') ∧ _)
    unfold b_X10_leaves_1
    by_cases q : t < 45 - 5 * i
    · refine Or.inr ⟨q, ?_⟩
      simp (disch := omega) only [l0, l1, l2, l3, l4, l5, l6, l7, l8, l9, l10, l12, l20, l24, l30, l31, l32, l40, l47, l48, l50, l52, l57, l60, l72, l79, l90, l98, l99, l100, l103, l104, l126, l200, l360, l364, l416, l999, l1000, l1024, nI_add, pk_mul, nIsub, nIdiv, nIrem, nIle, nIlt, nIeq, rd_s, wr_s, bnd_some, u2, u3, u4, u5, u6, u7, if_pos, if_neg, ne_eq, not_false_eq_true, Nat.add_sub_cancel, if_true, if_false]
      refine ⟨_, rfl, by dsimp only; congr 1, fun j => ?_⟩
      try dsimp only
      by_cases z : j = 2 + 5 * i + t
      · subst z
        rw [if_pos rfl, if_pos (by omega), e2, if_neg (by omega)]
      · rw [if_neg z, e2]
        by_cases z2 : 2 + 5 * i ≤ j ∧ j < 2 + 5 * i + t
        · rw [if_pos z2, if_pos (by omega)]
        · rw [if_neg z2, if_neg (by omega)]
    · have : t = 45 - 5 * i := by omega
      refine Or.inl ?_
      simp (disch := omega) only [l0, l1, l2, l3, l4, l5, l6, l7, l8, l9, l10, l12, l20, l24, l30, l31, l32, l40, l47, l48, l50, l52, l57, l60, l72, l79, l90, l98, l99, l100, l103, l104, l126, l200, l360, l364, l416, l999, l1000, l1024, nI_add, pk_mul, nIsub, nIdiv, nIrem, nIle, nIlt, nIeq, rd_s, wr_s, bnd_some, u2, u3, u4, u5, u6, u7, if_pos, if_neg, ne_eq, not_false_eq_true, Nat.add_sub_cancel, if_true, if_false]
      refine ⟨_, rfl, fun j => ?_⟩
      try dsimp only
      rw [e2, show 2 + 5 * i + t = 47 by omega])
  obtain ⟨x, f⟩ := r
  dsimp only at h2
  have f1 : f 1 = nI n := by rw [h2, if_neg (by omega)]; exact h.2.1
  have f0 : f 0 = nI d := by rw [h2, if_neg (by omega)]; exact h.1
  unfold f_X10_leaves
  rw [show (2 + (5 * nI i)) = nI (2 + 5 * i) from by rw [l2, l5, pk_mul, nI_add], h1, bnd_some]
  simp (disch := omega) only [l0, l1, l2, l3, l4, l5, l6, l7, l8, l9, l10, l12, l20, l24, l30, l31, l32, l40, l47, l48, l50, l52, l57, l60, l72, l79, l90, l98, l99, l100, l103, l104, l126, l200, l360, l364, l416, l999, l1000, l1024, nI_add, pk_mul, nIsub, nIdiv, nIrem, nIle, nIlt, nIeq, rd_s, wr_s, bnd_some, u2, u3, u4, u5, u6, u7, if_pos, if_neg, ne_eq, not_false_eq_true, Nat.add_sub_cancel, if_true, if_false, f1]
  refine ⟨_, rfl, ?_, ?_, fun a ha => ?_⟩
  · simp (disch := omega) only [l0, l1, l2, l3, l4, l5, l6, l7, l8, l9, l10, l12, l20, l24, l30, l31, l32, l40, l47, l48, l50, l52, l57, l60, l72, l79, l90, l98, l99, l100, l103, l104, l126, l200, l360, l364, l416, l999, l1000, l1024, nI_add, pk_mul, nIsub, nIdiv, nIrem, nIle, nIlt, nIeq, rd_s, wr_s, bnd_some, u2, u3, u4, u5, u6, u7, if_pos, if_neg, ne_eq, not_false_eq_true, Nat.add_sub_cancel, if_true, if_false, f0]
  · simp (disch := omega) only [l0, l1, l2, l3, l4, l5, l6, l7, l8, l9, l10, l12, l20, l24, l30, l31, l32, l40, l47, l48, l50, l52, l57, l60, l72, l79, l90, l98, l99, l100, l103, l104, l126, l200, l360, l364, l416, l999, l1000, l1024, nI_add, pk_mul, nIsub, nIdiv, nIrem, nIle, nIlt, nIeq, rd_s, wr_s, bnd_some, u2, u3, u4, u5, u6, u7, if_pos, if_neg, ne_eq, not_false_eq_true, Nat.add_sub_cancel, if_true, if_false]
  · unfold vDel
    by_cases q : a < i
    · obtain ⟨a0, a1, a2, a3, a4⟩ := h.2.2 a (by omega)
      rw [if_pos q]
      try dsimp only
      refine ⟨?_, ?_, ?_, ?_, ?_⟩
      · rw [if_neg (by omega), h2, if_neg (by omega), a0]
      · rw [if_neg (by omega), h2, if_neg (by omega), a1]
      · rw [if_neg (by omega), h2, if_neg (by omega), a2]
      · rw [if_neg (by omega), h2, if_neg (by omega), a3]
      · rw [if_neg (by omega), h2, if_neg (by omega), a4]
    · obtain ⟨a0, a1, a2, a3, a4⟩ := h.2.2 (a + 1) (by omega)
      rw [if_neg q]
      try dsimp only
      refine ⟨?_, ?_, ?_, ?_, ?_⟩
      · rw [if_neg (by omega), h2, if_pos (by omega), ← a0]; congr 1
      · rw [if_neg (by omega), h2, if_pos (by omega), ← a1]; congr 1
      · rw [if_neg (by omega), h2, if_pos (by omega), ← a2]; congr 1
      · rw [if_neg (by omega), h2, if_pos (by omega), ← a3]; congr 1
      · rw [if_neg (by omega), h2, if_pos (by omega), ← a4]; congr 1
/-- copies: n cells of one row to another -/
theorem M_copies_s {n1 n3 a b m : Nat} {f g : Nat → Int32} (h1 : a + m ≤ n1) (h2 : b + m ≤ n3) (hn1 : n1 < 100000) (hn3 : n3 < 100000) : ∃ f', f_X10_copies (nI a) (nI b) (nI m) n1 n3 f g = some f' ∧ ∀ j, f' j = if a ≤ j ∧ j < a + m then g (b + (j - a)) else f j := by
  obtain ⟨r, e1, e2⟩ := lp_FU (b := u2 (b_X10_copies_1 g n1 n3 (nI a) (nI b) (nI m))) (fun t s => s.1 = nI t ∧ ∀ j, s.2 j = if a ≤ j ∧ j < a + t then g (b + (j - a)) else f j) (fun r => ∀ j, r.2 j = if a ≤ j ∧ j < a + m then g (b + (j - a)) else f j) m (nI 0, f) (by omega) ⟨rfl, fun j => by rw [if_neg (by omega)]⟩ (by
    intro t s ht ⟨e1, e2⟩
    obtain ⟨x, f1⟩ := s
    dsimp only at e1 e2
    subst e1
    show (∃ r, b_X10_copies_1 g n1 n3 (nI a) (nI b) (nI m) (nI t) f1 = some (.inr r) ∧ _) ∨ (_ ∧ ∃ s', b_X10_copies_1 g n1 n3 (nI a) (nI b) (nI m) (nI t) f1 = some (.inl s') ∧ _)
    unfold b_X10_copies_1
    by_cases q : t < m
    · refine Or.inr ⟨q, ?_⟩
      simp (disch := omega) only [l0, l1, l2, l3, l4, l5, l6, l7, l8, l9, l10, l12, l20, l24, l30, l31, l32, l40, l47, l48, l50, l52, l57, l60, l72, l79, l90, l98, l99, l100, l103, l104, l126, l200, l360, l364, l416, l999, l1000, l1024, nI_add, pk_mul, nIsub, nIdiv, nIrem, nIle, nIlt, nIeq, rd_s, wr_s, bnd_some, u2, u3, u4, u5, u6, u7, if_pos, if_neg, ne_eq, not_false_eq_true, Nat.add_sub_cancel, if_true, if_false]
      refine ⟨_, rfl, rfl, fun j => ?_⟩
      try dsimp only
      by_cases z : j = a + t
      · subst z
        rw [if_pos rfl, if_pos (by omega)]
        congr 1; omega
      · rw [if_neg z, e2]
        by_cases z2 : a ≤ j ∧ j < a + t
        · rw [if_pos z2, if_pos (by omega)]
        · rw [if_neg z2, if_neg (by omega)]
    · have : t = m := by omega
      subst this
      refine Or.inl ?_
      simp (disch := omega) only [l0, l1, l2, l3, l4, l5, l6, l7, l8, l9, l10, l12, l20, l24, l30, l31, l32, l40, l47, l48, l50, l52, l57, l60, l72, l79, l90, l98, l99, l100, l103, l104, l126, l200, l360, l364, l416, l999, l1000, l1024, nI_add, pk_mul, nIsub, nIdiv, nIrem, nIle, nIlt, nIeq, rd_s, wr_s, bnd_some, u2, u3, u4, u5, u6, u7, if_pos, if_neg, ne_eq, not_false_eq_true, Nat.add_sub_cancel, if_true, if_false]
      exact ⟨_, rfl, e2⟩)
  obtain ⟨x, f1⟩ := r
  refine ⟨f1, ?_, e2⟩
  unfold f_X10_copies
  rw [l0, e1, bnd_some]
/-- a shelf copied from one place to another -/
theorem MN_of {g : Nat → Int32} {b : Nat} (h : MN (fun j => g (b + j)) n d v) {f' : Nat → Int32} {a : Nat} (hf : ∀ j, a ≤ j → j < a + 52 → f' j = g (b + (j - a))) (hn : n ≤ 10) : MN (fun j => f' (a + j)) n d v := by
  have e : ∀ j, j < 52 → f' (a + j) = g (b + j) := fun j hj => by rw [hf _ (by omega) (by omega)]; congr 1; omega
  obtain ⟨h0, h1, h2⟩ := h
  refine ⟨?_, ?_, fun i hi => ?_⟩
  · dsimp only; rw [e 0 (by omega)]; exact h0
  · dsimp only; rw [e 1 (by omega)]; exact h1
  · obtain ⟨a0, a1, a2, a3, a4⟩ := h2 i hi
    dsimp only at *
    refine ⟨?_, ?_, ?_, ?_, ?_⟩
    · rw [e _ (by omega)]; exact a0
    · rw [e _ (by omega)]; exact a1
    · rw [e _ (by omega)]; exact a2
    · rw [e _ (by omega)]; exact a3
    · rw [e _ (by omega)]; exact a4
theorem M_asItIs_s (h : MN st n d v) (hn : n ≤ 10) (nw : Nat → Int32) : ∃ nw', f_X10_asItIs st nw = some nw' ∧ MN nw' n d v := by
  obtain ⟨f', h1, h2⟩ := M_copies_s (a := 0) (b := 0) (m := 52) (n1 := 52) (n3 := 52) (f := nw) (g := st) (by omega) (by omega) (by omega) (by omega)
  refine ⟨f', ?_, ?_⟩
  · unfold f_X10_asItIs
    rw [l0, l52, h1, bnd_some]
  · have := MN_of (g := st) (b := 0) (f' := f') (a := 0) (n := n) (d := d) (v := v) (by simpa using h) (fun j _ hj => by rw [h2, if_pos (by omega)]) hn
    simpa using this
theorem M_isClog_s (h : MN st n d v) (hn : n ≤ 10) {i : Nat} (hi : i < n) : f_X10_isClog (nI i) st = some (nI 1) := by
  unfold f_X10_isClog
  simp (disch := omega) only [l0, l1, l2, l3, l4, l5, l6, l7, l8, l9, l10, l12, l20, l24, l30, l31, l32, l40, l47, l48, l50, l52, l57, l60, l72, l79, l90, l98, l99, l100, l103, l104, l126, l200, l360, l364, l416, l999, l1000, l1024, nI_add, pk_mul, nIsub, nIdiv, nIrem, nIle, nIlt, nIeq, rd_s, wr_s, bnd_some, u2, u3, u4, u5, u6, u7, if_pos, if_neg, ne_eq, not_false_eq_true, Nat.add_sub_cancel, if_true, if_false, h.2.1, M_in_s, f_X9_within]
end MM
