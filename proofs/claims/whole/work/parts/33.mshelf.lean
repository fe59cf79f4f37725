/-! the reference's shelf, laid open -/
def MN (st : Nat → Int32) (n d : Nat) (v : Nat → Nat → Nat) : Prop := st 0 = nI d ∧ st 1 = nI n ∧ ∀ i, i < n → st (2 + 5 * i) = nI (v i 0) ∧ st (2 + 5 * i + 1) = nI (v i 1) ∧ st (2 + 5 * i + 2) = nI (v i 2) ∧ st (2 + 5 * i + 3) = nI (v i 3) ∧ st (2 + 5 * i + 4) = nI (v i 4)
theorem M_in_s (x y z : Int32) : f_X10_in x y z = f_X9_within x y z := by
  unfold f_X10_in f_X9_within
  by_cases q1 : x < y
  · simp only [q1, if_true, if_pos, if_false]
    try rfl
  · by_cases q2 : z < x
    · simp only [q1, q2, if_true, if_false]
      try rfl
    · simp only [q1, q2, if_true, if_false]
      try rfl
theorem M_apart_s {a b : Nat} (ha : a < 1000000) (hb : b < 1000000) : f_X10_apart (nI a) (nI b) = some (nI (if a < b then b - a else a - b)) := by
  unfold f_X10_apart
  by_cases q : a < b
  · simp (disch := omega) only [l0, l1, l2, l3, l4, l5, l6, l7, l8, l9, l10, l12, l20, l24, l30, l31, l32, l40, l47, l48, l50, l52, l57, l60, l72, l79, l90, l98, l99, l100, l103, l104, l126, l200, l360, l364, l416, l999, l1000, l1024, nI_add, pk_mul, nIsub, nIdiv, nIrem, nIle, nIlt, nIeq, rd_s, wr_s, bnd_some, u2, u3, u4, u5, u6, u7, if_pos, if_neg, ne_eq, not_false_eq_true, Nat.add_sub_cancel, if_true, if_false]
  · simp (disch := omega) only [l0, l1, l2, l3, l4, l5, l6, l7, l8, l9, l10, l12, l20, l24, l30, l31, l32, l40, l47, l48, l50, l52, l57, l60, l72, l79, l90, l98, l99, l100, l103, l104, l126, l200, l360, l364, l416, l999, l1000, l1024, nI_add, pk_mul, nIsub, nIdiv, nIrem, nIle, nIlt, nIeq, rd_s, wr_s, bnd_some, u2, u3, u4, u5, u6, u7, if_pos, if_neg, ne_eq, not_false_eq_true, Nat.add_sub_cancel, if_true, if_false]
section MS
variable {st : Nat → Int32} {n d : Nat} {v : Nat → Nat → Nat}
theorem M_kindOf_s (h : MN st n d v) (hn : n ≤ 10) {i : Nat} (hi : i < n) : f_X10_kindOf (nI i) st = some (nI (v i 0)) := by
  unfold f_X10_kindOf
  simp (disch := omega) only [l0, l1, l2, l3, l4, l5, l6, l7, l8, l9, l10, l12, l20, l24, l30, l31, l32, l40, l47, l48, l50, l52, l57, l60, l72, l79, l90, l98, l99, l100, l103, l104, l126, l200, l360, l364, l416, l999, l1000, l1024, nI_add, pk_mul, nIsub, nIdiv, nIrem, nIle, nIlt, nIeq, rd_s, wr_s, bnd_some, u2, u3, u4, u5, u6, u7, if_pos, if_neg, ne_eq, not_false_eq_true, Nat.add_sub_cancel, if_true, if_false]
  rw [(h.2.2 i hi).1]
theorem M_sideOf_s (h : MN st n d v) (hn : n ≤ 10) {i : Nat} (hi : i < n) : f_X10_sideOf (nI i) st = some (nI (v i 1)) := by
  unfold f_X10_sideOf
  simp (disch := omega) only [l0, l1, l2, l3, l4, l5, l6, l7, l8, l9, l10, l12, l20, l24, l30, l31, l32, l40, l47, l48, l50, l52, l57, l60, l72, l79, l90, l98, l99, l100, l103, l104, l126, l200, l360, l364, l416, l999, l1000, l1024, nI_add, pk_mul, nIsub, nIdiv, nIrem, nIle, nIlt, nIeq, rd_s, wr_s, bnd_some, u2, u3, u4, u5, u6, u7, if_pos, if_neg, ne_eq, not_false_eq_true, Nat.add_sub_cancel, if_true, if_false]
  rw [(h.2.2 i hi).2.1]
theorem M_driedFor_s (h : MN st n d v) (hn : n ≤ 10) {i : Nat} (hi : i < n) (ho : okC v i d) (hd : d ≤ 2000) : f_X10_driedFor (nI i) st = some (nI (if d - v i 4 < 30 then d - v i 4 else 30)) := by
  obtain ⟨o0, o1, o2, o3, o4, o5, o6⟩ := ho
  have h4 := (h.2.2 i hi).2.2.2.2
  unfold f_X10_driedFor
  by_cases q : d - v i 4 < 30
  · simp (disch := omega) only [l0, l1, l2, l3, l4, l5, l6, l7, l8, l9, l10, l12, l20, l24, l30, l31, l32, l40, l47, l48, l50, l52, l57, l60, l72, l79, l90, l98, l99, l100, l103, l104, l126, l200, l360, l364, l416, l999, l1000, l1024, nI_add, pk_mul, nIsub, nIdiv, nIrem, nIle, nIlt, nIeq, rd_s, wr_s, bnd_some, u2, u3, u4, u5, u6, u7, if_pos, if_neg, ne_eq, not_false_eq_true, Nat.add_sub_cancel, if_true, if_false, h.1, h4]
  · simp (disch := omega) only [l0, l1, l2, l3, l4, l5, l6, l7, l8, l9, l10, l12, l20, l24, l30, l31, l32, l40, l47, l48, l50, l52, l57, l60, l72, l79, l90, l98, l99, l100, l103, l104, l126, l200, l360, l364, l416, l999, l1000, l1024, nI_add, pk_mul, nIsub, nIdiv, nIrem, nIle, nIlt, nIeq, rd_s, wr_s, bnd_some, u2, u3, u4, u5, u6, u7, if_pos, if_neg, ne_eq, not_false_eq_true, Nat.add_sub_cancel, if_true, if_false, h.1, h4]
theorem M_sizeOf_s (h : MN st n d v) (hn : n ≤ 10) {i : Nat} (hi : i < n) (ho : okC v i d) (hd : d ≤ 2000) : f_X10_sizeOf (nI i) st = some (nI (sSize v i d)) := by
  have h1 := M_driedFor_s h hn hi ho hd
  obtain ⟨o0, o1, o2, o3, o4, o5, o6⟩ := ho
  have h2 := sDry_le v i d
  have h3 : v i 2 * sDry v i d ≤ v i 2 * 30 := mul30 h2
  have hz := (h.2.2 i hi).2.2.1
  unfold f_X10_sizeOf sSize
  by_cases q : v i 0 = 1
  · have e : sDry v i d = (if d - v i 4 < 30 then d - v i 4 else 30) := by unfold sDry; rw [if_pos q]
    rw [← e] at h1
    generalize sDry v i d = z at h1 h2 h3 ⊢
    generalize hm : v i 2 * z = mz at h3 ⊢
    simp (disch := omega) only [l0, l1, l2, l3, l4, l5, l6, l7, l8, l9, l10, l12, l20, l24, l30, l31, l32, l40, l47, l48, l50, l52, l57, l60, l72, l79, l90, l98, l99, l100, l103, l104, l126, l200, l360, l364, l416, l999, l1000, l1024, nI_add, pk_mul, nIsub, nIdiv, nIrem, nIle, nIlt, nIeq, rd_s, wr_s, bnd_some, u2, u3, u4, u5, u6, u7, if_pos, if_neg, ne_eq, not_false_eq_true, Nat.add_sub_cancel, if_true, if_false, hz, h1, hm, M_kindOf_s h hn hi]
  · have e : sDry v i d = 0 := by unfold sDry; rw [if_neg q]
    rw [e]
    simp (disch := omega) only [l0, l1, l2, l3, l4, l5, l6, l7, l8, l9, l10, l12, l20, l24, l30, l31, l32, l40, l47, l48, l50, l52, l57, l60, l72, l79, l90, l98, l99, l100, l103, l104, l126, l200, l360, l364, l416, l999, l1000, l1024, nI_add, pk_mul, nIsub, nIdiv, nIrem, nIle, nIlt, nIeq, rd_s, wr_s, bnd_some, u2, u3, u4, u5, u6, u7, if_pos, if_neg, ne_eq, not_false_eq_true, Nat.add_sub_cancel, if_true, if_false, hz, M_kindOf_s h hn hi, Nat.mul_zero, Nat.zero_div, Nat.sub_zero]
theorem M_weightOf_s (h : MN st n d v) (hn : n ≤ 10) {i : Nat} (hi : i < n) (ho : okC v i d) (hd : d ≤ 2000) : f_X10_weightOf (nI i) st = some (nI (sWt v i d)) := by
  have h1 := M_driedFor_s h hn hi ho hd
  obtain ⟨o0, o1, o2, o3, o4, o5, o6⟩ := ho
  have h2 := sDry_le v i d
  have h3 : v i 3 * sDry v i d ≤ v i 3 * 30 := mul30 h2
  have hz := (h.2.2 i hi).2.2.2.1
  unfold f_X10_weightOf sWt
  by_cases q : v i 0 = 1
  · have e : sDry v i d = (if d - v i 4 < 30 then d - v i 4 else 30) := by unfold sDry; rw [if_pos q]
    rw [← e] at h1
    generalize sDry v i d = z at h1 h2 h3 ⊢
    generalize hm : v i 3 * z = mz at h3 ⊢
    simp (disch := omega) only [l0, l1, l2, l3, l4, l5, l6, l7, l8, l9, l10, l12, l20, l24, l30, l31, l32, l40, l47, l48, l50, l52, l57, l60, l72, l79, l90, l98, l99, l100, l103, l104, l126, l200, l360, l364, l416, l999, l1000, l1024, nI_add, pk_mul, nIsub, nIdiv, nIrem, nIle, nIlt, nIeq, rd_s, wr_s, bnd_some, u2, u3, u4, u5, u6, u7, if_pos, if_neg, ne_eq, not_false_eq_true, Nat.add_sub_cancel, if_true, if_false, hz, h1, hm, M_kindOf_s h hn hi, q]
    try rfl
  · have e : sDry v i d = 0 := by unfold sDry; rw [if_neg q]
    rw [e]
    by_cases q2 : v i 0 = 3
    · simp (disch := omega) only [l0, l1, l2, l3, l4, l5, l6, l7, l8, l9, l10, l12, l20, l24, l30, l31, l32, l40, l47, l48, l50, l52, l57, l60, l72, l79, l90, l98, l99, l100, l103, l104, l126, l200, l360, l364, l416, l999, l1000, l1024, nI_add, pk_mul, nIsub, nIdiv, nIrem, nIle, nIlt, nIeq, rd_s, wr_s, bnd_some, u2, u3, u4, u5, u6, u7, if_pos, if_neg, ne_eq, not_false_eq_true, Nat.add_sub_cancel, if_true, if_false, hz, M_kindOf_s h hn hi, Nat.mul_zero, Nat.zero_div, Nat.sub_zero]
    · simp (disch := omega) only [l0, l1, l2, l3, l4, l5, l6, l7, l8, l9, l10, l12, l20, l24, l30, l31, l32, l40, l47, l48, l50, l52, l57, l60, l72, l79, l90, l98, l99, l100, l103, l104, l126, l200, l360, l364, l416, l999, l1000, l1024, nI_add, pk_mul, nIsub, nIdiv, nIrem, nIle, nIlt, nIeq, rd_s, wr_s, bnd_some, u2, u3, u4, u5, u6, u7, if_pos, if_neg, ne_eq, not_false_eq_true, Nat.add_sub_cancel, if_true, if_false, hz, M_kindOf_s h hn hi, Nat.mul_zero, Nat.zero_div, Nat.sub_zero]
      try rfl
theorem M_areAlike_s (h : MN st n d v) (hn : n ≤ 10) {i j : Nat} (hi : i < n) (hj : j < n) (ho : okC v i d) (hp : okC v j d) (hd : d ≤ 2000) : f_X10_areAlike (nI i) (nI j) st = some (nI (if sAl v i j d || sAl v j i d then 1 else 0)) := by
  have a1 := M_sideOf_s h hn hi
  have a2 := M_sideOf_s h hn hj
  have k1 := M_kindOf_s h hn hi
  have k2 := M_kindOf_s h hn hj
  have b1 := M_sizeOf_s h hn hi ho hd
  have b2 := M_sizeOf_s h hn hj hp hd
  have w1 := M_weightOf_s h hn hi ho hd
  have w2 := M_weightOf_s h hn hj hp hd
  have e1 := sSize_le v i d
  have e2 := sSize_le v j d
  have e3 := sWt_le v i d
  have e4 := sWt_le v j d
  obtain ⟨o0, o1, o2, o3, o4, o5, o6⟩ := ho
  obtain ⟨p0, p1, p2, p3, p4, p5, p6⟩ := hp
  unfold f_X10_areAlike sAl
  rw [a1, a2, k1, k2, b1, b2, w1, w2]
  simp only [bnd_some]
  rw [M_apart_s (by omega) (by omega), M_apart_s (by omega) (by omega)]
  simp only [bnd_some]
  generalize sSize v i d = x1 at *
  generalize sSize v j d = x2 at *
  generalize sWt v i d = y1 at *
  generalize sWt v j d = y2 at *
  generalize v i 0 = ki at *
  generalize v j 0 = kj at *
  generalize v i 1 = si at *
  generalize v j 1 = sj at *
  clear a1 a2 k1 k2 b1 b2 w1 w2
  by_cases q1 : si = sj
  · rw [if_pos (by rw [q1]), if_neg]
    · rfl
    · simp only [Bool.or_eq_true, decide_eq_true_eq]
      intro t
      rcases t with t | t <;> omega
  · rw [if_neg (fun z => q1 (nI_inj (by omega) (by omega) z))]
    by_cases q3 : ki = 2
    · rw [if_pos (by rw [q3]; rfl), if_neg]
      · rfl
      · simp only [Bool.or_eq_true, decide_eq_true_eq]
        intro t
        rcases t with t | t <;> omega
    · rw [if_neg (show ¬ nI ki = 2 from fun z => q3 (nI_inj (b := 2) (by omega) (by omega) z))]
      by_cases q4 : kj = 2
      · rw [if_pos (by rw [q4]; rfl), if_neg]
        · rfl
        · simp only [Bool.or_eq_true, decide_eq_true_eq]
          intro t
          rcases t with t | t <;> omega
      · rw [if_neg (show ¬ nI kj = 2 from fun z => q4 (nI_inj (b := 2) (by omega) (by omega) z))]
        by_cases q5 : 2 ≤ (if x1 < x2 then x2 - x1 else x1 - x2)
        · rw [if_pos (show (2 : Int32) ≤ _ from (nIle (a := 2) (by omega) (by split <;> omega)).mpr q5), if_neg]
          · rfl
          · simp only [Bool.or_eq_true, decide_eq_true_eq]
            intro t
            split at q5 <;> rcases t with t | t <;> omega
        · rw [if_neg (show ¬ (2 : Int32) ≤ _ from fun z => q5 ((nIle (a := 2) (by omega) (by split <;> omega)).mp z))]
          by_cases q6 : 4 ≤ (if y1 < y2 then y2 - y1 else y1 - y2)
          · rw [if_pos (show (4 : Int32) ≤ _ from (nIle (a := 4) (by omega) (by split <;> omega)).mpr q6), if_neg]
            · rfl
            · simp only [Bool.or_eq_true, decide_eq_true_eq]
              intro t
              split at q6 <;> rcases t with t | t <;> omega
          · rw [if_neg (show ¬ (4 : Int32) ≤ _ from fun z => q6 ((nIle (a := 4) (by omega) (by split <;> omega)).mp z)), if_pos]
            · rfl
            · simp only [Bool.or_eq_true, decide_eq_true_eq]
              have h5 : x1 ≤ x2 + 1 ∧ x2 ≤ x1 + 1 := by split at q5 <;> omega
              have h6 : y1 ≤ y2 + 3 ∧ y2 ≤ y1 + 3 := by split at q6 <;> omega
              omega
end MS
