/-! a shelf: n clogs on day d; v i 0 .. v i 4 are kind, side, size, weight, day it came -/
def sDry (v : Nat → Nat → Nat) (i day : Nat) : Nat := if v i 0 = 1 then (if day - v i 4 < 30 then day - v i 4 else 30) else 0
def sSize (v : Nat → Nat → Nat) (i day : Nat) : Nat := v i 2 - v i 2 * sDry v i day / 360
def sWt (v : Nat → Nat → Nat) (i day : Nat) : Nat := v i 3 - v i 3 * sDry v i day / 90 + (if v i 0 = 3 then 2 else 0)
def sAl (v : Nat → Nat → Nat) (i j day : Nat) : Bool := decide (v i 1 = 0 ∧ v j 1 = 1 ∧ v i 0 ≠ 2 ∧ v j 0 ≠ 2 ∧ sSize v i day ≤ sSize v j day + 1 ∧ sSize v j day ≤ sSize v i day + 1 ∧ sWt v i day ≤ sWt v j day + 3 ∧ sWt v j day ≤ sWt v i day + 3)
def okC (v : Nat → Nat → Nat) (i d : Nat) : Prop := v i 0 ≤ 3 ∧ v i 1 ≤ 1 ∧ 12 ≤ v i 2 ∧ v i 2 ≤ 72 ∧ 1 ≤ v i 3 ∧ v i 3 ≤ 40 ∧ v i 4 ≤ d
def okS (n d : Nat) (v : Nat → Nat → Nat) : Prop := n ≤ 10 ∧ d ≤ 999 ∧ ∀ i, i < n → okC v i d
theorem sDry_le (v : Nat → Nat → Nat) (i day : Nat) : sDry v i day ≤ 30 := by
  unfold sDry; split
  · split <;> omega
  · omega
theorem sSize_le (v : Nat → Nat → Nat) (i day : Nat) : sSize v i day ≤ v i 2 := by unfold sSize; omega
theorem sSize_ge (v : Nat → Nat → Nat) (i day : Nat) : v i 2 ≤ sSize v i day + v i 2 * sDry v i day / 360 := by
  unfold sSize; omega
theorem mul30 {a b : Nat} (h : b ≤ 30) : a * b ≤ a * 30 := Nat.mul_le_mul_left a h
theorem sWt_le (v : Nat → Nat → Nat) (i day : Nat) : sWt v i day ≤ v i 3 + 2 := by
  unfold sWt; split <;> omega
/-- the class's picture of it -/
def XC (c : Nat → Int32) (n : Nat) (v : Nat → Nat → Nat) : Prop := ∀ i, i < n → ∀ w, w < 5 → c (i * 5 + w) = nI (v i w)
section XS
variable {c : Nat → Int32} {n d : Nat} {v : Nat → Nat → Nat}
theorem X4_cell_s (hc : XC c n v) (hn : n ≤ 10) {i w : Nat} (hi : i < n) (hw : w < 5) : f_X4_cell (nI i) (nI w) (nI n) c = some (nI (v i w)) := by
  unfold f_X4_cell
  simp (disch := omega) only [l0, l1, l2, l3, l4, l5, l6, l7, l8, l9, l10, l12, l20, l24, l30, l31, l32, l40, l47, l48, l50, l52, l57, l60, l72, l79, l90, l98, l99, l100, l103, l104, l126, l200, l360, l364, l416, l999, l1000, l1024, nI_add, pk_mul, nIsub, nIdiv, nIrem, nIle, nIlt, nIeq, rd_s, wr_s, bnd_some, u2, u3, u4, u5, u6, u7, if_pos, if_neg, ne_eq, not_false_eq_true, Nat.add_sub_cancel, if_true, if_false]
  rw [hc i hi w hw]
theorem X4_driedBy_s (hc : XC c n v) (hn : n ≤ 10) {i day e : Nat} (hi : i < n) (ho : okC v i e) (hd : e ≤ day) (hd2 : day ≤ 2000) : f_X4_driedBy (nI i) (nI day) (nI n) c = some (nI (sDry v i day)) := by
  obtain ⟨o0, o1, o2, o3, o4, o5, o6⟩ := ho
  unfold f_X4_driedBy sDry
  by_cases q : v i 0 = 1
  · by_cases q2 : 0 < day - v i 4 <;> by_cases q3 : day - v i 4 < 30 <;> (simp (disch := omega) only [l0, l1, l2, l3, l4, l5, l6, l7, l8, l9, l10, l12, l20, l24, l30, l31, l32, l40, l47, l48, l50, l52, l57, l60, l72, l79, l90, l98, l99, l100, l103, l104, l126, l200, l360, l364, l416, l999, l1000, l1024, nI_add, pk_mul, nIsub, nIdiv, nIrem, nIle, nIlt, nIeq, rd_s, wr_s, bnd_some, u2, u3, u4, u5, u6, u7, if_pos, if_neg, ne_eq, not_false_eq_true, Nat.add_sub_cancel, if_true, if_false, X4_cell_s hc hn hi]; try omega)
    congr 2; omega
  · simp (disch := omega) only [l0, l1, l2, l3, l4, l5, l6, l7, l8, l9, l10, l12, l20, l24, l30, l31, l32, l40, l47, l48, l50, l52, l57, l60, l72, l79, l90, l98, l99, l100, l103, l104, l126, l200, l360, l364, l416, l999, l1000, l1024, nI_add, pk_mul, nIsub, nIdiv, nIrem, nIle, nIlt, nIeq, rd_s, wr_s, bnd_some, u2, u3, u4, u5, u6, u7, if_pos, if_neg, ne_eq, not_false_eq_true, Nat.add_sub_cancel, if_true, if_false, X4_cell_s hc hn hi]
theorem X4_sizeOn_s (hc : XC c n v) (hn : n ≤ 10) {i day e : Nat} (hi : i < n) (ho : okC v i e) (hd : e ≤ day) (hd2 : day ≤ 2000) : f_X4_sizeOn (nI i) (nI day) (nI n) c = some (nI (sSize v i day)) := by
  have h1 := X4_driedBy_s hc hn hi ho hd hd2
  obtain ⟨o0, o1, o2, o3, o4, o5, o6⟩ := ho
  have h2 := sDry_le v i day
  have h3 : v i 2 * sDry v i day ≤ v i 2 * 30 := mul30 h2
  unfold f_X4_sizeOn sSize
  generalize sDry v i day = z at h1 h2 h3 ⊢
  generalize hm : v i 2 * z = mz at h3 ⊢
  simp (disch := omega) only [l0, l1, l2, l3, l4, l5, l6, l7, l8, l9, l10, l12, l20, l24, l30, l31, l32, l40, l47, l48, l50, l52, l57, l60, l72, l79, l90, l98, l99, l100, l103, l104, l126, l200, l360, l364, l416, l999, l1000, l1024, nI_add, pk_mul, nIsub, nIdiv, nIrem, nIle, nIlt, nIeq, rd_s, wr_s, bnd_some, u2, u3, u4, u5, u6, u7, if_pos, if_neg, ne_eq, not_false_eq_true, Nat.add_sub_cancel, if_true, if_false, X4_cell_s hc hn hi, h1, hm]
theorem X4_weightOn_s (hc : XC c n v) (hn : n ≤ 10) {i day e : Nat} (hi : i < n) (ho : okC v i e) (hd : e ≤ day) (hd2 : day ≤ 2000) : f_X4_weightOn (nI i) (nI day) (nI n) c = some (nI (sWt v i day)) := by
  have h1 := X4_driedBy_s hc hn hi ho hd hd2
  obtain ⟨o0, o1, o2, o3, o4, o5, o6⟩ := ho
  have h2 := sDry_le v i day
  have h3 : v i 3 * sDry v i day ≤ v i 3 * 30 := mul30 h2
  unfold f_X4_weightOn sWt
  generalize sDry v i day = z at h1 h2 h3 ⊢
  generalize hm : v i 3 * z = mz at h3 ⊢
  by_cases q : v i 0 = 3
  · simp (disch := omega) only [l0, l1, l2, l3, l4, l5, l6, l7, l8, l9, l10, l12, l20, l24, l30, l31, l32, l40, l47, l48, l50, l52, l57, l60, l72, l79, l90, l98, l99, l100, l103, l104, l126, l200, l360, l364, l416, l999, l1000, l1024, nI_add, pk_mul, nIsub, nIdiv, nIrem, nIle, nIlt, nIeq, rd_s, wr_s, bnd_some, u2, u3, u4, u5, u6, u7, if_pos, if_neg, ne_eq, not_false_eq_true, Nat.add_sub_cancel, if_true, if_false, X4_cell_s hc hn hi, h1, hm]
  · simp (disch := omega) only [l0, l1, l2, l3, l4, l5, l6, l7, l8, l9, l10, l12, l20, l24, l30, l31, l32, l40, l47, l48, l50, l52, l57, l60, l72, l79, l90, l98, l99, l100, l103, l104, l126, l200, l360, l364, l416, l999, l1000, l1024, nI_add, pk_mul, nIsub, nIdiv, nIrem, nIle, nIlt, nIeq, rd_s, wr_s, bnd_some, u2, u3, u4, u5, u6, u7, if_pos, if_neg, ne_eq, not_false_eq_true, Nat.add_sub_cancel, if_true, if_false, X4_cell_s hc hn hi, h1, hm]
theorem X4_holds_s {i : Nat} (hn : n ≤ 10) (hi : i < n) : f_X4_holds (nI i) (nI n) = some (nI 1) := by
  unfold f_X4_holds f_X9_within
  simp (disch := omega) only [l0, l1, l2, l3, l4, l5, l6, l7, l8, l9, l10, l12, l20, l24, l30, l31, l32, l40, l47, l48, l50, l52, l57, l60, l72, l79, l90, l98, l99, l100, l103, l104, l126, l200, l360, l364, l416, l999, l1000, l1024, nI_add, pk_mul, nIsub, nIdiv, nIrem, nIle, nIlt, nIeq, rd_s, wr_s, bnd_some, u2, u3, u4, u5, u6, u7, if_pos, if_neg, ne_eq, not_false_eq_true, Nat.add_sub_cancel, if_true, if_false]
theorem X4_isOfSide_s (hc : XC c n v) (hn : n ≤ 10) {i z e : Nat} (hi : i < n) (ho : okC v i e) (hz : z < 100) : f_X4_isOfSide (nI i) (nI z) (nI n) c = some (nI (if v i 1 = z then 1 else 0)) := by
  obtain ⟨o0, o1, o2, o3, o4, o5, o6⟩ := ho
  unfold f_X4_isOfSide
  by_cases q : v i 1 = z
  · simp (disch := omega) only [l0, l1, l2, l3, l4, l5, l6, l7, l8, l9, l10, l12, l20, l24, l30, l31, l32, l40, l47, l48, l50, l52, l57, l60, l72, l79, l90, l98, l99, l100, l103, l104, l126, l200, l360, l364, l416, l999, l1000, l1024, nI_add, pk_mul, nIsub, nIdiv, nIrem, nIle, nIlt, nIeq, rd_s, wr_s, bnd_some, u2, u3, u4, u5, u6, u7, if_pos, if_neg, ne_eq, not_false_eq_true, Nat.add_sub_cancel, if_true, if_false, X4_cell_s hc hn hi, X4_holds_s hn hi]
  · simp (disch := omega) only [l0, l1, l2, l3, l4, l5, l6, l7, l8, l9, l10, l12, l20, l24, l30, l31, l32, l40, l47, l48, l50, l52, l57, l60, l72, l79, l90, l98, l99, l100, l103, l104, l126, l200, l360, l364, l416, l999, l1000, l1024, nI_add, pk_mul, nIsub, nIdiv, nIrem, nIle, nIlt, nIeq, rd_s, wr_s, bnd_some, u2, u3, u4, u5, u6, u7, if_pos, if_neg, ne_eq, not_false_eq_true, Nat.add_sub_cancel, if_true, if_false, X4_cell_s hc hn hi, X4_holds_s hn hi]
end XS
