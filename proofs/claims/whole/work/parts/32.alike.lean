/-! alike, on both sides; the reference's picture of a shelf lies at place o of a row -/
def MC (st : Nat → Int32) (o n d : Nat) (v : Nat → Nat → Nat) : Prop := st o = nI d ∧ st (o + 1) = nI n ∧ ∀ i, i < n → ∀ w, w < 5 → st (o + (2 + 5 * i + w)) = nI (v i w)
theorem i_abs {a b : Nat} (ha : a < 1000000) (hb : b < 1000000) : (if 0 ≤ (nI a - nI b) then (nI a - nI b) else 0 - (nI a - nI b)) = nI (if a ≤ b then b - a else a - b) := by
  by_cases q : b ≤ a
  · rw [nIsub q, if_pos (nI_pos' (by omega))]
    by_cases q2 : a ≤ b
    · rw [if_pos q2]
      congr 1; omega
    · rw [if_neg q2]
  · have h : nI a - nI b < 0 := pk_sneg (by omega) (by omega)
    rw [if_neg (Int32.not_le.mpr h), if_pos (by omega), ← nIsub (by omega : a ≤ b)]
    rw [show (0 : Int32) - (nI a - nI b) = nI b - nI a from by rw [Int32.sub_eq_add_neg, Int32.neg_sub, Int32.zero_add]]
section XA
variable {c : Nat → Int32} {n d : Nat} {v : Nat → Nat → Nat}
theorem X4_areAlikeOn_s (hc : XC c n v) (hn : n ≤ 10) {i j day e : Nat} (hi : i < n) (hj : j < n) (ho : okC v i e) (hp : okC v j e) (hd : e ≤ day) (hd2 : day ≤ 2000) : f_X4_areAlikeOn (nI i) (nI j) (nI day) (nI n) c = some (nI (if sAl v i j day then 1 else 0)) := by
  have a1 := X4_isOfSide_s (z := 0) hc hn hi ho (by omega)
  have a2 := X4_isOfSide_s (z := 1) hc hn hj hp (by omega)
  have b1 := X4_sizeOn_s hc hn hi ho hd hd2
  have b2 := X4_sizeOn_s hc hn hj hp hd hd2
  have w1 := X4_weightOn_s hc hn hi ho hd hd2
  have w2 := X4_weightOn_s hc hn hj hp hd hd2
  have e1 := sSize_le v i day
  have e2 := sSize_le v j day
  have e3 := sWt_le v i day
  have e4 := sWt_le v j day
  obtain ⟨o0, o1, o2, o3, o4, o5, o6⟩ := ho
  obtain ⟨p0, p1, p2, p3, p4, p5, p6⟩ := hp
  unfold f_X4_areAlikeOn sAl
  rw [show (0 : Int32) = nI 0 from rfl, a1, bnd_some]
  by_cases q1 : v i 1 = 0
  · rw [if_pos q1, if_neg (by decide), show (1 : Int32) = nI 1 from rfl, a2, bnd_some]
    by_cases q2 : v j 1 = 1
    · rw [if_pos q2, if_neg (by decide)]
      rw [X4_cell_s hc hn hi (by omega), X4_cell_s hc hn hj (by omega), bnd_some, bnd_some, b1, b2, w1, w2]
      by_cases q3 : v i 0 = 2
      · simp (disch := omega) only [l0, l1, l2, l3, l4, l5, l6, l7, l8, l9, l10, l12, l20, l24, l30, l31, l32, l40, l47, l48, l50, l52, l57, l60, l72, l79, l90, l98, l99, l100, l103, l104, l126, l200, l360, l364, l416, l999, l1000, l1024, nI_add, pk_mul, nIsub, nIdiv, nIrem, nIle, nIlt, nIeq, rd_s, wr_s, bnd_some, u2, u3, u4, u5, u6, u7, if_pos, if_neg, ne_eq, not_false_eq_true, Nat.add_sub_cancel, if_true, if_false, q1, q2, q3, decide_false, Bool.false_eq_true, false_and, and_false, not_true_eq_false]
        try simp
      · by_cases q4 : v j 0 = 2
        · simp (disch := omega) only [l0, l1, l2, l3, l4, l5, l6, l7, l8, l9, l10, l12, l20, l24, l30, l31, l32, l40, l47, l48, l50, l52, l57, l60, l72, l79, l90, l98, l99, l100, l103, l104, l126, l200, l360, l364, l416, l999, l1000, l1024, nI_add, pk_mul, nIsub, nIdiv, nIrem, nIle, nIlt, nIeq, rd_s, wr_s, bnd_some, u2, u3, u4, u5, u6, u7, if_pos, if_neg, ne_eq, not_false_eq_true, Nat.add_sub_cancel, if_true, if_false]
          simp [q4]
        · have z3 : ¬ nI (v i 0) = 2 := by simp (disch := omega) only [l0, l1, l2, l3, l4, l5, l6, l7, l8, l9, l10, l12, l20, l24, l30, l31, l32, l40, l47, l48, l50, l52, l57, l60, l72, l79, l90, l98, l99, l100, l103, l104, l126, l200, l360, l364, l416, l999, l1000, l1024, nI_add, pk_mul, nIsub, nIdiv, nIrem, nIle, nIlt, nIeq, rd_s, wr_s, bnd_some, u2, u3, u4, u5, u6, u7, if_pos, if_neg, ne_eq, not_false_eq_true, Nat.add_sub_cancel, if_true, if_false]; exact q3
          have z4 : ¬ nI (v j 0) = 2 := by simp (disch := omega) only [l0, l1, l2, l3, l4, l5, l6, l7, l8, l9, l10, l12, l20, l24, l30, l31, l32, l40, l47, l48, l50, l52, l57, l60, l72, l79, l90, l98, l99, l100, l103, l104, l126, l200, l360, l364, l416, l999, l1000, l1024, nI_add, pk_mul, nIsub, nIdiv, nIrem, nIle, nIlt, nIeq, rd_s, wr_s, bnd_some, u2, u3, u4, u5, u6, u7, if_pos, if_neg, ne_eq, not_false_eq_true, Nat.add_sub_cancel, if_true, if_false]; exact q4
          rw [if_neg z3, if_neg z4]
          simp only [bnd_some]
          rw [show nI 0 = (0 : Int32) from rfl, i_abs (by omega) (by omega), i_abs (by omega) (by omega), show (0 : Int32) = nI 0 from rfl]
          generalize sSize v i day = x1 at *
          generalize sSize v j day = x2 at *
          generalize sWt v i day = y1 at *
          generalize sWt v j day = y2 at *
          by_cases q5 : 1 < (if x1 ≤ x2 then x2 - x1 else x1 - x2)
          · have t1 : ¬ (x1 ≤ x2 + 1 ∧ x2 ≤ x1 + 1) := by
              split at q5 <;> omega
            rw [if_pos ((nIlt (by omega) (by split <;> omega)).mpr q5)]
            rw [if_neg]
            simp only [decide_eq_true_eq]
            intro t
            exact t1 ⟨t.2.2.2.2.1, t.2.2.2.2.2.1⟩
          · have t1 : (x1 ≤ x2 + 1 ∧ x2 ≤ x1 + 1) := by
              split at q5 <;> omega
            rw [if_neg (fun z => q5 ((nIlt (by omega) (by split <;> omega)).mp z))]
            by_cases q6 : 3 < (if y1 ≤ y2 then y2 - y1 else y1 - y2)
            · have t2 : ¬ (y1 ≤ y2 + 3 ∧ y2 ≤ y1 + 3) := by
                split at q6 <;> omega
              rw [if_pos (show (3 : Int32) < _ from (nIlt (a := 3) (by omega) (by split <;> omega)).mpr q6), if_neg]
              simp only [decide_eq_true_eq]
              intro t
              exact t2 t.2.2.2.2.2.2
            · have t2 : (y1 ≤ y2 + 3 ∧ y2 ≤ y1 + 3) := by
                split at q6 <;> omega
              rw [if_neg (show ¬ (3 : Int32) < _ from fun z => q6 ((nIlt (a := 3) (by omega) (by split <;> omega)).mp z)), if_pos]
              simp only [decide_eq_true_eq]
              exact ⟨q1, q2, q3, q4, t1.1, t1.2, t2.1, t2.2⟩
    · rw [if_neg q2, if_pos (by decide), if_neg (by simp [q2])]
  · rw [if_neg q1, if_pos (by decide), if_neg (by simp [q1])]
end XA
