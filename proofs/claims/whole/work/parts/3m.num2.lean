/-! reading a text: the numbers of an item -/
section NU
variable {T : Nat} {L : Nat → Nat} {tl ml : Nat → Int32}
def fig (T : Nat) (L : Nat → Nat) (j : Nat) : Bool := decide (j < T ∧ 48 ≤ L j ∧ L j ≤ 57)
def nVal (T : Nat) (L : Nat → Nat) (p : Nat) : Nat := if fig T L (p + 1) then (L p - 48) * 10 + (L (p + 1) - 48) else L p - 48
def nEnd (T : Nat) (L : Nat → Nat) (p : Nat) : Nat := if fig T L (p + 1) then p + 2 else p + 1
def sepI (T : Nat) (L : Nat → Nat) (p : Nat) : Nat := if nEnd T L p < T then L (nEnd T L p) else 0
def plc (T : Nat) (L : Nat → Nat) (a : Nat) : Nat → Nat
  | 0 => a
  | i + 1 => nEnd T L (plc T L a i) + 1
def okN (T : Nat) (L : Nat → Nat) (a i : Nat) : Prop := fig T L (plc T L a i) = true ∧ sepI T L (plc T L a i) = 44
def enN (T : Nat) (L : Nat → Nat) (a i : Nat) : Prop := fig T L (plc T L a i) = true ∧ sepI T L (plc T L a i) = 59
def TX (T : Nat) (L : Nat → Nat) (tl ml : Nat → Int32) : Prop := T ≤ 200 ∧ ∀ j, j < T → 32 ≤ L j ∧ L j ≤ 126 ∧ tl j = nI (L j) ∧ ml j = nI (L j)
theorem fig_lt {p : Nat} (h : fig T L p = true) : p < T ∧ 48 ≤ L p ∧ L p ≤ 57 := of_decide_eq_true h
theorem X5_letter_s (h : TX T L tl ml) {j : Nat} (hj : j < 100000) : f_X5_letterAt (nI j) (nI T) tl = some (nI (if j < T then L j else 0)) := by
  have hT := h.1
  unfold f_X5_letterAt
  rw [if_neg (nI_pos (by omega))]
  by_cases q : j < T
  · rw [if_neg (nI_ge q (by omega)), if_pos (show nI j < (200 : Int32) from nI_lt (b := 200) (by omega) (by omega)), rd_s (by omega) (by omega), bnd_some, (h.2 j q).2.2.1, if_pos q]
  · rw [if_pos (nI_le (by omega) (by omega)), if_neg q]
    rfl
theorem M_letter_s (h : TX T L tl ml) {j : Nat} (hj : j < 100000) : f_X10_letterAt (nI j) (nI T) ml = some (if j < T then nI (L j) else -1) := by
  have hT := h.1
  unfold f_X10_letterAt
  by_cases q : j < T
  · rw [if_neg (nI_ge q (by omega)), rd_s (by omega) (by omega), bnd_some, (h.2 j q).2.2.2, if_pos q]
  · rw [if_pos (nI_le (by omega) (by omega)), if_neg q]
theorem X5_figure_s (h : TX T L tl ml) {j : Nat} (hj : j < 100000) : f_X5_figureAt (nI j) (nI T) tl = some (if fig T L j then nI (L j - 48) else -1) := by
  unfold f_X5_figureAt
  rw [X5_letter_s h hj, bnd_some]
  by_cases q : j < T
  · have hl := h.2 j q
    rw [if_pos q]
    by_cases q1 : L j < 48
    · rw [if_pos (show nI (L j) < (48 : Int32) from nI_lt (b := 48) q1 (by omega)), if_neg]
      unfold fig
      simp
      omega
    · rw [if_neg (show ¬ nI (L j) < (48 : Int32) from nI_nlt (b := 48) (by omega) (by omega))]
      by_cases q2 : 57 < L j
      · rw [if_pos (show (57 : Int32) < nI (L j) from nI_lt (a := 57) q2 (by omega)), if_neg]
        unfold fig
        simp
        omega
      · rw [if_neg (show ¬ (57 : Int32) < nI (L j) from nI_nlt (a := 57) (by omega) (by omega)), if_pos]
        · rw [show nI (L j) - 48 = nI (L j - 48) from nIsub (b := 48) (by omega)]
        · unfold fig
          simp
          omega
  · rw [if_neg q, if_pos (show nI 0 < (48 : Int32) by decide), if_neg]
    unfold fig
    simp
    omega
theorem M_figure_s (h : TX T L tl ml) {j : Nat} : f_X10_isFigure (if j < T then nI (L j) else -1) = some (nI (if fig T L j then 1 else 0)) := by
  unfold f_X10_isFigure
  rw [M_in_s]
  by_cases q : j < T
  · have hl := h.2 j q
    rw [if_pos q, show f_X9_within (nI (L j)) 48 57 = _ from within_s (a := 48) (b := 57) (by omega) (by omega) (by omega), bnd_some]
    unfold fig
    simp only [q, true_and, decide_eq_true_eq]
  · rw [if_neg q, show f_X9_within (-1) 48 57 = some (nI 0) by decide, bnd_some, if_neg]
    unfold fig
    simp
    omega
theorem nEnd_le (p : Nat) : p + 1 ≤ nEnd T L p ∧ nEnd T L p ≤ p + 2 := by
  unfold nEnd
  split <;> omega
theorem plc_le (a : Nat) : ∀ i, a + 2 * i ≤ plc T L a i ∧ plc T L a i ≤ a + 3 * i
  | 0 => ⟨Nat.le_refl _, Nat.le_refl _⟩
  | i + 1 => by
    have h1 := plc_le a i
    have h2 := nEnd_le (T := T) (L := L) (plc T L a i)
    unfold plc
    omega
theorem nVal_lt {p : Nat} (h : fig T L p = true) : nVal T L p < 100 := by
  have h1 := fig_lt h
  unfold nVal
  by_cases q : fig T L (p + 1) = true
  · have h2 := fig_lt q
    rw [if_pos q]
    omega
  · rw [if_neg q]
    omega
/-- one number on the class's side -/
theorem X3_step (h : TX T L tl ml) {p i : Nat} (hp : p < 1000) (hi : i < 4) (w3 : Int32) (w : Nat → Int32) : b_X3_readNumbers_1 (nI T) tl (nI p) (nI i) w3 w = if fig T L p = true then (if sepI T L p = 59 then some (.inr (.inr (nI (nEnd T L p + 1), (fun k => if k = i then nI (nVal T L p) else w k), nI (i + 1)))) else if sepI T L p = 44 then some (.inl (nI (nEnd T L p + 1), nI (i + 1), nI (i + 1), fun k => if k = i then nI (nVal T L p) else w k)) else some (.inr (.inr (-1, (fun k => if k = i then nI (nVal T L p) else w k), nI (i + 1))))) else some (.inr (.inr (-1, w, w3))) := by
  have hs : sepI T L p ≤ 126 := by
    unfold sepI
    split
    · rename_i hh
      exact (h.2 _ hh).2.1
    · omega
  unfold b_X3_readNumbers_1
  rw [if_neg (show ¬ (4 : Int32) ≤ nI i from nI_ge (b := 4) hi (by omega)), X5_figure_s h (by omega), bnd_some, show nI p + 1 = nI (p + 1) from nI_add p 1, show nI (p + 1) + 1 = nI (p + 2) from nI_add (p + 1) 1, show nI (p + 2) + 1 = nI (p + 3) from nI_add (p + 2) 1, show nI i + 1 = nI (i + 1) from nI_add i 1]
  by_cases q : fig T L p = true
  · have f1 := fig_lt q
    rw [if_pos q, if_pos q, if_pos (show (0 : Int32) ≤ nI (L p - 48) from nI_le (a := 0) (by omega) (by omega)), X5_figure_s h (by omega), bnd_some]
    by_cases q2 : fig T L (p + 1) = true
    · have f2 := fig_lt q2
      have eV : nVal T L p = (L p - 48) * 10 + (L (p + 1) - 48) := by unfold nVal; rw [if_pos q2]
      have eE : nEnd T L p = p + 2 := by unfold nEnd; rw [if_pos q2]
      have eS : sepI T L p = if p + 2 < T then L (p + 2) else 0 := by unfold sepI; rw [eE]
      rw [if_pos q2, if_neg (nI_pos (show L (p + 1) - 48 < 2147483648 by omega)), show nI (L p - 48) * 10 = nI ((L p - 48) * 10) from pk_mul _ 10, nI_add, X9_put_s (show i < 4 by omega) (by omega), bnd_some, X5_letter_s h (by omega), bnd_some, ← eS, ← eV, eE]
      by_cases c1 : sepI T L p = 59
      · rw [if_pos c1, c1, if_pos (show nI 59 = (59 : Int32) from rfl)]
      · rw [if_neg c1, if_neg (show ¬ nI (sepI T L p) = (59 : Int32) from fun e => c1 (nI_inj (b := 59) (by omega) (by omega) e))]
        by_cases c2 : sepI T L p = 44
        · rw [if_pos c2, c2, if_pos (show nI 44 = (44 : Int32) from rfl)]
        · rw [if_neg c2, if_neg (show ¬ nI (sepI T L p) = (44 : Int32) from fun e => c2 (nI_inj (b := 44) (by omega) (by omega) e))]
    · have eV : nVal T L p = L p - 48 := by unfold nVal; rw [if_neg q2]
      have eE : nEnd T L p = p + 1 := by unfold nEnd; rw [if_neg q2]
      have eS : sepI T L p = if p + 1 < T then L (p + 1) else 0 := by unfold sepI; rw [eE]
      rw [if_neg q2, if_pos (show (-1 : Int32) < 0 by decide), X9_put_s (show i < 4 by omega) (by omega), bnd_some, X5_letter_s h (by omega), bnd_some, ← eS, ← eV, eE]
      by_cases c1 : sepI T L p = 59
      · rw [if_pos c1, c1, if_pos (show nI 59 = (59 : Int32) from rfl)]
      · rw [if_neg c1, if_neg (show ¬ nI (sepI T L p) = (59 : Int32) from fun e => c1 (nI_inj (b := 59) (by omega) (by omega) e))]
        by_cases c2 : sepI T L p = 44
        · rw [if_pos c2, c2, if_pos (show nI 44 = (44 : Int32) from rfl)]
        · rw [if_neg c2, if_neg (show ¬ nI (sepI T L p) = (44 : Int32) from fun e => c2 (nI_inj (b := 44) (by omega) (by omega) e))]
  · rw [if_neg q, if_neg q, if_neg (show ¬ (0 : Int32) ≤ -1 by decide)]
end NU
