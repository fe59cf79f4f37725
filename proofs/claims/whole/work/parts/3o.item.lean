/-! reading a text: one item of each kind on both sides -/
theorem at4_0 (w : Nat → Int32) : f_X9_at 0 4 w = some (w 0) := X9_at_s (k := 0) (by omega) (by omega)
theorem at4_1 (w : Nat → Int32) : f_X9_at 1 4 w = some (w 1) := X9_at_s (k := 1) (by omega) (by omega)
theorem at4_2 (w : Nat → Int32) : f_X9_at 2 4 w = some (w 2) := X9_at_s (k := 2) (by omega) (by omega)
theorem at4_3 (w : Nat → Int32) : f_X9_at 3 4 w = some (w 3) := X9_at_s (k := 3) (by omega) (by omega)
theorem rd4_2 (w : Nat → Int32) : rd 4 w 2 = some (w 2) := rd_s (k := 2) (by omega) (by omega)
theorem rd4_3 (w : Nat → Int32) : rd 4 w 3 = some (w 3) := rd_s (k := 3) (by omega) (by omega)
section IT
variable {T : Nat} {L : Nat → Nat} {tl ml : Nat → Int32}
theorem clog_s (h : TX T L tl ml) {a : Nat} (ha : a ≤ 250) {xc rr : Nat → Int32} {xn : Int32} (hS : RS xc xn 0 rr) (m0 : Nat → Int32) : (endsAt T L a 4 → ∀ w : Nat → Int32, (∀ k, k < 4 → w k = nI (nVal T L (plc T L a k))) → (∃ c' n' s' t', f_X3_takeClog (nI 4) xn 0 xc w = some (1, c', n') ∧ f_X10_readClogOf (nI T) (nI a) ml m0 rr = some (1, nI (plc T L a 4), t', s') ∧ RS c' n' 0 s') ∨ (f_X3_takeClog (nI 4) xn 0 xc w = some (0, xc, xn) ∧ ∃ x y z, f_X10_readClogOf (nI T) (nI a) ml m0 rr = some (0, x, y, z))) ∧ (¬ endsAt T L a 4 → ∃ x y z, f_X10_readClogOf (nI T) (nI a) ml m0 rr = some (0, x, y, z)) := by
  obtain ⟨n, d, v, ok, rfl, hd0, hx, hm⟩ := hS
  have hn := ok.1
  have hd := ok.2.1
  have ed : d = 0 := (nI_inj (a := 0) (by omega) (by omega) hd0).symm
  subst ed
  have numM := M_nums_s h (show a ≤ 300 by omega) (c := 4) (by omega) (by omega) m0
  constructor
  · intro hE w hw
    rcases numM with ⟨_, wm, e1, e2⟩ | ⟨hN, _⟩
    · unfold f_X3_takeClog f_X10_readClogOf
      rw [if_pos (show nI 4 = (4 : Int32) from rfl), rd1 (f := rr) (by omega), bnd_some, hm.2.1]
      by_cases q : n = 10
      · subst q
        rw [if_pos (show (10 : Int32) ≤ nI 10 by decide), if_pos (show nI 10 = (10 : Int32) from rfl)]
        exact Or.inr ⟨rfl, _, _, _, rfl⟩
      · rw [if_neg (show ¬ (10 : Int32) ≤ nI n from nI_ge (b := 10) (by omega) (by omega)), if_neg (show ¬ nI n = (10 : Int32) from fun e => q (nI_inj (b := 10) (by omega) (by omega) e)), show f_X10_readNumbers 4 (nI T) (nI a) ml m0 = _ from e1, bnd_some]
        dsimp only [u3]
        rw [if_neg (show ¬ (1 : Int32) = 0 by decide)]
        rw [at4_0, at4_1, at4_2, at4_3, rd0 (f := wm) (by omega), rd1 (f := wm) (by omega), rd4_2, rd4_3]
        repeat rw [bnd_some]
        rw [hw 0 (by omega), hw 1 (by omega), hw 2 (by omega), hw 3 (by omega), e2 0 (by omega), e2 1 (by omega), e2 2 (by omega), e2 3 (by omega)]
        rcases isClog_c (nI (nVal T L (plc T L a 0))) (nI (nVal T L (plc T L a 1))) (nI (nVal T L (plc T L a 2))) (nI (nVal T L (plc T L a 3))) with ⟨i1, i2⟩ | ⟨k, s, z, g, k1, s1, z1', z2, g1, g2, y1, y2, y3, y4, i1, i2⟩
        · rw [i1, i2]
          simp only [bnd_some, z0, z1, z10, eq_self, if_true, if_false, Bool.false_eq_true]
          exact Or.inr ⟨trivial, _, _, _, rfl⟩
        · rw [i1, i2, y1, y2, y3, y4]
          simp only [bnd_some, z0, z1, z10, eq_self, if_true, if_false, Bool.false_eq_true]
          unfold f_X10_tellsClog
          obtain ⟨c', j1, j2⟩ := X4_add_s (d := 0) hx (show n < 10 by omega) k s z g
          obtain ⟨s', j3, j4⟩ := M_puts_s hm (show n < 10 by omega) k s z g
          rw [show f_X4_add (nI k) (nI s) (nI z) (nI g) (nI n) 0 xc = _ from j1, j3]
          simp only [bnd_some, u2]
          exact Or.inl ⟨_, _, _, _, rfl, rfl, n + 1, 0, _, okS_add ok (by omega) k1 s1 ⟨z1', z2⟩ ⟨g1, g2⟩, rfl, rfl, j2, j4⟩
    · exact absurd hE hN
  · intro hE
    rcases numM with ⟨hN, _⟩ | ⟨_, z, w, e1⟩
    · exact absurd hN hE
    · unfold f_X10_readClogOf
      rw [rd1 (f := rr) (by omega), bnd_some, hm.2.1]
      by_cases q : nI n = 10
      · rw [if_pos q]
        exact ⟨_, _, _, rfl⟩
      · rw [if_neg q, show f_X10_readNumbers 4 (nI T) (nI a) ml m0 = _ from e1, bnd_some]
        dsimp only [u3]
        rw [if_pos rfl]
        exact ⟨_, _, _, rfl⟩
theorem told_s {w : Nat → Int32} {k x lo hi : Nat} (hk : k < 4) (hw : w k = nI x) (hx : x < 1000) (hlo : lo < 1000) (hhi : hi < 1000) : f_X10_isTold (nI k) (nI lo) (nI hi) w = some (nI (if lo ≤ x ∧ x ≤ hi then 1 else 0)) := by
  unfold f_X10_isTold
  rw [rd_s hk (by omega), bnd_some, hw, M_in_s, within_s (by omega) (by omega) (by omega), bnd_some]
end IT
