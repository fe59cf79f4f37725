/-! reading a text: the log, its knots, the stocking -/
theorem L_or (a b : Nat) : Int64.ofNat a ||| Int64.ofNat b = Int64.ofNat (a ||| b) := by
  apply L_ext
  apply BitVec.eq_of_toNat_eq
  simp [L_bv, Nat.or_mod_two_pow]
section IV
variable {T : Nat} {L : Nat → Nat} {tl ml : Nat → Int32}
theorem log_s (h : TX T L tl ml) {a : Nat} (ha : a ≤ 250) {xl xb gl gb : Int32} {xk : Int64} {gk : Nat → Int32} (hG : RG xl xb xk gl gb gk) (m0 : Nat → Int32) : (endsAt T L a 2 → ∀ w : Nat → Int32, (∀ k, k < 2 → w k = nI (nVal T L (plc T L a k))) → (∃ l' b' t', f_X3_takeLog (nI 2) xl xb w = some (1, l', b') ∧ f_X10_readLogOf (nI T) (nI a) gl gb ml m0 = some (1, nI (plc T L a 2), t', l', b') ∧ RG l' b' xk l' b' gk) ∨ (f_X3_takeLog (nI 2) xl xb w = some (0, xl, xb) ∧ ∃ x y z g, f_X10_readLogOf (nI T) (nI a) gl gb ml m0 = some (0, x, y, z, g))) ∧ (¬ endsAt T L a 2 → ∃ x y z g, f_X10_readLogOf (nI T) (nI a) gl gb ml m0 = some (0, x, y, z, g)) := by
  obtain ⟨LL, B, K, hL1, hL2, hB1, hB2, hK, rfl, rfl, rfl, rfl, rfl, hk⟩ := hG
  have numM := M_nums_s h (show a ≤ 300 by omega) (c := 2) (by omega) (by omega) m0
  constructor
  · intro hE w hw
    have v0 := nV_lt h hE (by omega) (show 0 < 2 by omega)
    have v1 := nV_lt h hE (by omega) (show 1 < 2 by omega)
    rcases numM with ⟨_, wm, e1, e2⟩ | ⟨hN, _⟩
    · unfold f_X3_takeLog f_X10_readLogOf
      rw [if_pos (show nI 2 = (2 : Int32) from rfl), show f_X10_readNumbers 2 (nI T) (nI a) ml m0 = _ from e1, bnd_some]
      dsimp only [u3]
      rw [if_neg (show ¬ (1 : Int32) = 0 by decide)]
      rw [at4_0, at4_1, rd0 (f := wm) (by omega), rd1 (f := wm) (by omega), show f_X10_isTold 0 1 40 wm = _ from told_s (k := 0) (lo := 1) (hi := 40) (by omega) (e2 0 (by omega)) (by omega) (by omega) (by omega), show f_X10_isTold 1 2 9 wm = _ from told_s (k := 1) (lo := 2) (hi := 9) (by omega) (e2 1 (by omega)) (by omega) (by omega) (by omega)]
      repeat rw [bnd_some]
      rw [hw 0 (by omega), hw 1 (by omega), e2 0 (by omega), e2 1 (by omega)]
      generalize nVal T L (plc T L a 0) = x at v0 ⊢
      generalize nVal T L (plc T L a 1) = y at v1 ⊢
      rw [show f_X9_within (nI x) 1 40 = _ from within_s (a := 1) (b := 40) (by omega) (by omega) (by omega), bnd_some]
      by_cases c1 : 1 ≤ x ∧ x ≤ 40
      · rw [if_pos c1, if_neg (show ¬ nI 1 = 0 by decide), if_neg (show ¬ nI 1 = 0 by decide), show f_X9_within (nI y) 2 9 = _ from within_s (a := 2) (b := 9) (by omega) (by omega) (by omega), bnd_some]
        by_cases c2 : 2 ≤ y ∧ y ≤ 9
        · rw [if_pos c2, if_neg (show ¬ nI 1 = 0 by decide), if_neg (show ¬ nI 1 = 0 by decide)]
          repeat rw [bnd_some]
          exact Or.inl ⟨_, _, _, rfl, rfl, x, y, K, c1.1, c1.2, c2.1, c2.2, hK, rfl, rfl, rfl, rfl, rfl, hk⟩
        · rw [if_neg c2, if_pos (show nI 0 = 0 from rfl), if_pos (show nI 0 = 0 from rfl)]
          exact Or.inr ⟨rfl, _, _, _, _, rfl⟩
      · rw [if_neg c1, if_pos (show nI 0 = 0 from rfl), if_pos (show nI 0 = 0 from rfl)]
        exact Or.inr ⟨rfl, _, _, _, _, rfl⟩
    · exact absurd hE hN
  · intro hE
    rcases numM with ⟨hN, _⟩ | ⟨_, z, w, e1⟩
    · exact absurd hN hE
    · unfold f_X10_readLogOf
      rw [show f_X10_readNumbers 2 (nI T) (nI a) ml m0 = _ from e1, bnd_some]
      dsimp only [u3]
      rw [if_pos rfl]
      exact ⟨_, _, _, _, rfl⟩
theorem knot_s (h : TX T L tl ml) {a : Nat} (ha : a ≤ 250) {xl xb gl gb : Int32} {xk : Int64} {gk : Nat → Int32} (hG : RG xl xb xk gl gb gk) (m0 : Nat → Int32) : (endsAt T L a 1 → ∀ w : Nat → Int32, (∀ k, k < 1 → w k = nI (nVal T L (plc T L a k))) → (∃ k' t' g', f_X3_takeKnot (nI 1) xk w = some (1, k') ∧ f_X10_readKnotOf (nI T) (nI a) ml m0 gk = some (1, nI (plc T L a 1), t', g') ∧ RG xl xb k' gl gb g') ∨ (f_X3_takeKnot (nI 1) xk w = some (0, xk) ∧ ∃ x y z, f_X10_readKnotOf (nI T) (nI a) ml m0 gk = some (0, x, y, z))) ∧ (¬ endsAt T L a 1 → ∃ x y z, f_X10_readKnotOf (nI T) (nI a) ml m0 gk = some (0, x, y, z)) := by
  obtain ⟨LL, B, K, hL1, hL2, hB1, hB2, hK, rfl, rfl, rfl, rfl, rfl, hk⟩ := hG
  have numM := M_nums_s h (show a ≤ 300 by omega) (c := 1) (by omega) (by omega) m0
  constructor
  · intro hE w hw
    have v0 := nV_lt h hE (by omega) (show 0 < 1 by omega)
    rcases numM with ⟨_, wm, e1, e2⟩ | ⟨hN, _⟩
    · unfold f_X3_takeKnot f_X10_readKnotOf
      rw [if_pos (show nI 1 = (1 : Int32) from rfl), show f_X10_readNumbers 1 (nI T) (nI a) ml m0 = _ from e1, bnd_some]
      dsimp only [u3]
      rw [if_neg (show ¬ (1 : Int32) = 0 by decide)]
      rw [at4_0, rd0 (f := wm) (by omega), show f_X10_isTold 0 0 39 wm = _ from told_s (k := 0) (lo := 0) (hi := 39) (by omega) (e2 0 (by omega)) (by omega) (by omega) (by omega)]
      repeat rw [bnd_some]
      rw [hw 0 (by omega), e2 0 (by omega)]
      generalize nVal T L (plc T L a 0) = x at v0 ⊢
      rw [show f_X9_within (nI x) 0 39 = _ from within_s (a := 0) (b := 39) (by omega) (by omega) (by omega), bnd_some]
      by_cases c1 : 0 ≤ x ∧ x ≤ 39
      · rw [if_pos c1, if_neg (show ¬ nI 1 = 0 by decide), if_neg (show ¬ nI 1 = 0 by decide), wr_s (show x < 40 by omega) (by omega)]
        repeat rw [bnd_some]
        rw [L_wide (by omega), show (1 : Int64) = Int64.ofNat 1 from rfl, L_shl (by omega), Nat.one_mul, L_or]
        refine Or.inl ⟨_, _, _, rfl, rfl, LL, B, K ||| 2 ^ x, hL1, hL2, hB1, hB2, ?_, rfl, rfl, rfl, rfl, rfl, fun j hj => ?_⟩
        · exact Nat.or_lt_two_pow (n := 40) hK (Nat.pow_lt_pow_right (by omega) (by omega))
        · try dsimp only
          rw [Nat.testBit_or, Nat.testBit_two_pow]
          by_cases t : j = x
          · subst t
            rw [if_pos rfl]
            simp
            decide
          · rw [if_neg t, hk j hj]
            have t2 : ¬ x = j := fun e => t e.symm
            simp [t2]
      · rw [if_neg c1, if_pos (show nI 0 = 0 from rfl), if_pos (show nI 0 = 0 from rfl)]
        exact Or.inr ⟨rfl, _, _, _, rfl⟩
    · exact absurd hE hN
  · intro hE
    rcases numM with ⟨hN, _⟩ | ⟨_, z, w, e1⟩
    · exact absurd hN hE
    · unfold f_X10_readKnotOf
      rw [show f_X10_readNumbers 1 (nI T) (nI a) ml m0 = _ from e1, bnd_some]
      dsimp only [u3]
      rw [if_pos rfl]
      exact ⟨_, _, _, rfl⟩
theorem stock_s (h : TX T L tl ml) {a : Nat} (ha : a ≤ 250) {xl xr mf : Nat → Int32} {xn xs mn ms : Int32} (hW : RW xl xr xn xs mn mf ms) (m0 : Nat → Int32) : (endsAt T L a 1 → ∀ w : Nat → Int32, (∀ k, k < 1 → w k = nI (nVal T L (plc T L a k))) → (∃ s' t', f_X3_takeStocking (nI 1) xs w = some (1, s') ∧ f_X10_readStockingOf (nI T) (nI a) ms ml m0 = some (1, nI (plc T L a 1), t', s') ∧ RW xl xr xn s' mn mf s') ∨ (f_X3_takeStocking (nI 1) xs w = some (0, xs) ∧ ∃ x y z, f_X10_readStockingOf (nI T) (nI a) ms ml m0 = some (0, x, y, z))) ∧ (¬ endsAt T L a 1 → ∃ x y z, f_X10_readStockingOf (nI T) (nI a) ms ml m0 = some (0, x, y, z)) := by
  obtain ⟨F, s, fl, fr, hF, hs, rfl, rfl, rfl, rfl, hf⟩ := hW
  have numM := M_nums_s h (show a ≤ 300 by omega) (c := 1) (by omega) (by omega) m0
  constructor
  · intro hE w hw
    have v0 := nV_lt h hE (by omega) (show 0 < 1 by omega)
    rcases numM with ⟨_, wm, e1, e2⟩ | ⟨hN, _⟩
    · unfold f_X3_takeStocking f_X10_readStockingOf
      rw [if_pos (show nI 1 = (1 : Int32) from rfl), show f_X10_readNumbers 1 (nI T) (nI a) ml m0 = _ from e1, bnd_some]
      dsimp only [u3]
      rw [if_neg (show ¬ (1 : Int32) = 0 by decide)]
      rw [at4_0, rd0 (f := wm) (by omega), show f_X10_isTold 0 0 6 wm = _ from told_s (k := 0) (lo := 0) (hi := 6) (by omega) (e2 0 (by omega)) (by omega) (by omega) (by omega)]
      repeat rw [bnd_some]
      rw [hw 0 (by omega), e2 0 (by omega)]
      generalize nVal T L (plc T L a 0) = x at v0 ⊢
      rw [show f_X9_within (nI x) 0 6 = _ from within_s (a := 0) (b := 6) (by omega) (by omega) (by omega), bnd_some]
      by_cases c1 : 0 ≤ x ∧ x ≤ 6
      · rw [if_pos c1, if_neg (show ¬ nI 1 = 0 by decide), if_neg (show ¬ nI 1 = 0 by decide)]
        repeat rw [bnd_some]
        exact Or.inl ⟨_, _, rfl, rfl, F, x, fl, fr, hF, c1.2, rfl, rfl, rfl, rfl, hf⟩
      · rw [if_neg c1, if_pos (show nI 0 = 0 from rfl), if_pos (show nI 0 = 0 from rfl)]
        exact Or.inr ⟨rfl, _, _, _, rfl⟩
    · exact absurd hE hN
  · intro hE
    rcases numM with ⟨hN, _⟩ | ⟨_, z, w, e1⟩
    · exact absurd hN hE
    · unfold f_X10_readStockingOf
      rw [show f_X10_readNumbers 1 (nI T) (nI a) ml m0 = _ from e1, bnd_some]
      dsimp only [u3]
      rw [if_pos rfl]
      exact ⟨_, _, _, rfl⟩
end IV
