/-! reading a text: the other kinds of items -/
section IU
variable {T : Nat} {L : Nat → Nat} {tl ml : Nat → Int32}
theorem nV_lt (h : TX T L tl ml) {a c k : Nat} (hE : endsAt T L a c) (hc : 1 ≤ c) (hk : k < c) : nVal T L (plc T L a k) < 100 := by
  by_cases q : k = c - 1
  · rw [q]
    exact nVal_lt hE.2.1
  · exact nVal_lt (hE.1 k (by omega)).1
theorem feet_s (h : TX T L tl ml) {a : Nat} (ha : a ≤ 250) {xl xr mf : Nat → Int32} {xn xs mn ms : Int32} (hW : RW xl xr xn xs mn mf ms) (m0 : Nat → Int32) : (endsAt T L a 2 → ∀ w : Nat → Int32, (∀ k, k < 2 → w k = nI (nVal T L (plc T L a k))) → (∃ l' r' n' t' mn' mf', f_X3_takeFeet (nI 2) xn xl xr w = some (1, l', r', n') ∧ f_X10_readFeetOf (nI T) (nI a) mn ml m0 mf = some (1, nI (plc T L a 2), t', mn', mf') ∧ RW l' r' n' xs mn' mf' ms) ∨ (f_X3_takeFeet (nI 2) xn xl xr w = some (0, xl, xr, xn) ∧ ∃ x y z g, f_X10_readFeetOf (nI T) (nI a) mn ml m0 mf = some (0, x, y, z, g))) ∧ (¬ endsAt T L a 2 → ∃ x y z g, f_X10_readFeetOf (nI T) (nI a) mn ml m0 mf = some (0, x, y, z, g)) := by
  obtain ⟨F, s, fl, fr, hF, hs, rfl, rfl, rfl, rfl, hf⟩ := hW
  have numM := M_nums_s h (show a ≤ 300 by omega) (c := 2) (by omega) (by omega) m0
  constructor
  · intro hE w hw
    have v0 := nV_lt h hE (by omega) (show 0 < 2 by omega)
    have v1 := nV_lt h hE (by omega) (show 1 < 2 by omega)
    rcases numM with ⟨_, wm, e1, e2⟩ | ⟨hN, _⟩
    · unfold f_X3_takeFeet f_X10_readFeetOf
      rw [if_pos (show nI 2 = (2 : Int32) from rfl)]
      by_cases q : F = 5
      · subst q
        rw [if_pos (show (5 : Int32) ≤ nI 5 by decide), if_pos (show nI 5 = (5 : Int32) from rfl)]
        exact Or.inr ⟨rfl, _, _, _, _, rfl⟩
      · rw [if_neg (show ¬ (5 : Int32) ≤ nI F from nI_ge (b := 5) (by omega) (by omega)), if_neg (show ¬ nI F = (5 : Int32) from fun e => q (nI_inj (b := 5) (by omega) (by omega) e)), show f_X10_readNumbers 2 (nI T) (nI a) ml m0 = _ from e1, bnd_some]
        dsimp only [u3]
        rw [if_neg (show ¬ (1 : Int32) = 0 by decide)]
        rw [at4_0, at4_1, rd0 (f := wm) (by omega), rd1 (f := wm) (by omega), show f_X10_isTold 0 10 72 wm = _ from told_s (k := 0) (lo := 10) (hi := 72) (by omega) (e2 0 (by omega)) (by omega) (by omega) (by omega), show f_X10_isTold 1 10 72 wm = _ from told_s (k := 1) (lo := 10) (hi := 72) (by omega) (e2 1 (by omega)) (by omega) (by omega) (by omega)]
        repeat rw [bnd_some]
        rw [hw 0 (by omega), hw 1 (by omega), e2 0 (by omega), e2 1 (by omega)]
        generalize nVal T L (plc T L a 0) = x at v0 ⊢
        generalize nVal T L (plc T L a 1) = y at v1 ⊢
        rw [show f_X9_within (nI x) 10 72 = _ from within_s (a := 10) (b := 72) (by omega) (by omega) (by omega), bnd_some]
        by_cases c1 : 10 ≤ x ∧ x ≤ 72
        · rw [if_pos c1, if_neg (show ¬ nI 1 = 0 by decide), if_neg (show ¬ nI 1 = 0 by decide), show f_X9_within (nI y) 10 72 = _ from within_s (a := 10) (b := 72) (by omega) (by omega) (by omega), bnd_some]
          by_cases c2 : 10 ≤ y ∧ y ≤ 72
          · rw [if_pos c2, if_neg (show ¬ nI 1 = 0 by decide), if_neg (show ¬ nI 1 = 0 by decide)]
            repeat rw [bnd_some]
            unfold f_X6_add f_X10_tellsFeet
            rw [if_neg (show ¬ (5 : Int32) ≤ nI F from nI_ge (b := 5) (by omega) (by omega)), X9_put_s (show F < 5 by omega) (by omega), bnd_some, X9_put_s (show F < 5 by omega) (by omega), bnd_some, show (2 : Int32) * nI F = nI (2 * F) from pk_mul 2 F, wr_s (show 2 * F < 10 by omega) (by omega), show nI (2 * F) + 1 = nI (2 * F + 1) from nI_add _ 1, show nI F + 1 = nI (F + 1) from nI_add F 1]
            repeat rw [bnd_some]
            rw [wr_s (show 2 * F + 1 < 10 by omega) (by omega)]
            repeat rw [bnd_some]
            refine Or.inl ⟨_, _, _, _, _, _, rfl, rfl, F + 1, s, fun i => if i = F then x else fl i, fun i => if i = F then y else fr i, by omega, hs, rfl, rfl, rfl, rfl, fun f hfF => ?_⟩
            try dsimp only
            by_cases t : f = F
            · subst t
              have t1 : ¬ 2 * f = 2 * f + 1 := by omega
              simp [t1]
              omega
            · have t1 : ¬ 2 * f = 2 * F + 1 := by omega
              have t2 : ¬ 2 * f = 2 * F := by omega
              have t3 : ¬ 2 * f + 1 = 2 * F + 1 := by omega
              have t4 : ¬ 2 * f + 1 = 2 * F := by omega
              simp only [t, t1, t2, t3, t4, if_false]
              exact hf f (by omega)
          · rw [if_neg c2, if_pos (show nI 0 = 0 from rfl), if_pos (show nI 0 = 0 from rfl)]
            exact Or.inr ⟨rfl, _, _, _, _, rfl⟩
        · rw [if_neg c1, if_pos (show nI 0 = 0 from rfl), if_pos (show nI 0 = 0 from rfl)]
          exact Or.inr ⟨rfl, _, _, _, _, rfl⟩
    · exact absurd hE hN
  · intro hE
    rcases numM with ⟨hN, _⟩ | ⟨_, z, w, e1⟩
    · exact absurd hN hE
    · unfold f_X10_readFeetOf
      by_cases q : nI F = 5
      · rw [if_pos q]
        exact ⟨_, _, _, _, rfl⟩
      · rw [if_neg q, show f_X10_readNumbers 2 (nI T) (nI a) ml m0 = _ from e1, bnd_some]
        dsimp only [u3]
        rw [if_pos rfl]
        exact ⟨_, _, _, _, rfl⟩
end IU
