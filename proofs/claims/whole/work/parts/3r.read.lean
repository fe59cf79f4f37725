/-! reading a text: an item of any kind, and the whole text, on both sides -/
def need (l : Nat) : Nat := if l = 99 then 4 else if l = 102 then 2 else if l = 103 then 2 else if l = 107 then 1 else if l = 115 then 1 else 0
theorem neL {l k : Nat} (hl : l ≤ 126) (hk : k ≤ 126) (q : ¬ l = k) : ¬ nI l = nI k := fun e => q (nI_inj (by omega) (by omega) e)
section IW
variable {T : Nat} {L : Nat → Nat} {tl ml : Nat → Int32}
theorem item_bad (h : TX T L tl ml) {b : Nat} (hb : b < T) {xn wn ws gn gb mn mg mb ms : Int32} {gk : Int64} {xc wl wr rr mf mk : Nat → Int32} (hS : RS xc xn 0 rr) (hW : RW wl wr wn ws mn mf ms) (hG : RG gn gb gk mg mb mk) (m0 : Nat → Int32) (hN : ¬ (1 ≤ need (L b) ∧ endsAt T L (b + 1) (need (L b)))) : ∃ x, f_X10_readItem (nI T) (nI b) mn mg mb ms ml m0 rr mf mk = some (0, x) := by
  have hT := h.1
  have hl := (h.2 b hb).2.1
  unfold f_X10_readItem
  rw [M_letter_s h (by omega), bnd_some, if_pos hb, show nI b + 1 = nI (b + 1) from nI_add b 1]
  by_cases q1 : L b = 99
  · have e4 : need (L b) = 4 := by unfold need; rw [if_pos q1]
    rw [e4] at hN
    obtain ⟨x, y, z, e⟩ := (clog_s h (show b + 1 ≤ 250 by omega) hS m0).2 (fun g => hN ⟨by omega, g⟩)
    rw [q1, if_pos (show nI 99 = (99 : Int32) from rfl), e, bnd_some]
    exact ⟨_, rfl⟩
  · rw [if_neg (show ¬ nI (L b) = (99 : Int32) from neL (k := 99) hl (by omega) q1)]
    by_cases q2 : L b = 102
    · have e4 : need (L b) = 2 := by unfold need; rw [if_neg q1, if_pos q2]
      rw [e4] at hN
      obtain ⟨x, y, z, g, e⟩ := (feet_s h (show b + 1 ≤ 250 by omega) hW m0).2 (fun g => hN ⟨by omega, g⟩)
      rw [q2, if_pos (show nI 102 = (102 : Int32) from rfl), e, bnd_some]
      exact ⟨_, rfl⟩
    · rw [if_neg (show ¬ nI (L b) = (102 : Int32) from neL (k := 102) hl (by omega) q2)]
      by_cases q3 : L b = 103
      · have e4 : need (L b) = 2 := by unfold need; rw [if_neg q1, if_neg q2, if_pos q3]
        rw [e4] at hN
        obtain ⟨x, y, z, g, e⟩ := (log_s h (show b + 1 ≤ 250 by omega) hG m0).2 (fun g => hN ⟨by omega, g⟩)
        rw [q3, if_pos (show nI 103 = (103 : Int32) from rfl), e, bnd_some]
        exact ⟨_, rfl⟩
      · rw [if_neg (show ¬ nI (L b) = (103 : Int32) from neL (k := 103) hl (by omega) q3)]
        by_cases q4 : L b = 107
        · have e4 : need (L b) = 1 := by unfold need; rw [if_neg q1, if_neg q2, if_neg q3, if_pos q4]
          rw [e4] at hN
          obtain ⟨x, y, z, e⟩ := (knot_s h (show b + 1 ≤ 250 by omega) hG m0).2 (fun g => hN ⟨by omega, g⟩)
          rw [q4, if_pos (show nI 107 = (107 : Int32) from rfl), e, bnd_some]
          exact ⟨_, rfl⟩
        · rw [if_neg (show ¬ nI (L b) = (107 : Int32) from neL (k := 107) hl (by omega) q4)]
          by_cases q5 : L b = 115
          · have e4 : need (L b) = 1 := by unfold need; rw [if_neg q1, if_neg q2, if_neg q3, if_neg q4, if_pos q5]
            rw [e4] at hN
            obtain ⟨x, y, z, e⟩ := (stock_s h (show b + 1 ≤ 250 by omega) hW m0).2 (fun g => hN ⟨by omega, g⟩)
            rw [q5, if_pos (show nI 115 = (115 : Int32) from rfl), e, bnd_some]
            exact ⟨_, rfl⟩
          · rw [if_neg (show ¬ nI (L b) = (115 : Int32) from neL (k := 115) hl (by omega) q5)]
            exact ⟨_, rfl⟩
theorem take_bad {l c : Nat} (hl : l ≤ 126) (c1 : 1 ≤ c) (c4 : c ≤ 4) (hc : c ≠ need l) (xn xd wn ws gn gb : Int32) (gk : Int64) (xc wl wr w : Nat → Int32) : ∃ x, f_X3_take (nI l) (nI c) xn xd xc wn ws wl wr gn gb gk w = some (0, x) := by
  unfold f_X3_take
  by_cases q1 : l = 99
  · have e4 : need l = 4 := by unfold need; rw [if_pos q1]
    rw [e4] at hc
    rw [q1, if_pos (show nI 99 = (99 : Int32) from rfl), f_X3_takeClog, if_neg (show ¬ nI c = (4 : Int32) from neL (k := 4) (by omega) (by omega) hc), bnd_some]
    exact ⟨_, rfl⟩
  · rw [if_neg (show ¬ nI l = (99 : Int32) from neL (k := 99) hl (by omega) q1)]
    by_cases q2 : l = 102
    · have e4 : need l = 2 := by unfold need; rw [if_neg q1, if_pos q2]
      rw [e4] at hc
      rw [q2, if_pos (show nI 102 = (102 : Int32) from rfl), f_X3_takeFeet, if_neg (show ¬ nI c = (2 : Int32) from neL (k := 2) (by omega) (by omega) hc), bnd_some]
      exact ⟨_, rfl⟩
    · rw [if_neg (show ¬ nI l = (102 : Int32) from neL (k := 102) hl (by omega) q2)]
      by_cases q3 : l = 103
      · have e4 : need l = 2 := by unfold need; rw [if_neg q1, if_neg q2, if_pos q3]
        rw [e4] at hc
        rw [q3, if_pos (show nI 103 = (103 : Int32) from rfl), f_X3_takeLog, if_neg (show ¬ nI c = (2 : Int32) from neL (k := 2) (by omega) (by omega) hc), bnd_some]
        exact ⟨_, rfl⟩
      · rw [if_neg (show ¬ nI l = (103 : Int32) from neL (k := 103) hl (by omega) q3)]
        by_cases q4 : l = 107
        · have e4 : need l = 1 := by unfold need; rw [if_neg q1, if_neg q2, if_neg q3, if_pos q4]
          rw [e4] at hc
          rw [q4, if_pos (show nI 107 = (107 : Int32) from rfl), f_X3_takeKnot, if_neg (show ¬ nI c = (1 : Int32) from neL (k := 1) (by omega) (by omega) hc), bnd_some]
          exact ⟨_, rfl⟩
        · rw [if_neg (show ¬ nI l = (107 : Int32) from neL (k := 107) hl (by omega) q4)]
          by_cases q5 : l = 115
          · have e4 : need l = 1 := by unfold need; rw [if_neg q1, if_neg q2, if_neg q3, if_neg q4, if_pos q5]
            rw [e4] at hc
            rw [q5, if_pos (show nI 115 = (115 : Int32) from rfl), f_X3_takeStocking, if_neg (show ¬ nI c = (1 : Int32) from neL (k := 1) (by omega) (by omega) hc), bnd_some]
            exact ⟨_, rfl⟩
          · rw [if_neg (show ¬ nI l = (115 : Int32) from neL (k := 115) hl (by omega) q5)]
            exact ⟨_, rfl⟩
theorem item_ok (h : TX T L tl ml) {b c : Nat} (hb : b < T) {xn wn ws gn gb mn mg mb ms : Int32} {gk : Int64} {xc wl wr rr mf mk : Nat → Int32} (hS : RS xc xn 0 rr) (hW : RW wl wr wn ws mn mf ms) (hG : RG gn gb gk mg mb mk) (m0 : Nat → Int32) (c1 : 1 ≤ c) (hE : endsAt T L (b + 1) c) (hc : c = need (L b)) (w : Nat → Int32) (hw : ∀ k, k < c → w k = nI (nVal T L (plc T L (b + 1) k))) : (∃ c' n' l' r' wn' ws' gn' gb' gk' t' rr' mn' mf' mg' mb' mk' ms', f_X3_take (nI (L b)) (nI c) xn 0 xc wn ws wl wr gn gb gk w = some (1, c', n', l', r', wn', ws', gn', gb', gk') ∧ f_X10_readItem (nI T) (nI b) mn mg mb ms ml m0 rr mf mk = some (1, nI (plc T L (b + 1) c), t', rr', mn', mf', mg', mb', mk', ms') ∧ RS c' n' 0 rr' ∧ RW l' r' wn' ws' mn' mf' ms' ∧ RG gn' gb' gk' mg' mb' mk') ∨ (∃ x y, f_X3_take (nI (L b)) (nI c) xn 0 xc wn ws wl wr gn gb gk w = some (0, x) ∧ f_X10_readItem (nI T) (nI b) mn mg mb ms ml m0 rr mf mk = some (0, y)) := by
  have hT := h.1
  have hl := (h.2 b hb).2.1
  unfold f_X10_readItem f_X3_take
  rw [M_letter_s h (by omega), bnd_some, if_pos hb, show nI b + 1 = nI (b + 1) from nI_add b 1]
  by_cases q1 : L b = 99
  · have e4 : need (L b) = 4 := by unfold need; rw [if_pos q1]
    rw [e4] at hc
    subst hc
    rw [q1, if_pos (show nI 99 = (99 : Int32) from rfl), if_pos (show nI 99 = (99 : Int32) from rfl)]
    rcases (clog_s h (show b + 1 ≤ 250 by omega) hS m0).1 hE w hw with ⟨c', n', s', t', e1, e2, e3⟩ | ⟨e1, x, y, z, e2⟩
    · rw [e1, e2, bnd_some, bnd_some]
      exact Or.inl ⟨_, _, _, _, _, _, _, _, _, _, _, _, _, _, _, _, _, rfl, rfl, e3, hW, hG⟩
    · rw [e1, e2, bnd_some, bnd_some]
      exact Or.inr ⟨_, _, rfl, rfl⟩
  · rw [if_neg (show ¬ nI (L b) = (99 : Int32) from neL (k := 99) hl (by omega) q1), if_neg (show ¬ nI (L b) = (99 : Int32) from neL (k := 99) hl (by omega) q1)]
    by_cases q2 : L b = 102
    · have e4 : need (L b) = 2 := by unfold need; rw [if_neg q1, if_pos q2]
      rw [e4] at hc
      subst hc
      rw [q2, if_pos (show nI 102 = (102 : Int32) from rfl), if_pos (show nI 102 = (102 : Int32) from rfl)]
      rcases (feet_s h (show b + 1 ≤ 250 by omega) hW m0).1 hE w hw with ⟨l', r', n', t', mn', mf', e1, e2, e3⟩ | ⟨e1, x, y, z, g, e2⟩
      · rw [e1, e2, bnd_some, bnd_some]
        exact Or.inl ⟨_, _, _, _, _, _, _, _, _, _, _, _, _, _, _, _, _, rfl, rfl, hS, e3, hG⟩
      · rw [e1, e2, bnd_some, bnd_some]
        exact Or.inr ⟨_, _, rfl, rfl⟩
    · rw [if_neg (show ¬ nI (L b) = (102 : Int32) from neL (k := 102) hl (by omega) q2), if_neg (show ¬ nI (L b) = (102 : Int32) from neL (k := 102) hl (by omega) q2)]
      by_cases q3 : L b = 103
      · have e4 : need (L b) = 2 := by unfold need; rw [if_neg q1, if_neg q2, if_pos q3]
        rw [e4] at hc
        subst hc
        rw [q3, if_pos (show nI 103 = (103 : Int32) from rfl), if_pos (show nI 103 = (103 : Int32) from rfl)]
        rcases (log_s h (show b + 1 ≤ 250 by omega) hG m0).1 hE w hw with ⟨l', b', t', e1, e2, e3⟩ | ⟨e1, x, y, z, g, e2⟩
        · rw [e1, e2, bnd_some, bnd_some]
          obtain ⟨LL, B, K, hL1, hL2, hB1, hB2, hK, d1, d2, d3, d4, d5, hk⟩ := hG
          exact Or.inl ⟨_, _, _, _, _, _, _, _, _, _, _, _, _, _, _, _, _, rfl, rfl, hS, hW, e3⟩
        · rw [e1, e2, bnd_some, bnd_some]
          exact Or.inr ⟨_, _, rfl, rfl⟩
      · rw [if_neg (show ¬ nI (L b) = (103 : Int32) from neL (k := 103) hl (by omega) q3), if_neg (show ¬ nI (L b) = (103 : Int32) from neL (k := 103) hl (by omega) q3)]
        by_cases q4 : L b = 107
        · have e4 : need (L b) = 1 := by unfold need; rw [if_neg q1, if_neg q2, if_neg q3, if_pos q4]
          rw [e4] at hc
          subst hc
          rw [q4, if_pos (show nI 107 = (107 : Int32) from rfl), if_pos (show nI 107 = (107 : Int32) from rfl)]
          rcases (knot_s h (show b + 1 ≤ 250 by omega) hG m0).1 hE w hw with ⟨k', t', g', e1, e2, e3⟩ | ⟨e1, x, y, z, e2⟩
          · rw [e1, e2, bnd_some, bnd_some]
            exact Or.inl ⟨_, _, _, _, _, _, _, _, _, _, _, _, _, _, _, _, _, rfl, rfl, hS, hW, e3⟩
          · rw [e1, e2, bnd_some, bnd_some]
            exact Or.inr ⟨_, _, rfl, rfl⟩
        · rw [if_neg (show ¬ nI (L b) = (107 : Int32) from neL (k := 107) hl (by omega) q4), if_neg (show ¬ nI (L b) = (107 : Int32) from neL (k := 107) hl (by omega) q4)]
          by_cases q5 : L b = 115
          · have e4 : need (L b) = 1 := by unfold need; rw [if_neg q1, if_neg q2, if_neg q3, if_neg q4, if_pos q5]
            rw [e4] at hc
            subst hc
            rw [q5, if_pos (show nI 115 = (115 : Int32) from rfl), if_pos (show nI 115 = (115 : Int32) from rfl)]
            rcases (stock_s h (show b + 1 ≤ 250 by omega) hW m0).1 hE w hw with ⟨s', t', e1, e2, e3⟩ | ⟨e1, x, y, z, e2⟩
            · rw [e1, e2, bnd_some, bnd_some]
              exact Or.inl ⟨_, _, _, _, _, _, _, _, _, _, _, _, _, _, _, _, _, rfl, rfl, hS, e3, hG⟩
            · rw [e1, e2, bnd_some, bnd_some]
              exact Or.inr ⟨_, _, rfl, rfl⟩
          · have e4 : need (L b) = 0 := by unfold need; rw [if_neg q1, if_neg q2, if_neg q3, if_neg q4, if_neg q5]
            omega
/-- one item in step -/
theorem read_step (h : TX T L tl ml) {b i : Nat} (hb : b ≤ T) (hi : i ≤ b) {xn wn ws gn gb mn mg mb ms : Int32} {gk : Int64} {xc wl wr rr mf mk : Nat → Int32} (hS : RS xc xn 0 rr) (hW : RW wl wr wn ws mn mf ms) (hG : RG gn gb gk mg mb mk) (t0 : Int32) (w0 m0 : Nat → Int32) : (∃ b' t' n' c' wn' ws' l' r' gn' gb' gk' w' mn' mg' mb' ms' m' rr' mf' mk', b_X3_read_1 (nI T) tl 0 (nI b) (nI i) t0 xn xc wn ws wl wr gn gb gk w0 = some (.inl (nI b', nI (i + 1), t', n', c', wn', ws', l', r', gn', gb', gk', w')) ∧ b_X10_fault_1 ml (nI T) (nI b) mn mg mb ms m0 rr mf mk = some (.inl (nI b', mn', mg', mb', ms', m', rr', mf', mk')) ∧ i + 1 ≤ b' ∧ b' ≤ T ∧ b < T ∧ RS c' n' 0 rr' ∧ RW l' r' wn' ws' mn' mf' ms' ∧ RG gn' gb' gk' mg' mb' mk') ∨ (b = T ∧ b_X3_read_1 (nI T) tl 0 (nI b) (nI i) t0 xn xc wn ws wl wr gn gb gk w0 = some (.inr (.inl (nI b, nI i, t0, xn, xc, wn, ws, wl, wr, gn, gb, gk, w0))) ∧ b_X10_fault_1 ml (nI T) (nI b) mn mg mb ms m0 rr mf mk = some (.inr (.inl (nI b, mn, mg, mb, ms, m0, rr, mf, mk)))) ∨ (b < T ∧ ∃ x y, b_X3_read_1 (nI T) tl 0 (nI b) (nI i) t0 xn xc wn ws wl wr gn gb gk w0 = some (.inr (.inr (nI b, x))) ∧ b_X10_fault_1 ml (nI T) (nI b) mn mg mb ms m0 rr mf mk = some (.inr (.inr (nI b, y)))) := by
  have hT := h.1
  unfold b_X3_read_1 b_X10_fault_1
  by_cases q : b = T
  · refine Or.inr (Or.inl ⟨q, ?_, ?_⟩)
    · by_cases q2 : i = 200
      · rw [q2, if_pos (show (200 : Int32) ≤ nI 200 by decide)]
      · rw [if_neg (show ¬ (200 : Int32) ≤ nI i from nI_ge (b := 200) (by omega) (by omega)), if_pos (nI_le (by omega) (by omega))]
    · rw [if_pos (nI_le (by omega) (by omega))]
  · have hbT : b < T := by omega
    have hl := (h.2 b hbT).2.1
    rw [if_neg (show ¬ (200 : Int32) ≤ nI i from nI_ge (b := 200) (by omega) (by omega)), if_neg (nI_ge hbT (by omega)), if_neg (nI_ge hbT (by omega)), show nI b + 1 = nI (b + 1) from nI_add b 1]
    rcases X3_nums_s h (show b + 1 ≤ 300 by omega) t0 w0 with ⟨c, w, c1, c4, hE, e1, hw⟩ | ⟨hN, w, t, e1⟩
    · have hp := plc_le (T := T) (L := L) (b + 1) c
      rw [e1, bnd_some]
      dsimp only [u3]
      rw [if_neg (show ¬ nI (plc T L (b + 1) c) < 0 from nI_pos (by omega)), X5_letter_s h (by omega), bnd_some, if_pos hbT]
      by_cases hc : c = need (L b)
      · rcases item_ok h hbT hS hW hG m0 c1 hE hc w hw with ⟨c', n', l', r', wn', ws', gn', gb', gk', t', rr', mn', mf', mg', mb', mk', ms', e2, e3, e4, e5, e6⟩ | ⟨x, y, e2, e3⟩
        · rw [e2, e3, bnd_some, bnd_some]
          dsimp only [u10]
          rw [if_neg (show ¬ (1 : Int32) = 0 by decide), if_neg (show ¬ (1 : Int32) = 0 by decide), show nI i + 1 = nI (i + 1) from nI_add i 1]
          refine Or.inl ⟨_, _, _, _, _, _, _, _, _, _, _, _, _, _, _, _, _, _, _, _, rfl, rfl, by omega, ?_, hbT, e4, e5, e6⟩
          have g := hE.2.2
          have hpl : plc T L (b + 1) c = nEnd T L (plc T L (b + 1) (c - 1)) + 1 := by
            rw [show c = (c - 1) + 1 by omega]
            rfl
          unfold sepI at g
          by_cases t : nEnd T L (plc T L (b + 1) (c - 1)) < T
          · omega
          · rw [if_neg t] at g
            omega
        · rw [e2, e3, bnd_some, bnd_some]
          obtain ⟨x1, x2, x3, x4, x5, x6, x7, x8, x9⟩ := x
          obtain ⟨y1, y2, y3, y4, y5, y6, y7, y8, y9⟩ := y
          dsimp only [u10]
          rw [if_pos rfl, if_pos rfl]
          exact Or.inr (Or.inr ⟨hbT, _, _, rfl, rfl⟩)
      · obtain ⟨x, e2⟩ := take_bad hl c1 c4 hc xn 0 wn ws gn gb gk xc wl wr w
        obtain ⟨y, e3⟩ := item_bad h hbT hS hW hG m0 (fun ⟨g1, g2⟩ => hc (ends_uniq c1 g1 hE g2))
        rw [e2, e3, bnd_some, bnd_some]
        obtain ⟨x1, x2, x3, x4, x5, x6, x7, x8, x9⟩ := x
        obtain ⟨y1, y2, y3, y4, y5, y6, y7, y8, y9⟩ := y
        dsimp only [u10]
        rw [if_pos rfl, if_pos rfl]
        exact Or.inr (Or.inr ⟨hbT, _, _, rfl, rfl⟩)
    · have hn4 : need (L b) ≤ 4 := by
        unfold need
        repeat' split
        all_goals omega
      obtain ⟨y, e3⟩ := item_bad h hbT hS hW hG m0 (fun ⟨g1, g2⟩ => hN _ g1 hn4 g2)
      rw [e1, e3, bnd_some, bnd_some]
      obtain ⟨y1, y2, y3, y4, y5, y6, y7, y8, y9⟩ := y
      dsimp only [u10, u3]
      rw [if_pos (show (-1 : Int32) < 0 by decide), if_pos rfl]
      exact Or.inr (Or.inr ⟨hbT, _, _, rfl, rfl⟩)
end IW
