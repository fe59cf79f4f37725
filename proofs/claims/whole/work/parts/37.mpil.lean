/-! the reference's piles -/
section P2
variable {a n d : Nat} {sn sd : Nat → Nat} {sv : Nat → Nat → Nat → Nat} {st was : Nat → Int32} {v : Nat → Nat → Nat}
theorem MN_congr {f g : Nat → Int32} (h : MN f n d v) (hn : n ≤ 10) (e : ∀ k, k < 52 → g k = f k) : MN g n d v := by
  obtain ⟨h0, h1, h2⟩ := h
  refine ⟨by rw [e 0 (by omega)]; exact h0, by rw [e 1 (by omega)]; exact h1, fun i hi => ?_⟩
  obtain ⟨a0, a1, a2, a3, a4⟩ := h2 i hi
  refine ⟨?_, ?_, ?_, ?_, ?_⟩
  · rw [e _ (by omega)]; exact a0
  · rw [e _ (by omega)]; exact a1
  · rw [e _ (by omega)]; exact a2
  · rw [e _ (by omega)]; exact a3
  · rw [e _ (by omega)]; exact a4
theorem mpil_top {N : Nat} {w' : Nat → Int32} (h : MPil was a sn sd sv) (hok : okP a sn sd sv) (ha : a < N) (hm : MN st n d v) (hn : n ≤ 10) (hw : ∀ j, w' j = if 52 * a ≤ j ∧ j < 52 * a + 52 then st (0 + (j - 52 * a)) else was j) : MPil w' (a + 1) (psh N a sn n) (psh N a sd d) (psh N a sv v) := by
  intro j hj
  unfold psh
  by_cases z : j = a
  · subst z
    simp only [if_true, if_pos ha]
    refine MN_congr hm hn (fun k hk => ?_)
    try dsimp only
    rw [hw, if_pos (by omega), show 0 + (52 * j + k - 52 * j) = k by omega]
  · rw [if_pos ha, if_pos ha, if_pos ha, if_neg z, if_neg z, if_neg z]
    refine MN_congr (h j (by omega)) (hok j (by omega)).1 (fun k hk => ?_)
    try dsimp only
    rw [hw, if_neg (by omega)]
theorem M_remembers_s (h : MPil was a sn sd sv) (hok : okP a sn sd sv) (ha : a ≤ 8) (hm : MN st n d v) (hn : n ≤ 10) : ∃ w', f_X10_remembers (nI a) st was = some (nI (pshN 8 a), w') ∧ MPil w' (pshN 8 a) (psh 8 a sn n) (psh 8 a sd d) (psh 8 a sv v) := by
  unfold f_X10_remembers
  by_cases q : a < 8
  · obtain ⟨w', h1, h2⟩ := M_copies_s (a := 52 * a) (b := 0) (m := 52) (n1 := 416) (n3 := 52) (f := was) (g := st) (by omega) (by omega) (by omega) (by omega)
    rw [l8, if_neg (fun z => absurd (nI_inj (by omega) (by omega) z) (by omega)), l52, pk_mul, l0, h1, bnd_some, l1, nI_add]
    unfold pshN
    rw [if_pos q]
    exact ⟨w', rfl, mpil_top h hok q hm hn h2⟩
  · have e : a = 8 := by omega
    subst e
    obtain ⟨r, h1, h2⟩ := lp_FU (b := u2 b_X10_remembers_1) (fun t s => s.1 = nI t ∧ ∀ j, s.2 j = if j < t then was (j + 52) else was j) (fun r => ∀ j, r.2 j = if j < 364 then was (j + 52) else was j) 364 (nI 0, was) (by omega) ⟨rfl, fun j => by rw [if_neg (by omega)]⟩ (by
      intro t s ht ⟨e1, e2⟩
      obtain ⟨x, f⟩ := s
      dsimp only at e1 e2
      subst e1
      show (∃ r, b_X10_remembers_1 (nI t) f = some (.inr r) ∧ _) ∨ (_ ∧ ∃ s', b_X10_remembers_1 (nI t) f = some (.inl s') ∧ _)
      unfold b_X10_remembers_1
      by_cases q : t < 364
      · refine Or.inr ⟨q, ?_⟩
        simp (disch := omega) only [l0, l1, l2, l3, l4, l5, l6, l7, l8, l9, l10, l12, l20, l24, l30, l31, l32, l40, l47, l48, l50, l52, l57, l60, l72, l79, l90, l98, l99, l100, l103, l104, l126, l200, l360, l364, l416, l999, l1000, l1024, nI_add, pk_mul, nIsub, nIdiv, nIrem, nIle, nIlt, nIeq, rd_s, wr_s, bnd_some, u2, u3, u4, u5, u6, u7, if_pos, if_neg, ne_eq, not_false_eq_true, Nat.add_sub_cancel, if_true, if_false]
        refine ⟨_, rfl, rfl, fun j => ?_⟩
        try dsimp only
        by_cases z : j = t
        · rw [if_pos z, if_pos (by omega), e2, if_neg (by omega), z]
        · rw [if_neg z, e2]
          by_cases z2 : j < t
          · rw [if_pos z2, if_pos (by omega)]
          · rw [if_neg z2, if_neg (by omega)]
      · have : t = 364 := by omega
        subst this
        refine Or.inl ?_
        simp (disch := omega) only [l0, l1, l2, l3, l4, l5, l6, l7, l8, l9, l10, l12, l20, l24, l30, l31, l32, l40, l47, l48, l50, l52, l57, l60, l72, l79, l90, l98, l99, l100, l103, l104, l126, l200, l360, l364, l416, l999, l1000, l1024, nI_add, pk_mul, nIsub, nIdiv, nIrem, nIle, nIlt, nIeq, rd_s, wr_s, bnd_some, u2, u3, u4, u5, u6, u7, if_pos, if_neg, ne_eq, not_false_eq_true, Nat.add_sub_cancel, if_true, if_false]
        exact ⟨_, rfl, e2⟩)
    obtain ⟨x, f⟩ := r
    dsimp only at h2
    obtain ⟨w', h3, h4⟩ := M_copies_s (a := 52 * 7) (b := 0) (m := 52) (n1 := 416) (n3 := 52) (f := f) (g := st) (by omega) (by omega) (by omega) (by omega)
    rw [if_pos (show nI 8 = (8 : Int32) from rfl), l0, h1, bnd_some]
    dsimp only [u2]
    rw [l1, nIsub (by omega), l52, pk_mul, h3, bnd_some, nI_add]
    refine ⟨w', rfl, ?_⟩
    have h5 : MPil f 7 (fun j => sn (j + 1)) (fun j => sd (j + 1)) (fun j => sv (j + 1)) := by
      intro j hj
      refine MN_congr (h (j + 1) (by omega)) (hok (j + 1) (by omega)).1 (fun k hk => ?_)
      try dsimp only
      rw [h2, if_pos (by omega), show 52 * j + k + 52 = 52 * (j + 1) + k by omega]
    have h6 := mpil_top (N := 8) h5 (fun j hj => hok (j + 1) (by omega)) (by omega) hm hn h4
    intro j hj
    have g := h6 j (by unfold pshN at hj; simpa using hj)
    unfold psh at g ⊢
    simpa using g
theorem M_undo_s (h : MPil was a sn sd sv) (hok : okP a sn sd sv) (ha : a ≤ 8) (h0 : 0 < a) (st : Nat → Int32) : ∃ st', f_X10_undo (nI a) st was = some (nI (a - 1), st', nI (a - 1)) ∧ MN st' (sn (a - 1)) (sd (a - 1)) (sv (a - 1)) := by
  obtain ⟨st', h1, h2⟩ := M_copies_s (a := 0) (b := 52 * (a - 1)) (m := 52) (n1 := 52) (n3 := 416) (f := st) (g := was) (by omega) (by omega) (by omega) (by omega)
  unfold f_X10_undo
  rw [if_neg (show ¬ nI a = (0 : Int32) from nI_ne0 h0 (by omega)), l0, l1, nIsub (by omega), l52, pk_mul, h1, bnd_some]
  refine ⟨st', rfl, MN_congr (h (a - 1) (by omega)) (hok (a - 1) (by omega)).1 (fun k hk => ?_)⟩
  try dsimp only
  rw [h2, if_pos (by omega), show 52 * (a - 1) + (k - 0) = 52 * (a - 1) + k by omega]
theorem M_keep_s (h : MPil was a sn sd sv) (hok : okP a sn sd sv) (ha : a < 2) (hm : MN st n d v) (hn : n ≤ 10) : ∃ w', f_X10_keep (nI a) st was = some (nI (a + 1), nI (a + 1), w') ∧ MPil w' (a + 1) (psh 2 a sn n) (psh 2 a sd d) (psh 2 a sv v) := by
  obtain ⟨w', h1, h2⟩ := M_copies_s (a := 52 * a) (b := 0) (m := 52) (n1 := 104) (n3 := 52) (f := was) (g := st) (by omega) (by omega) (by omega) (by omega)
  unfold f_X10_keep
  rw [l2, if_neg (fun z => absurd (nI_inj (by omega) (by omega) z) (by omega)), l52, pk_mul, l0, h1, bnd_some, l1, nI_add]
  exact ⟨w', rfl, mpil_top h hok ha hm hn h2⟩
theorem M_back_s (h : MPil was a sn sd sv) (hok : okP a sn sd sv) (ha : a ≤ 2) (h0 : 0 < a) (k : Int32) (st : Nat → Int32) : ∃ st', f_X10_back k (nI a) st was = some (nI (a - 1), st', nI 0, nI (a - 1)) ∧ MN st' (sn (a - 1)) (sd (a - 1)) (sv (a - 1)) := by
  obtain ⟨st', h1, h2⟩ := M_copies_s (a := 0) (b := 52 * (a - 1)) (m := 52) (n1 := 52) (n3 := 104) (f := st) (g := was) (by omega) (by omega) (by omega) (by omega)
  unfold f_X10_back
  rw [if_neg (show ¬ nI a = (0 : Int32) from nI_ne0 h0 (by omega)), l0, l1, nIsub (by omega), l52, pk_mul, h1, bnd_some]
  refine ⟨st', rfl, MN_congr (h (a - 1) (by omega)) (hok (a - 1) (by omega)).1 (fun k hk => ?_)⟩
  try dsimp only
  rw [h2, if_pos (by omega), show 52 * (a - 1) + (k - 0) = 52 * (a - 1) + k by omega]
end P2
