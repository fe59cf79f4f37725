/-! one call on both sides: what only asks, of the shelf, the feet, the walls, the text -/
def RW (xl xr : Nat → Int32) (xn xs : Int32) (mn : Int32) (mf : Nat → Int32) (ms : Int32) : Prop := ∃ (F s : Nat) (fl fr : Nat → Nat), F ≤ 5 ∧ s ≤ 6 ∧ xn = nI F ∧ mn = nI F ∧ xs = nI s ∧ ms = nI s ∧ ∀ f, f < F → fl f ≤ 72 ∧ fr f ≤ 72 ∧ xl f = nI (fl f) ∧ xr f = nI (fr f) ∧ mf (2 * f) = nI (fl f) ∧ mf (2 * f + 1) = nI (fr f)
def RH (xc xl xk : Nat → Int32) (xs : Int32) (mh : Int32) (mr : Nat → Int32) : Prop := ∃ (h : Nat) (wi wt wk : Nat → Nat), h ≤ 8 ∧ xs = nI h ∧ mh = nI h ∧ ∀ j, j < h → wi j ≤ 9 ∧ wt j ≤ 9 ∧ wk j ≤ 1 ∧ xc j = nI (wi j) ∧ xl j = nI (wt j) ∧ xk j = nI (wk j) ∧ mr (3 * j) = nI (wi j) ∧ mr (3 * j + 1) = nI (wt j) ∧ mr (3 * j + 2) = nI (wk j)
def RT (xl : Nat → Int32) (xn : Int32) (ml : Nat → Int32) (mn : Int32) : Prop := ∃ (T : Nat) (L : Nat → Nat), T ≤ 200 ∧ xn = nI T ∧ mn = nI T ∧ ∀ j, j < T → 32 ≤ L j ∧ L j ≤ 126 ∧ xl j = nI (L j) ∧ ml j = nI (L j)
theorem char_id {k : Nat} (hk : k < 127) : vp_nar .char (((nI k).toUInt32 % 65536).toInt32) = nI k := by
  have h : ∀ k, k < 127 → vp_nar .char (((nI k).toUInt32 % 65536).toInt32) = nI k := by decide +kernel
  exact h k hk
theorem api_write (x : Int32) {xl ml : Nat → Int32} {xn mn : Int32} (hT : RT xl xn ml mn) : ∃ r xl' xn' ml' mn', f_X9_write x xn xl = some (r, xl', xn') ∧ f_X10_write x mn ml = some (r, ml', mn') ∧ RT xl' xn' ml' mn' := by
  have hT0 := hT
  obtain ⟨T, L, hT, rfl, rfl, h⟩ := hT
  unfold f_X9_write f_X10_write
  rw [M_in_s, show (32 : Int32) = nI 32 from rfl, show (126 : Int32) = nI 126 from rfl]
  rcases win_c x (a := 32) (b := 126) (by omega) (by omega) with w | ⟨k, h1, h2, rfl, w⟩
  · rw [w]
    simp only [bnd_some, z0, z1, z10, eq_self, if_true, if_false, Bool.false_eq_true]
    exact ⟨_, _, _, _, _, rfl, rfl, hT0⟩
  · rw [w]
    simp only [bnd_some, z0, z1, z10, eq_self, if_true, if_false, Bool.false_eq_true]
    by_cases q : T < 200
    · unfold f_X5_append
      rw [show (200 : Int32) = nI 200 from rfl, if_pos (nI_lt q (by omega)), if_neg (show ¬ nI T = nI 200 from fun e => absurd (nI_inj (by omega) (by omega) e) (by omega)), show (0 : Int32) = nI 0 from rfl, if_neg (show ¬ nI T < nI 0 from nI_pos (by omega)), if_neg (nI_ge q (by omega)), char_id (by omega), wr_s (by omega) (by omega), wr_s (by omega) (by omega)]
      simp only [bnd_some, u2]
      rw [l1, nI_add]
      refine ⟨_, _, _, _, _, rfl, rfl, T + 1, fun j => if j = T then k else L j, by omega, rfl, rfl, fun j hj => ?_⟩
      try dsimp only
      by_cases e : j = T
      · subst e
        simp only [if_true]
        exact ⟨h1, h2, trivial, trivial⟩
      · simp only [e, if_false]
        exact h j (by omega)
    · have e : T = 200 := by omega
      subst e
      rw [if_neg (by decide), if_pos (show nI 200 = (200 : Int32) from rfl)]
      exact ⟨_, _, _, _, _, rfl, rfl, hT0⟩
theorem api_wipe {xl ml : Nat → Int32} {xn mn : Int32} (hT : RT xl xn ml mn) : ∃ r xn' mn', f_X9_wipe xn = some (r, xn') ∧ f_X10_wipe mn = some (r, mn') ∧ RT xl xn' ml mn' := by
  obtain ⟨T, L, hT, rfl, rfl, h⟩ := hT
  exact ⟨_, _, _, rfl, rfl, 0, L, by omega, rfl, rfl, fun j hj => by omega⟩
theorem api_forget {xc xl xk : Nat → Int32} {xs mh : Int32} {mr : Nat → Int32} (hH : RH xc xl xk xs mh mr) : ∃ r xs' mh', f_X9_forget xs = some (r, xs') ∧ f_X10_forget mh = some (r, mh') ∧ RH xc xl xk xs' mh' mr := by
  obtain ⟨h, wi, wt, wk, hh, rfl, rfl, hj⟩ := hH
  exact ⟨_, _, _, rfl, rfl, 0, wi, wt, wk, by omega, rfl, rfl, fun j hj => by omega⟩
theorem api_heard (x1 x2 x3 : Int32) {xc xl xk : Nat → Int32} {xs mh : Int32} {mr : Nat → Int32} (hH : RH xc xl xk xs mh mr) : ∃ r a b c d e g, f_X9_heard x1 x2 x3 xs xc xl xk = some (r, a, b, c, d) ∧ f_X10_heard x1 x2 x3 mh mr = some (r, e, g) ∧ RH a b c d e g := by
  have hH0 := hH
  obtain ⟨h, wi, wt, wk, hh, rfl, rfl, hj⟩ := hH
  unfold f_X9_heard f_X10_heard
  rw [M_in_s, M_in_s, M_in_s, show (0 : Int32) = nI 0 from rfl, show (9 : Int32) = nI 9 from rfl, show (1 : Int32) = nI 1 from rfl]
  rcases win_c x1 (a := 0) (b := 9) (by omega) (by omega) with w | ⟨i, i1, i2, rfl, w⟩
  · rw [w]
    simp only [bnd_some, z0, z1, z10, eq_self, if_true, if_false, Bool.false_eq_true]
    exact ⟨_, _, _, _, _, _, _, rfl, rfl, hH0⟩
  · rw [w]
    simp only [bnd_some, z1, if_false]
    rcases win_c x2 (a := 1) (b := 9) (by omega) (by omega) with w | ⟨t, t1, t2, rfl, w⟩
    · rw [w]
      simp only [bnd_some, z0, if_true]
      exact ⟨_, _, _, _, _, _, _, rfl, rfl, hH0⟩
    · rw [w]
      simp only [bnd_some, z1, if_false]
      rcases win_c x3 (a := 0) (b := 1) (by omega) (by omega) with w | ⟨k, k1, k2, rfl, w⟩
      · rw [w]
        simp only [bnd_some, z0, if_true]
        exact ⟨_, _, _, _, _, _, _, rfl, rfl, hH0⟩
      · rw [w]
        simp only [bnd_some, z1, if_false]
        by_cases q : h < 8
        · unfold f_X7_add
          rw [show (8 : Int32) = nI 8 from rfl, if_pos (nI_lt q (by omega)), if_neg (show ¬ nI h = nI 8 from fun e => absurd (nI_inj (by omega) (by omega) e) (by omega)), if_neg (nI_ge q (by omega)), X9_put_s q (by omega), X9_put_s q (by omega), X9_put_s q (by omega)]
          simp only [bnd_some, u4]
          simp (disch := omega) only [l0, l1, l2, l3, l4, l5, l6, l7, l8, l9, l10, l12, l20, l24, l30, l31, l32, l40, l47, l48, l50, l52, l57, l60, l72, l79, l90, l98, l99, l100, l103, l104, l126, l200, l360, l364, l416, l999, l1000, l1024, nI_add, pk_mul, nIsub, nIdiv, nIrem, nIle, nIlt, nIeq, rd_s, wr_s, bnd_some, u2, u3, u4, u5, u6, u7, if_pos, if_neg, ne_eq, not_false_eq_true, Nat.add_sub_cancel, if_true, if_false]
          refine ⟨_, _, _, _, _, _, _, rfl, rfl, h + 1, fun j => if j = h then i else wi j, fun j => if j = h then t else wt j, fun j => if j = h then k else wk j, by omega, rfl, rfl, fun j hj2 => ?_⟩
          try dsimp only
          by_cases e : j = h
          · subst e
            simp (disch := omega) only [l0, l1, l2, l3, l4, l5, l6, l7, l8, l9, l10, l12, l20, l24, l30, l31, l32, l40, l47, l48, l50, l52, l57, l60, l72, l79, l90, l98, l99, l100, l103, l104, l126, l200, l360, l364, l416, l999, l1000, l1024, nI_add, pk_mul, nIsub, nIdiv, nIrem, nIle, nIlt, nIeq, rd_s, wr_s, bnd_some, u2, u3, u4, u5, u6, u7, if_pos, if_neg, ne_eq, not_false_eq_true, Nat.add_sub_cancel, if_true, if_false]
            refine ⟨i2, t2, k2, trivial, trivial, trivial, trivial, trivial, trivial⟩
          · obtain ⟨a0, a1, a2, a3, a4, a5, a6, a7, a8⟩ := hj j (by omega)
            simp (disch := omega) only [l0, l1, l2, l3, l4, l5, l6, l7, l8, l9, l10, l12, l20, l24, l30, l31, l32, l40, l47, l48, l50, l52, l57, l60, l72, l79, l90, l98, l99, l100, l103, l104, l126, l200, l360, l364, l416, l999, l1000, l1024, nI_add, pk_mul, nIsub, nIdiv, nIrem, nIle, nIlt, nIeq, rd_s, wr_s, bnd_some, u2, u3, u4, u5, u6, u7, if_pos, if_neg, ne_eq, not_false_eq_true, Nat.add_sub_cancel, if_true, if_false, a3, a4, a5, a6, a7, a8]
            exact ⟨a0, a1, a2, trivial, trivial, trivial, trivial, trivial, trivial⟩
        · have e : h = 8 := by omega
          subst e
          rw [if_neg (by decide), if_pos (show nI 8 = (8 : Int32) from rfl)]
          exact ⟨_, _, _, _, _, _, _, rfl, rfl, hH0⟩
section Q2
variable {xc st : Nat → Int32} {xn xd : Int32}
theorem api_clog (x1 x2 : Int32) (nw : Nat → Int32) (hS : RS xc xn xd st) : ∃ r nw', f_X9_clog x1 x2 xn xd xc = some r ∧ f_X10_clog x1 x2 st nw = some (r, nw') := by
  obtain ⟨n, d, v, ok, rfl, rfl, hx, hm⟩ := hS
  have hn := ok.1
  have hd := ok.2.1
  obtain ⟨nw', n1, n2⟩ := M_asItIs_s hm ok.1 nw
  unfold f_X9_clog f_X10_clog f_X10_isClog f_X4_holds
  rw [rd1 (f := st) (by omega)]
  simp only [bnd_some, hm.2.1, M_in_s]
  rcases hold_c x1 hn with h | ⟨i, hi, rfl, h⟩
  · rw [h]
    simp only [bnd_some, z0, if_true]
    exact ⟨_, _, rfl, rfl⟩
  · rw [h]
    simp only [bnd_some, z1, if_false]
    rw [n1]
    simp only [bnd_some]
    rw [show (0 : Int32) = nI 0 from rfl, show (4 : Int32) = nI 4 from rfl]
    have o := ok.2.2 i hi
    rcases win_c x2 (a := 0) (b := 4) (by omega) (by omega) with w | ⟨k, k1, k2, rfl, w⟩
    · rw [w]
      simp only [bnd_some, z0, if_true]
      have e : ∀ k, k ≤ 4 → ¬ x2 = nI k := by
        intro k hk e
        subst e
        unfold f_X9_within at w
        rw [if_neg (nI_nlt (Nat.zero_le _) (by omega)), if_neg (nI_nlt hk (by omega))] at w
        revert w; decide
      rw [if_neg (e 0 (by omega)), if_neg (show ¬ x2 = 1 from e 1 (by omega)), if_neg (show ¬ x2 = 2 from e 2 (by omega)), if_neg (show ¬ x2 = 3 from e 3 (by omega)), if_neg (e 4 (by omega))]
      exact ⟨_, _, rfl, rfl⟩
    · rw [w]
      simp only [bnd_some, z1, if_false]
      have g := (hm.2.2 i hi).2.2.2.2
      rcases (show k = 0 ∨ k = 1 ∨ k = 2 ∨ k = 3 ∨ k = 4 by omega) with rfl | rfl | rfl | rfl | rfl
      · simp (disch := omega) only [l0, l1, l2, l3, l4, l5, l6, l7, l8, l9, l10, l12, l20, l24, l30, l31, l32, l40, l47, l48, l50, l52, l57, l60, l72, l79, l90, l98, l99, l100, l103, l104, l126, l200, l360, l364, l416, l999, l1000, l1024, nI_add, pk_mul, nIsub, nIdiv, nIrem, nIle, nIlt, nIeq, rd_s, wr_s, bnd_some, u2, u3, u4, u5, u6, u7, if_pos, if_neg, ne_eq, not_false_eq_true, Nat.add_sub_cancel, if_true, if_false, X4_cell_s hx hn hi, M_kindOf_s n2 hn hi]
        exact ⟨_, _, rfl, rfl⟩
      · simp (disch := omega) only [l0, l1, l2, l3, l4, l5, l6, l7, l8, l9, l10, l12, l20, l24, l30, l31, l32, l40, l47, l48, l50, l52, l57, l60, l72, l79, l90, l98, l99, l100, l103, l104, l126, l200, l360, l364, l416, l999, l1000, l1024, nI_add, pk_mul, nIsub, nIdiv, nIrem, nIle, nIlt, nIeq, rd_s, wr_s, bnd_some, u2, u3, u4, u5, u6, u7, if_pos, if_neg, ne_eq, not_false_eq_true, Nat.add_sub_cancel, if_true, if_false, X4_cell_s hx hn hi, M_sideOf_s n2 hn hi]
        exact ⟨_, _, rfl, rfl⟩
      · simp (disch := omega) only [l0, l1, l2, l3, l4, l5, l6, l7, l8, l9, l10, l12, l20, l24, l30, l31, l32, l40, l47, l48, l50, l52, l57, l60, l72, l79, l90, l98, l99, l100, l103, l104, l126, l200, l360, l364, l416, l999, l1000, l1024, nI_add, pk_mul, nIsub, nIdiv, nIrem, nIle, nIlt, nIeq, rd_s, wr_s, bnd_some, u2, u3, u4, u5, u6, u7, if_pos, if_neg, ne_eq, not_false_eq_true, Nat.add_sub_cancel, if_true, if_false, X4_sizeOn_s hx hn hi o (Nat.le_refl d) (by omega), M_sizeOf_s n2 hn hi o (by omega)]
        exact ⟨_, _, rfl, rfl⟩
      · simp (disch := omega) only [l0, l1, l2, l3, l4, l5, l6, l7, l8, l9, l10, l12, l20, l24, l30, l31, l32, l40, l47, l48, l50, l52, l57, l60, l72, l79, l90, l98, l99, l100, l103, l104, l126, l200, l360, l364, l416, l999, l1000, l1024, nI_add, pk_mul, nIsub, nIdiv, nIrem, nIle, nIlt, nIeq, rd_s, wr_s, bnd_some, u2, u3, u4, u5, u6, u7, if_pos, if_neg, ne_eq, not_false_eq_true, Nat.add_sub_cancel, if_true, if_false, X4_weightOn_s hx hn hi o (Nat.le_refl d) (by omega), M_weightOf_s n2 hn hi o (by omega)]
        exact ⟨_, _, rfl, rfl⟩
      · simp (disch := omega) only [l0, l1, l2, l3, l4, l5, l6, l7, l8, l9, l10, l12, l20, l24, l30, l31, l32, l40, l47, l48, l50, l52, l57, l60, l72, l79, l90, l98, l99, l100, l103, l104, l126, l200, l360, l364, l416, l999, l1000, l1024, nI_add, pk_mul, nIsub, nIdiv, nIrem, nIle, nIlt, nIeq, rd_s, wr_s, bnd_some, u2, u3, u4, u5, u6, u7, if_pos, if_neg, ne_eq, not_false_eq_true, Nat.add_sub_cancel, if_true, if_false, X4_cell_s hx hn hi, g]
        exact ⟨_, _, rfl, rfl⟩
theorem api_mates (x1 : Int32) (nw : Nat → Int32) (hS : RS xc xn xd st) : ∃ r nw', f_X9_mates x1 xn xd xc = some r ∧ f_X10_mates x1 st nw = some (r, nw') := by
  obtain ⟨n, d, v, ok, rfl, rfl, hx, hm⟩ := hS
  have hn := ok.1
  have hd := ok.2.1
  obtain ⟨nw', n1, n2⟩ := M_asItIs_s hm ok.1 nw
  unfold f_X9_mates f_X10_mates f_X10_isClog f_X4_holds
  rw [rd1 (f := st) (by omega)]
  simp only [bnd_some, hm.2.1, M_in_s]
  rcases hold_c x1 hn with h | ⟨i, hi, rfl, h⟩
  · rw [h]
    simp only [bnd_some, z0, if_true]
    exact ⟨_, _, rfl, rfl⟩
  · rw [h]
    simp only [bnd_some, z1, if_false]
    rw [n1, X4_matesOf_s hx hn ok.2.2 hi (Nat.le_refl d) (by omega)]
    simp only [bnd_some]
    rw [show ((0 : Int32), (0 : Int32)) = (fun t => (nI (bits (fun j => sAl v i j d || sAl v j i d) t), nI t)) 0 from rfl]
    rw [lp_seq (b := u2 (b_X10_mates_1 st nw' (nI i))) (fun t => (nI (bits (fun j => sAl v i j d || sAl v j i d) t), nI t)) n (nI (bits (fun j => sAl v i j d || sAl v j i d) n), nI n) (by omega) ?_ ?_]
    · exact ⟨_, _, rfl, rfl⟩
    · intro t ht
      dsimp only [u2, b_X10_mates_1]
      rw [rd1 (f := st) (by omega), bnd_some, hm.2.1, if_neg (nI_ge ht (by omega)), M_areAlike_s n2 hn hi ht (ok.2.2 i hi) (ok.2.2 t ht) (by omega), bnd_some, l1, i_bit (by omega), fa_or, l0, fa_or, Nat.or_zero, nI_add]
      cases q : (sAl v i t d || sAl v t i d)
      · simp only [Bool.false_eq_true, if_true, if_false, z0, z1, z10, eq_self]
        simp [bits, q]
      · simp only [Bool.false_eq_true, if_true, if_false, z0, z1, z10, eq_self]
        simp [bits, q]
    · dsimp only [u2, b_X10_mates_1]
      rw [rd1 (f := st) (by omega), bnd_some, hm.2.1, if_pos (nI_le (Nat.le_refl _) (by omega))]
end Q2
