/-! one call on both sides: the shelf and its piles -/
def RS (xc : Nat → Int32) (xn xd : Int32) (st : Nat → Int32) : Prop := ∃ (n d : Nat) (v : Nat → Nat → Nat), okS n d v ∧ xn = nI n ∧ xd = nI d ∧ XC xc n v ∧ MN st n d v
def RA (N : Nat) (xh : Int32) (pp : Nat → Nat) (CC : Nat → Nat → Int32) (CK CY : Nat → Int32) (ma : Int32) (was : Nat → Int32) : Prop := ∃ (a : Nat) (sn sd : Nat → Nat) (sv : Nat → Nat → Nat → Nat), a ≤ N ∧ xh = nI a ∧ ma = nI a ∧ okP a sn sd sv ∧ XPil N pp CC CK CY a sn sd sv ∧ MPil was a sn sd sv
theorem win_c (x : Int32) {a b : Nat} (ha : a < 2147483648) (hb : b < 2147483648) : f_X9_within x (nI a) (nI b) = some (nI 0) ∨ ∃ k, a ≤ k ∧ k ≤ b ∧ x = nI k ∧ f_X9_within x (nI a) (nI b) = some (nI 1) := by
  unfold f_X9_within
  by_cases q1 : x < nI a
  · exact Or.inl (by rw [if_pos q1]; rfl)
  · by_cases q2 : nI b < x
    · exact Or.inl (by rw [if_neg q1, if_pos q2]; rfl)
    · obtain ⟨k, h1, h2, h3⟩ := i_of hb (i_lt q1) (i_lt q2) ha
      exact Or.inr ⟨k, h1, h2, h3, by rw [if_neg q1, if_neg q2]; rfl⟩
theorem hold_c (x : Int32) {n : Nat} (hn : n ≤ 10) : f_X9_within x 0 (nI n - 1) = some (nI 0) ∨ ∃ k, k < n ∧ x = nI k ∧ f_X9_within x 0 (nI n - 1) = some (nI 1) := by
  by_cases q : n = 0
  · subst q
    refine Or.inl ?_
    unfold f_X9_within
    by_cases q1 : x < 0
    · rw [if_pos q1]; rfl
    · rw [if_neg q1, if_pos]
      · rfl
      · have h1 : (0 : Int32) ≤ x := i_lt q1
        have h2 : (nI 0 - 1) < (0 : Int32) := by decide
        exact Int32.lt_of_lt_of_le h2 h1
  · rw [l1, nIsub (by omega), l0]
    rcases win_c x (a := 0) (b := n - 1) (by omega) (by omega) with h | ⟨k, h1, h2, h3, h4⟩
    · exact Or.inl h
    · exact Or.inr ⟨k, by omega, h3, h4⟩
theorem rd1 {α : Type} {n : Nat} {f : Nat → α} (h : 1 < n) : rd n f 1 = some (f 1) := rd_s (k := 1) h (by omega)
theorem rd0 {α : Type} {n : Nat} {f : Nat → α} (h : 0 < n) : rd n f 0 = some (f 0) := rd_s (k := 0) h (by omega)
section API
variable {xc st : Nat → Int32} {xn xd : Int32}
variable {xh ma : Int32} {pp : Nat → Nat} {CC : Nat → Nat → Int32} {CK CY was : Nat → Int32}
theorem api_pass (x : Int32) (hS : RS xc xn xd st) (hA : RA 8 xh pp CC CK CY ma was) : ∃ r d' p' C' K' Y' h' s' m' w', f_X9_pass x xn xd xc xh pp CC CK CY = some (r, d', p', C', K', Y', h') ∧ f_X10_pass x ma st was = some (r, s', m', w') ∧ RS xc xn d' s' ∧ RA 8 h' p' C' K' Y' m' w' := by
  obtain ⟨n, d, v, ok, rfl, rfl, hx, hm⟩ := hS
  have hA0 := hA
  obtain ⟨a, sn, sd, sv, ha, rfl, rfl, okp, hxp, hmp⟩ := hA
  have hS0 : RS xc (nI n) (nI d) st := ⟨n, d, v, ok, rfl, rfl, hx, hm⟩
  unfold f_X9_pass f_X10_pass
  rw [M_in_s, l1, l60]
  rcases win_c x (a := 1) (b := 60) (by omega) (by omega) with h | ⟨k, h1, h2, rfl, h4⟩
  · rw [h]
    simp only [bnd_some, z0, z1, z10, eq_self, if_true, if_false, Bool.false_eq_true]
    exact ⟨_, _, _, _, _, _, _, _, _, _, rfl, rfl, hS0, hA0⟩
  · have e0 := hm.1
    have hd := ok.2.1
    rw [h4]
    simp only [bnd_some, z0, z1, z10, eq_self, if_true, if_false, Bool.false_eq_true]
    rw [l0, rd_s (by omega) (by omega), bnd_some, e0, nI_add]
    by_cases q : d + k ≤ 999
    · obtain ⟨p', C', K', Y', b1, b2⟩ := X2_push_8 (n := n) (d := d) hxp ha hx ok.1
      obtain ⟨w', b3, b4⟩ := M_remembers_s hmp okp ha hm ok.1
      rw [if_pos (show nI (d + k) ≤ (999 : Int32) from nI_le (b := 999) q (by omega)), if_pos (show nI (d + k) ≤ (999 : Int32) from nI_le (b := 999) q (by omega)), b1, bnd_some, b3, bnd_some]
      dsimp only [u2, u5]
      rw [bnd_some, wr_s (by omega) (by omega), bnd_some, rd_s (by omega) (by omega), bnd_some]
      simp only [eq_self, if_true, e0, nI_add]
      refine ⟨_, _, _, _, _, _, _, _, _, _, rfl, rfl, ⟨n, d + k, v, okS_pass ok (by omega) q, rfl, rfl, hx, ?_⟩, ⟨pshN 8 a, _, _, _, by unfold pshN; split <;> omega, rfl, rfl, okP_psh (by omega) ha okp ok, b2, b4⟩⟩
      refine ⟨by dsimp only; rw [if_pos rfl], ?_, fun i hi => ?_⟩
      · try dsimp only
        rw [if_neg (by omega)]
        exact hm.2.1
      · have g := hm.2.2 i hi
        try dsimp only
        rw [if_neg (by omega), if_neg (by omega), if_neg (by omega), if_neg (by omega), if_neg (by omega)]
        exact g
    · have z : ¬ nI (d + k) ≤ (999 : Int32) := fun z => q ((nIle (b := 999) (by omega) (by omega)).mp z)
      rw [if_neg z, if_neg z]
      exact ⟨_, _, _, _, _, _, _, _, _, _, rfl, rfl, hS0, hA0⟩
theorem isClog_c (x1 x2 x3 x4 : Int32) : (f_X9_isClog x1 x2 x3 x4 = some (nI 0) ∧ f_X10_isOne x1 x2 x3 x4 = some (nI 0)) ∨ ∃ k s z w, k ≤ 3 ∧ s ≤ 1 ∧ 12 ≤ z ∧ z ≤ 72 ∧ 1 ≤ w ∧ w ≤ 40 ∧ x1 = nI k ∧ x2 = nI s ∧ x3 = nI z ∧ x4 = nI w ∧ f_X9_isClog x1 x2 x3 x4 = some (nI 1) ∧ f_X10_isOne x1 x2 x3 x4 = some (nI 1) := by
  unfold f_X9_isClog f_X10_isOne
  rw [M_in_s, M_in_s, M_in_s, M_in_s, show (0 : Int32) = nI 0 from rfl, show (3 : Int32) = nI 3 from rfl, show (1 : Int32) = nI 1 from rfl, show (12 : Int32) = nI 12 from rfl, show (72 : Int32) = nI 72 from rfl, show (40 : Int32) = nI 40 from rfl]
  have hside : f_X9_isSide x2 = f_X9_within x2 (nI 0) (nI 1) := by
    unfold f_X9_isSide
    rcases win_c x2 (a := 0) (b := 1) (by omega) (by omega) with h | ⟨k, h1, h2, rfl, h4⟩
    · rw [h]
      have z0 : ¬ x2 = 0 := by
        intro e; subst e
        revert h; decide
      have z1 : ¬ x2 = 1 := by
        intro e; subst e
        revert h; decide
      rw [if_neg z0, if_neg z1]; rfl
    · rw [h4]
      rcases (show k = 0 ∨ k = 1 by omega) with rfl | rfl
      · rfl
      · rfl
  rw [hside]
  rcases win_c x1 (a := 0) (b := 3) (by omega) (by omega) with h | ⟨k, k1, k2, rfl, k4⟩
  · exact Or.inl (by rw [h]; exact ⟨rfl, rfl⟩)
  · rw [k4]
    simp only [bnd_some, z0, z1, if_true, if_false]
    rcases win_c x2 (a := 0) (b := 1) (by omega) (by omega) with h | ⟨s, s1, s2, rfl, s4⟩
    · exact Or.inl (by rw [h]; exact ⟨rfl, rfl⟩)
    · rw [s4]
      simp only [bnd_some, z0, z1, if_true, if_false]
      rcases win_c x3 (a := 12) (b := 72) (by omega) (by omega) with h | ⟨z, w1, w2, rfl, w4⟩
      · exact Or.inl (by rw [h]; exact ⟨rfl, rfl⟩)
      · rw [w4]
        simp only [bnd_some, z0, z1, if_true, if_false]
        rcases win_c x4 (a := 1) (b := 40) (by omega) (by omega) with h | ⟨y, y1, y2, rfl, y4⟩
        · exact Or.inl (by rw [h]; exact ⟨rfl, rfl⟩)
        · rw [y4]
          exact Or.inr ⟨k, s, z, y, k2, s2, w1, w2, y1, y2, rfl, rfl, rfl, rfl, rfl, rfl⟩
theorem api_come (x1 x2 x3 x4 : Int32) (hS : RS xc xn xd st) (hA : RA 8 xh pp CC CK CY ma was) : ∃ r c' n' p' C' K' Y' h' s' m' w', f_X9_come x1 x2 x3 x4 xn xd xc xh pp CC CK CY = some (r, c', n', p', C', K', Y', h') ∧ f_X10_come x1 x2 x3 x4 ma st was = some (r, s', m', w') ∧ RS c' n' xd s' ∧ RA 8 h' p' C' K' Y' m' w' := by
  obtain ⟨n, d, v, ok, rfl, rfl, hx, hm⟩ := hS
  have hA0 := hA
  obtain ⟨a, sn, sd, sv, ha, rfl, rfl, okp, hxp, hmp⟩ := hA
  have hS0 : RS xc (nI n) (nI d) st := ⟨n, d, v, ok, rfl, rfl, hx, hm⟩
  unfold f_X9_come f_X10_come
  rcases isClog_c x1 x2 x3 x4 with ⟨h, h'⟩ | ⟨k, s, z, w, k2, s2, z1, z2, w1, w2, rfl, rfl, rfl, rfl, h, h'⟩
  · rw [h, h']
    simp only [bnd_some, z0, z1, z10, eq_self, if_true, if_false, Bool.false_eq_true]
    exact ⟨_, _, _, _, _, _, _, _, _, _, _, rfl, rfl, hS0, hA0⟩
  · rw [h, h']
    simp only [bnd_some, z0, z1, z10, eq_self, if_true, if_false, Bool.false_eq_true]
    rw [show (1 : Int32) = nI 1 from rfl, rd_s (by omega) (by omega), bnd_some, hm.2.1]
    have hn := ok.1
    by_cases q : n < 10
    · obtain ⟨p', C', K', Y', b1, b2⟩ := X2_push_8 (n := n) (d := d) hxp ha hx ok.1
      obtain ⟨w', b3, b4⟩ := M_remembers_s hmp okp ha hm ok.1
      obtain ⟨c', a1, a2⟩ := X4_add_s (d := d) hx q k s z w
      obtain ⟨s', a3, a4⟩ := M_puts_s hm q k s z w
      rw [if_pos (show nI n < (10 : Int32) from nI_lt (b := 10) q (by omega)), if_neg (show ¬ nI n = (10 : Int32) from fun e => absurd (nI_inj (b := 10) (by omega) (by omega) e) (by omega)), b1, bnd_some, b3, bnd_some]
      dsimp only [u2, u5]
      rw [a1, bnd_some, a3, bnd_some]
      dsimp only [u2]
      rw [rd_s (by omega) (by omega), bnd_some, a4.2.1]
      exact ⟨_, _, _, _, _, _, _, _, _, _, _, rfl, rfl, ⟨n + 1, d, _, okS_add ok q k2 s2 ⟨z1, z2⟩ ⟨w1, w2⟩, rfl, rfl, a2, a4⟩, ⟨pshN 8 a, _, _, _, by unfold pshN; split <;> omega, rfl, rfl, okP_psh (by omega) ha okp ok, b2, b4⟩⟩
    · have e : n = 10 := by omega
      subst e
      rw [if_neg (by decide), if_pos (show nI 10 = (10 : Int32) from rfl)]
      exact ⟨_, _, _, _, _, _, _, _, _, _, _, rfl, rfl, hS0, hA0⟩
theorem api_go (x1 x2 : Int32) (nw : Nat → Int32) (hS : RS xc xn xd st) (hA : RA 8 xh pp CC CK CY ma was) : ∃ r c' n' p' C' K' Y' h' s' m' w' nw', f_X9_go x1 x2 xn xd xc xh pp CC CK CY = some (r, c', n', p', C', K', Y', h') ∧ f_X10_go x1 x2 ma st was nw = some (r, s', m', w', nw') ∧ RS c' n' xd s' ∧ RA 8 h' p' C' K' Y' m' w' := by
  obtain ⟨n, d, v, ok, rfl, rfl, hx, hm⟩ := hS
  have hA0 := hA
  obtain ⟨a, sn, sd, sv, ha, rfl, rfl, okp, hxp, hmp⟩ := hA
  have hS0 : RS xc (nI n) (nI d) st := ⟨n, d, v, ok, rfl, rfl, hx, hm⟩
  have hn := ok.1
  have hd := ok.2.1
  obtain ⟨nw', n1, n2⟩ := M_asItIs_s hm ok.1 nw
  unfold f_X9_go f_X10_go f_X10_isClog f_X4_holds
  rw [rd1 (f := st) (by omega)]
  simp only [bnd_some, hm.2.1, M_in_s]
  rcases hold_c x1 hn with h | ⟨i, hi, rfl, h⟩
  · rw [h]
    simp only [bnd_some, z0, if_true]
    exact ⟨_, _, _, _, _, _, _, _, _, _, _, _, rfl, rfl, hS0, hA0⟩
  · rw [h]
    simp only [bnd_some, z1, if_false]
    rcases hold_c x2 hn with h | ⟨j, hj, rfl, h⟩
    · rw [h]
      simp only [bnd_some, z0, if_true]
      exact ⟨_, _, _, _, _, _, _, _, _, _, _, _, rfl, rfl, hS0, hA0⟩
    · rw [h]
      simp only [bnd_some, z1, if_false]
      rw [X4_areAlikeOn_s hx hn hi hj (ok.2.2 i hi) (ok.2.2 j hj) (Nat.le_refl d) (by omega), n1, bnd_some, bnd_some, M_sideOf_s n2 hn hi, bnd_some, M_areAlike_s n2 hn hi hj (ok.2.2 i hi) (ok.2.2 j hj) (by omega), bnd_some]
      by_cases q : sAl v i j d = true
      · have hs0 : v i 1 = 0 := by unfold sAl at q; simp at q; exact q.1
        have hs1 : v j 1 = 1 := by unfold sAl at q; simp at q; exact q.2.1
        have hij : i ≠ j := fun e => by subst e; omega
        obtain ⟨p', C', K', Y', b1, b2⟩ := X2_push_8 (n := n) (d := d) hxp ha hx ok.1
        obtain ⟨w', b3, b4⟩ := M_remembers_s hmp okp ha hm ok.1
        obtain ⟨c', a1, a2⟩ := X4_removeTwo_s hx hn hi hj hij
        rw [q, hs0]
        simp only [Bool.true_or, if_true, z0, z1, if_false]
        rw [b1, b3, bnd_some, bnd_some]
        dsimp only [u2, u5]
        rw [a1, bnd_some]
        dsimp only [u2]
        by_cases q2 : i < j
        · obtain ⟨s1, e1, e2⟩ := M_leaves_s hm hn hj
          obtain ⟨s2, e3, e4⟩ := M_leaves_s (i := i) e2 (by omega) (by omega)
          rw [if_pos (nI_le (by omega) (by omega)), e1, bnd_some, if_pos (nI_le (by omega) (by omega)), e3, bnd_some, rd1 (by omega), bnd_some, e4.2.1]
          rw [if_pos q2, if_pos q2] at a2
          rw [show n - 1 - 1 = n - 2 by omega]
          refine ⟨_, _, _, _, _, _, _, _, _, _, _, _, rfl, rfl, ⟨n - 2, d, _, ?_, rfl, rfl, a2, ?_⟩, ⟨pshN 8 a, _, _, _, by unfold pshN; split <;> omega, rfl, rfl, okP_psh (by omega) ha okp ok, b2, b4⟩⟩
          · have g := okS_del (okS_del ok hj) (i := i) (by omega)
            rw [show n - 1 - 1 = n - 2 by omega] at g
            exact g
          · rw [show n - 1 - 1 = n - 2 by omega] at e4
            exact e4
        · obtain ⟨s1, e1, e2⟩ := M_leaves_s hm hn hi
          obtain ⟨s2, e3, e4⟩ := M_leaves_s (i := j) e2 (by omega) (by omega)
          rw [if_neg (nI_ge (by omega) (by omega)), e1, bnd_some, if_neg (nI_ge (by omega) (by omega)), e3, bnd_some, rd1 (by omega), bnd_some, e4.2.1]
          rw [if_neg q2, if_neg q2] at a2
          rw [show n - 1 - 1 = n - 2 by omega]
          refine ⟨_, _, _, _, _, _, _, _, _, _, _, _, rfl, rfl, ⟨n - 2, d, _, ?_, rfl, rfl, a2, ?_⟩, ⟨pshN 8 a, _, _, _, by unfold pshN; split <;> omega, rfl, rfl, okP_psh (by omega) ha okp ok, b2, b4⟩⟩
          · have g := okS_del (okS_del ok hi) (i := j) (by omega)
            rw [show n - 1 - 1 = n - 2 by omega] at g
            exact g
          · rw [show n - 1 - 1 = n - 2 by omega] at e4
            exact e4
      · have q' : sAl v i j d = false := by simpa using q
        rw [q']
        simp only [Bool.false_or, Bool.false_eq_true, if_false, z0, if_true]
        by_cases qs : v i 1 = 0
        · have q3 : sAl v j i d = false := by
            unfold sAl
            simp only [decide_eq_false_iff_not]
            intro t
            omega
          rw [q3, qs]
          simp only [Bool.false_eq_true, if_false, z0, if_true]
          exact ⟨_, _, _, _, _, _, _, _, _, _, _, _, rfl, rfl, hS0, hA0⟩
        · rw [if_neg (show ¬ nI (v i 1) = (0 : Int32) from fun e => qs (nI_inj (b := 0) (by have := (ok.2.2 i hi).2.1; omega) (by omega) e))]
          exact ⟨_, _, _, _, _, _, _, _, _, _, _, _, rfl, rfl, hS0, hA0⟩
theorem api_hole (x : Int32) (hS : RS xc xn xd st) (hA : RA 8 xh pp CC CK CY ma was) : ∃ r c' p' C' K' Y' h' s' m' w', f_X9_hole x xn xd xc xh pp CC CK CY = some (r, c', p', C', K', Y', h') ∧ f_X10_hole x ma st was = some (r, s', m', w') ∧ RS c' xn xd s' ∧ RA 8 h' p' C' K' Y' m' w' := by
  obtain ⟨n, d, v, ok, rfl, rfl, hx, hm⟩ := hS
  have hA0 := hA
  obtain ⟨a, sn, sd, sv, ha, rfl, rfl, okp, hxp, hmp⟩ := hA
  have hS0 : RS xc (nI n) (nI d) st := ⟨n, d, v, ok, rfl, rfl, hx, hm⟩
  have hn := ok.1
  unfold f_X9_hole f_X10_hole f_X10_isClog f_X4_holds
  rw [rd1 (f := st) (by omega)]
  simp only [bnd_some, hm.2.1, M_in_s]
  rcases hold_c x hn with h | ⟨i, hi, rfl, h⟩
  · rw [h]
    simp only [bnd_some, z0, if_true]
    exact ⟨_, _, _, _, _, _, _, _, _, _, rfl, rfl, hS0, hA0⟩
  · rw [h]
    simp only [bnd_some, z1, if_false]
    have g := hm.2.2 i hi
    have o := ok.2.2 i hi
    have o0 := o.1
    rw [show (0 : Int32) = nI 0 from rfl, X4_cell_s hx hn hi (by omega), bnd_some, show (2 : Int32) + 5 * nI i = nI (2 + 5 * i) from by rw [l2, l5, pk_mul, nI_add], rd_s (by omega) (by omega), bnd_some, g.1]
    by_cases q : v i 0 = 2
    · rw [if_pos (by rw [q]; rfl), if_pos (by rw [q]; rfl)]
      exact ⟨_, _, _, _, _, _, _, _, _, _, rfl, rfl, hS0, hA0⟩
    · have z : ¬ nI (v i 0) = (2 : Int32) := fun e => q (nI_inj (b := 2) (by omega) (by omega) e)
      obtain ⟨p', C', K', Y', b1, b2⟩ := X2_push_8 (n := n) (d := d) hxp ha hx ok.1
      obtain ⟨w', b3, b4⟩ := M_remembers_s hmp okp ha hm ok.1
      obtain ⟨c', a1, a2⟩ := X4_pierce_s hx hn hi
      rw [if_neg z, if_neg z, b1, bnd_some, b3, bnd_some]
      dsimp only [u2, u5]
      rw [a1, bnd_some, wr_s (by omega) (by omega), bnd_some]
      refine ⟨_, _, _, _, _, _, _, _, _, _, rfl, rfl, ⟨n, d, _, okS_hol ok hi, rfl, rfl, a2, ?_⟩, ⟨pshN 8 a, _, _, _, by unfold pshN; split <;> omega, rfl, rfl, okP_psh (by omega) ha okp ok, b2, b4⟩⟩
      refine ⟨?_, ?_, fun j hj => ?_⟩
      · try dsimp only
        rw [if_neg (by omega)]; exact hm.1
      · try dsimp only
        rw [if_neg (by omega)]; exact hm.2.1
      · obtain ⟨g0, g1, g2, g3, g4⟩ := hm.2.2 j hj
        unfold vHol
        by_cases e : j = i
        · subst e
          simp (disch := omega) only [l0, l1, l2, l3, l4, l5, l6, l7, l8, l9, l10, l12, l20, l24, l30, l31, l32, l40, l47, l48, l50, l52, l57, l60, l72, l79, l90, l98, l99, l100, l103, l104, l126, l200, l360, l364, l416, l999, l1000, l1024, nI_add, pk_mul, nIsub, nIdiv, nIrem, nIle, nIlt, nIeq, rd_s, wr_s, bnd_some, u2, u3, u4, u5, u6, u7, if_pos, if_neg, ne_eq, not_false_eq_true, Nat.add_sub_cancel, if_true, if_false, g1, g2, g3, g4, true_and]
          try simp [l2, g1, g2, g3, g4]
        · simp (disch := omega) only [l0, l1, l2, l3, l4, l5, l6, l7, l8, l9, l10, l12, l20, l24, l30, l31, l32, l40, l47, l48, l50, l52, l57, l60, l72, l79, l90, l98, l99, l100, l103, l104, l126, l200, l360, l364, l416, l999, l1000, l1024, nI_add, pk_mul, nIsub, nIdiv, nIrem, nIle, nIlt, nIeq, rd_s, wr_s, bnd_some, u2, u3, u4, u5, u6, u7, if_pos, if_neg, ne_eq, not_false_eq_true, Nat.add_sub_cancel, if_true, if_false, g0, g1, g2, g3, g4, e, false_and]
          try simp [g0, g1, g2, g3, g4]
theorem api_undo (hS : RS xc xn xd st) (hA : RA 8 xh pp CC CK CY ma was) : ∃ r c' n' d' h' s' m', f_X9_undo xn xd xc xh pp CC CK CY = some (r, c', n', d', h') ∧ f_X10_undo ma st was = some (r, s', m') ∧ RS c' n' d' s' ∧ RA 8 h' pp CC CK CY m' was := by
  obtain ⟨n, d, v, ok, rfl, rfl, hx, hm⟩ := hS
  have hA0 := hA
  obtain ⟨a, sn, sd, sv, ha, rfl, rfl, okp, hxp, hmp⟩ := hA
  have hS0 : RS xc (nI n) (nI d) st := ⟨n, d, v, ok, rfl, rfl, hx, hm⟩
  unfold f_X9_undo
  by_cases q : a = 0
  · subst q
    rw [X2_pop0_8, bnd_some]
    dsimp only [u5]
    unfold f_X10_undo
    simp only [bnd_some, z0, z1, z10, eq_self, if_true, if_false, Bool.false_eq_true]
    exact ⟨_, _, _, _, _, _, _, rfl, rfl, hS0, hA0⟩
  · have oks := okp (a - 1) (by omega)
    obtain ⟨c', b1, b2⟩ := X2_pop_8 (c := xc) hxp ha (by omega) oks.1 (nI n) (nI d)
    obtain ⟨s', b3, b4⟩ := M_undo_s hmp okp ha (by omega) st
    rw [b1, bnd_some, b3]
    dsimp only [u5]
    rw [if_neg (show ¬ (1 : Int32) = 0 from by decide)]
    exact ⟨_, _, _, _, _, _, _, rfl, rfl, ⟨sn (a - 1), sd (a - 1), sv (a - 1), oks, rfl, rfl, b2, b4⟩, ⟨a - 1, sn, sd, sv, by omega, rfl, rfl, fun j hj => okp j (by omega), ⟨hxp.1, hxp.2.1, fun j hj => hxp.2.2 j (by omega)⟩, fun j hj => hmp j (by omega)⟩⟩
theorem api_keep (hS : RS xc xn xd st) (hA : RA 2 xh pp CC CK CY ma was) : ∃ r p' C' K' Y' h' m' w', f_X9_keep xn xd xc xh pp CC CK CY = some (r, p', C', K', Y', h') ∧ f_X10_keep ma st was = some (r, m', w') ∧ RA 2 h' p' C' K' Y' m' w' := by
  obtain ⟨n, d, v, ok, rfl, rfl, hx, hm⟩ := hS
  have hA0 := hA
  obtain ⟨a, sn, sd, sv, ha, rfl, rfl, okp, hxp, hmp⟩ := hA
  unfold f_X9_keep
  rw [X2_full_2 ha]
  by_cases q : a < 2
  · obtain ⟨p', C', K', Y', b1, b2⟩ := X2_push_2 (n := n) (d := d) hxp ha hx ok.1
    obtain ⟨w', b3, b4⟩ := M_keep_s hmp okp q hm ok.1
    have e : pshN 2 a = a + 1 := by unfold pshN; rw [if_pos q]
    rw [e] at b1 b2
    rw [if_pos q]
    simp only [bnd_some, z0, z1, z10, eq_self, if_true, if_false, Bool.false_eq_true]
    rw [b1, bnd_some, b3]
    have g := okP_psh (N := 2) (by omega) ha okp ok
    rw [e] at g
    exact ⟨_, _, _, _, _, _, _, _, rfl, rfl, ⟨a + 1, _, _, _, by omega, rfl, rfl, g, b2, b4⟩⟩
  · have e : a = 2 := by omega
    subst e
    unfold f_X10_keep
    rw [if_neg q]
    simp only [bnd_some, z0, z1, z10, eq_self, if_true, if_false, Bool.false_eq_true]
    rw [if_pos (show nI 2 = (2 : Int32) from rfl)]
    exact ⟨_, _, _, _, _, _, _, _, rfl, rfl, hA0⟩
theorem api_back (k1 k2 : Int32) (hS : RS xc xn xd st) (hA : RA 2 xh pp CC CK CY ma was) : ∃ r c' n' d' g' h' s' g2 m', f_X9_back xn xd xc k1 xh pp CC CK CY = some (r, c', n', d', g', h') ∧ f_X10_back k2 ma st was = some (r, s', g2, m') ∧ RS c' n' d' s' ∧ RA 2 h' pp CC CK CY m' was ∧ ((g' = k1 ∧ g2 = k2) ∨ (g' = nI 0 ∧ g2 = nI 0)) := by
  obtain ⟨n, d, v, ok, rfl, rfl, hx, hm⟩ := hS
  have hA0 := hA
  obtain ⟨a, sn, sd, sv, ha, rfl, rfl, okp, hxp, hmp⟩ := hA
  have hS0 : RS xc (nI n) (nI d) st := ⟨n, d, v, ok, rfl, rfl, hx, hm⟩
  unfold f_X9_back
  by_cases q : a = 0
  · subst q
    rw [X2_pop0_2, bnd_some]
    dsimp only [u5]
    unfold f_X10_back
    simp only [bnd_some, z0, z1, z10, eq_self, if_true, if_false, Bool.false_eq_true]
    exact ⟨_, _, _, _, _, _, _, _, _, rfl, rfl, hS0, hA0, Or.inl ⟨rfl, rfl⟩⟩
  · have oks := okp (a - 1) (by omega)
    obtain ⟨c', b1, b2⟩ := X2_pop_2 (c := xc) hxp ha (by omega) oks.1 (nI n) (nI d)
    obtain ⟨s', b3, b4⟩ := M_back_s hmp okp ha (by omega) k2 st
    rw [b1, bnd_some, b3]
    dsimp only [u5]
    rw [if_neg (show ¬ (1 : Int32) = 0 from by decide)]
    unfold f_X2_clear_8
    rw [bnd_some]
    exact ⟨_, _, _, _, _, _, _, _, _, rfl, rfl, ⟨sn (a - 1), sd (a - 1), sv (a - 1), oks, rfl, rfl, b2, b4⟩, ⟨a - 1, sn, sd, sv, by omega, rfl, rfl, fun j hj => okp j (by omega), ⟨hxp.1, hxp.2.1, fun j hj => hxp.2.2 j (by omega)⟩, fun j hj => hmp j (by omega)⟩, Or.inr ⟨rfl, rfl⟩⟩
end API
