/-! pairs, what is left over, the counts: on both sides -/
theorem mxk_or {p : Nat → Bool} {f : Nat → Nat} {b : Nat} : ∀ n, mxk p f b n = b ∨ ∃ k, k < n ∧ p k = true ∧ f k = mxk p f b n
  | 0 => Or.inl rfl
  | n + 1 => by
    rw [mxk]
    by_cases q : p n = true
    · rw [if_pos q]
      by_cases c : mxk p f b n ≤ f n
      · exact Or.inr ⟨n, Nat.lt_succ_self n, q, (Nat.max_eq_right c).symm⟩
      · rw [Nat.max_eq_left (by omega)]
        rcases mxk_or (p := p) (f := f) (b := b) n with h | ⟨k, h1, h2, h3⟩
        · exact Or.inl h
        · exact Or.inr ⟨k, by omega, h2, h3⟩
    · rw [if_neg q]
      rcases mxk_or (p := p) (f := f) (b := b) n with h | ⟨k, h1, h2, h3⟩
      · exact Or.inl h
      · exact Or.inr ⟨k, by omega, h2, h3⟩
theorem run_sum {v : Nat → Nat → Nat} {n d : Nat} : ∀ j, j ≤ n → EE v n d 100 (n - j) (run v n d 100 j).1 + 100 * (run v n d 100 j).2.1 = EE v n d 100 n 0 + (run v n d 100 j).2.2.1
  | 0, _ => rfl
  | j + 1, h => by
    have ih := run_sum (v := v) (n := n) (d := d) j (by omega)
    rw [run]
    rcases hr : run v n d 100 j with ⟨G, u, a, p⟩
    rw [hr] at ih
    dsimp only at ih ⊢
    by_cases c : v j 1 = 0 ∧ chk v n d 100 j G < n
    · rw [if_pos c]
      have hk := chk_ok c.2
      have h1 := (sAl_r hk.1).2.2
      try dsimp only
      omega
    · rw [if_neg c]
      try dsimp only
      have e : EE v n d 100 (n - j) G = EE v n d 100 (n - (j + 1)) G := by
        rw [show n - j = (n - (j + 1)) + 1 by omega, EE, show n - (n - (j + 1) + 1) = j by omega]
        by_cases z : v j 1 = 0
        · rw [if_pos z]
          rcases mxk_or (p := fun k => sAl v j k d && !G.testBit k) (f := fun k => EE v n d 100 (n - (j + 1)) (G ||| 2 ^ k) + 100 - adf (sSize v j d) (sSize v k d)) (b := EE v n d 100 (n - (j + 1)) G) n with h2 | ⟨k, h1, h2, h3⟩
          · exact h2
          · exfalso
            apply c
            refine ⟨z, ?_⟩
            by_cases t : chk v n d 100 j G < n
            · exact t
            · exfalso
              have hk : chp v n d 100 j G k = true := by
                unfold chp
                have h2 : (sAl v j k d && !G.testBit k) = true := h2
                rw [h2, Bool.true_and]
                refine decide_eq_true ?_
                rw [show n - j = (n - (j + 1)) + 1 by omega, EE, show n - (n - (j + 1) + 1) = j by omega, if_pos z]
                exact h3
              have := ff_before (p := chp v n d 100 j G) n 0 k (Nat.zero_le _) (by unfold chk at t; omega)
              rw [hk] at this
              cases this
        · rw [if_neg z]
      omega
def mt (p : Nat → Int32) (i : Nat) : Bool := decide (¬ p i < 0)
theorem run_cnt {v : Nat → Nat → Nat} {n d : Nat} (hn : n ≤ 10) : ∀ j, j ≤ n → cnt (fun i => decide (v i 1 = 0) && mt (run v n d 100 j).2.2.2 i) n = (run v n d 100 j).2.1 ∧ cnt (fun i => decide (v i 1 = 1) && mt (run v n d 100 j).2.2.2 i) n = (run v n d 100 j).2.1 ∧ (∀ i, j ≤ i → i < n → v i 1 = 0 → mt (run v n d 100 j).2.2.2 i = false) ∧ (∀ i, i < n → v i 1 = 1 → mt (run v n d 100 j).2.2.2 i = (run v n d 100 j).1.testBit i)
  | 0, _ => by
    have hm : ∀ i, mt (run v n d 100 0).2.2.2 i = false := fun i => by
      show decide (¬ (-4 : Int32) < 0) = false
      decide
    have z : ∀ (q : Nat → Bool) (m : Nat), (∀ i, q i = false) → cnt q m = 0 := by
      intro q m hq
      induction m with
      | zero => rfl
      | succ m ih => rw [cnt, if_neg (by rw [hq]; decide), ih]
    refine ⟨z _ n (fun i => by rw [hm, Bool.and_false]), z _ n (fun i => by rw [hm, Bool.and_false]), fun i _ _ _ => hm i, fun i _ _ => ?_⟩
    rw [hm]
    simp [run]
  | j + 1, h => by
    have ih := run_cnt (v := v) (n := n) (d := d) hn j (by omega)
    rw [run]
    rcases hr : run v n d 100 j with ⟨G, u, a, p⟩
    rw [hr] at ih
    dsimp only at ih ⊢
    obtain ⟨i1, i2, i3, i4⟩ := ih
    by_cases c : v j 1 = 0 ∧ chk v n d 100 j G < n
    · rw [if_pos c]
      have hk := chk_ok c.2
      have h1 := sAl_r hk.1
      have c2 := c.2
      generalize chk v n d 100 j G = k at c2 hk h1 ⊢
      have hjk : j ≠ k := by
        intro e
        subst e
        omega
      try dsimp only
      have hm : ∀ i, mt (fun i => if i = k then nI j else if i = j then nI k else p i) i = (mt p i || decide (k = i) || decide (j = i)) := by
        intro i
        unfold mt
        by_cases a1 : i = k
        · subst a1
          simp [nI_pos (show j < 2147483648 by omega)]
        · by_cases a2 : i = j
          · subst a2
            simp [a1, nI_pos (show k < 2147483648 by omega)]
          · have a3 : ¬ k = i := fun e => a1 e.symm
            have a4 : ¬ j = i := fun e => a2 e.symm
            simp [a1, a2, a3, a4]
      refine ⟨?_, ?_, fun i g1 g2 g3 => ?_, fun i g1 g2 => ?_⟩
      · rw [cnt_congr (q := fun i => (decide (v i 1 = 0) && mt p i) || decide (j = i)) (fun i hi => ?_), cnt_or (by rw [i3 j (Nat.le_refl j) (by omega) c.1, Bool.and_false]), if_pos (by omega), i1]
        rw [hm]
        by_cases a1 : j = i
        · subst a1
          simp [c.1]
        · by_cases a2 : k = i
          · subst a2
            simp [h1.2.1, a1]
          · simp [a1, a2]
      · rw [cnt_congr (q := fun i => (decide (v i 1 = 1) && mt p i) || decide (k = i)) (fun i hi => ?_), cnt_or (by rw [i4 k c2 h1.2.1, hk.2.1, Bool.and_false]), if_pos c2, i2]
        rw [hm]
        by_cases a1 : k = i
        · subst a1
          simp [h1.2.1]
        · by_cases a2 : j = i
          · subst a2
            simp [c.1, a1]
          · simp [a1, a2]
      · rw [hm, i3 i (by omega) g2 g3]
        have a1 : ¬ k = i := by
          intro e
          subst e
          omega
        have a2 : ¬ j = i := by omega
        simp [a1, a2]
      · rw [hm, i4 i g1 g2, tb_or_bit]
        have a2 : ¬ j = i := by
          intro e
          subst e
          omega
        simp [a2]
    · rw [if_neg c]
      try dsimp only
      exact ⟨i1, i2, fun i g1 g2 g3 => i3 i (by omega) g2 g3, i4⟩
theorem cnt_split (s m : Nat → Bool) : ∀ n, cnt (fun i => s i && !m i) n + cnt (fun i => s i && m i) n = cnt s n
  | 0 => rfl
  | n + 1 => by
    have := cnt_split s m n
    rw [cnt, cnt, cnt]
    cases s n <;> cases m n <;> simp <;> omega
theorem pc_bits (p : Nat → Bool) {n : Nat} (hn : n ≤ 10) : pc (bits p n) = cnt p n := by
  unfold pc
  have : ∀ m, cnt (bits p n).testBit (n + m) = cnt p n := by
    intro m
    induction m with
    | zero => exact cnt_congr fun i hi => by rw [tb_bits]; have : i < n := hi; simp [this]
    | succ m ih =>
      rw [show n + (m + 1) = (n + m) + 1 from rfl, cnt, ih, if_neg]
      rw [tb_bits]
      simp
      intro h
      omega
  have h := this (10 - n)
  rw [show n + (10 - n) = 10 by omega] at h
  exact h
theorem hold2_c (x : Int32) {n : Nat} (hn : n ≤ 10) : f_X9_within x (-2) (nI n - 1) = some (nI 0) ∨ (f_X9_within x (-2) (nI n - 1) = some (nI 1) ∧ (x = -2 ∨ x = -1 ∨ ∃ k, k < n ∧ x = nI k)) := by
  have hb : (nI n - 1).toInt = (n : Int) - 1 := by
    by_cases q : n = 0
    · subst q
      decide
    · rw [show nI n - 1 = nI (n - 1) from nIsub (b := 1) (by omega), nI_toInt (by omega)]
      omega
  have h2 : (-2 : Int32).toInt = -2 := by decide
  unfold f_X9_within
  by_cases q1 : x < -2
  · exact Or.inl (by rw [if_pos q1]; rfl)
  · by_cases q2 : nI n - 1 < x
    · exact Or.inl (by rw [if_neg q1, if_pos q2]; rfl)
    · refine Or.inr ⟨by rw [if_neg q1, if_neg q2]; rfl, ?_⟩
      rw [Int32.lt_iff_toInt_lt, h2] at q1
      rw [Int32.lt_iff_toInt_lt, hb] at q2
      by_cases a1 : x.toInt = -2
      · exact Or.inl (Int32.toInt.inj (by rw [a1, h2]))
      · by_cases a2 : x.toInt = -1
        · exact Or.inr (Or.inl (Int32.toInt.inj (by rw [a2]; decide)))
        · refine Or.inr (Or.inr ⟨x.toInt.toNat, by omega, Int32.toInt.inj ?_⟩)
          rw [nI_toInt (by omega)]
          omega
section AP
variable {xc st : Nat → Int32} {xn xd : Int32}
theorem api_pairs (x : Int32) (hS : RS xc xn xd st) (p1 p2 p3 p4 : Int32) (s0 m0 zs0 r0 : Nat → Int32) (l1 l2 : Int32) (nw L0 R0 b0 w0 : Nat → Int32) : ∃ r a1 a2 a3 a4 a5 a6 a7 a8 c1 c2 c3 c4 c5 c6 c7, f_X9_pairs x xn xd xc p1 p2 p3 p4 s0 m0 zs0 r0 = some (r, a1, a2, a3, a4, a5, a6, a7, a8) ∧ f_X10_pairs x l1 l2 st nw L0 R0 b0 w0 = some (r, c1, c2, c3, c4, c5, c6, c7) := by
  obtain ⟨n, d, v, ok, rfl, rfl, hx, hm⟩ := hS
  have hn := ok.1
  obtain ⟨ma, sz, g1, hl⟩ := X1_look_s hx ok m0 zs0
  obtain ⟨sets, par, g2, hp⟩ := X1_match_s ok hl s0 r0
  obtain ⟨nw', a, b, L, R, best, w, g3, n2, hb, hw⟩ := findPairs_s hm.2.1 hm ok nw L0 R0 b0 w0
  have hu := run_le v n d 100 n
  have hs := run_sum (v := v) (d := d) n (Nat.le_refl n)
  rw [run_base hn n (Nat.le_refl n)] at g2 hp
  rw [Nat.sub_self] at hs
  unfold f_X9_pairs f_X10_pairs
  rw [rd1 (f := st) (by omega)]
  simp only [bnd_some, hm.2.1, M_in_s]
  rcases hold2_c x hn with q | ⟨q, hq⟩
  · rw [q]
    simp only [bnd_some, z0, z1, z10, eq_self, if_true, if_false, Bool.false_eq_true]
    exact ⟨_, _, _, _, _, _, _, _, _, _, _, _, _, _, _, _, rfl, rfl⟩
  · rw [q]
    simp only [bnd_some, z0, z1, z10, eq_self, if_true, if_false, Bool.false_eq_true]
    rw [g1, g3]
    simp only [bnd_some, u4, u7]
    rw [g2]
    simp only [bnd_some, u4]
    rw [rd0 (f := best) (by omega), hb]
    simp only [bnd_some]
    generalize hU : (run v n d 100 n).2.1 = U at *
    generalize hA : (run v n d 100 n).2.2.1 = A at *
    have hE : EE v n d 100 n 0 = 100 * U - A := by
      have : EE v n d 100 0 (run v n d 100 n).1 = 0 := rfl
      omega
    have hAU : A ≤ 100 * U := by
      have : EE v n d 100 0 (run v n d 100 n).1 = 0 := rfl
      omega
    have e1 : (nI (EE v n d 100 n 0) + 99) / 100 = nI U := by
      rw [hE, show nI (100 * U - A) + 99 = nI (100 * U - A + 99) from nI_add _ 99, show nI (100 * U - A + 99) / 100 = nI ((100 * U - A + 99) / 100) from nIdiv (d := 100) (by omega) (by omega) (by omega)]
      have e0 : (100 * U - A + 99) / 100 = U := by omega
      rw [e0]
    have e2 : 100 * nI U - nI (EE v n d 100 n 0) = nI A := by
      rw [hE, show (100 : Int32) * nI U = nI (100 * U) from pk_mul 100 U, nIsub (by omega)]
      have e0 : 100 * U - (100 * U - A) = A := by omega
      rw [e0]
    rw [e1, e2]
    rcases hq with rfl | rfl | ⟨k, hk, rfl⟩
    · rw [if_neg (by decide), if_pos rfl, if_neg (by decide), if_pos rfl]
      exact ⟨_, _, _, _, _, _, _, _, _, _, _, _, _, _, _, _, rfl, rfl⟩
    · rw [if_pos rfl, if_pos rfl]
      exact ⟨_, _, _, _, _, _, _, _, _, _, _, _, _, _, _, _, rfl, rfl⟩
    · have k1 : ¬ nI k = -1 := fun e => nI_pos (show k < 2147483648 by omega) (by rw [e]; decide)
      have k2 : ¬ nI k = -2 := fun e => nI_pos (show k < 2147483648 by omega) (by rw [e]; decide)
      rw [if_neg k1, if_neg k2, if_neg k1, if_neg k2]
      unfold f_X1_partnerOf
      rw [if_neg (nI_pos (by omega)), if_neg (nI_ge hk (by omega)), X9_at_s (show k < 10 by omega) (by omega), rd_s (show k < 10 by omega) (by omega), hp k (by omega), hw k (by omega)]
      simp only [bnd_some]
      exact ⟨_, _, _, _, _, _, _, _, _, _, _, _, _, _, _, _, rfl, rfl⟩
theorem api_leftOver (x : Int32) (hS : RS xc xn xd st) (p1 p2 p3 p4 : Int32) (s0 m0 zs0 r0 : Nat → Int32) (l1 l2 : Int32) (nw L0 R0 b0 w0 : Nat → Int32) : ∃ r a1 a2 a3 a4 a5 a6 a7 a8 c1 c2 c3 c4 c5 c6 c7, f_X9_leftOver x xn xd xc p1 p2 p3 p4 s0 m0 zs0 r0 = some (r, a1, a2, a3, a4, a5, a6, a7, a8) ∧ f_X10_leftOver x l1 l2 st nw L0 R0 b0 w0 = some (r, c1, c2, c3, c4, c5, c6, c7) := by
  obtain ⟨n, d, v, ok, rfl, rfl, hx, hm⟩ := hS
  have hn := ok.1
  obtain ⟨ma, sz, g1, hl⟩ := X1_look_s hx ok m0 zs0
  obtain ⟨sets, par, g2, hp⟩ := X1_match_s ok hl s0 r0
  obtain ⟨nw', a, b, L, R, best, w, g3, n2, hb, hw⟩ := findPairs_s hm.2.1 hm ok nw L0 R0 b0 w0
  have hc := run_cnt (v := v) (d := d) hn n (Nat.le_refl n)
  rw [run_base hn n (Nat.le_refl n)] at g2 hp
  unfold f_X9_leftOver f_X10_leftOver
  rw [isSide_c, M_in_s, show f_X9_within x 0 1 = f_X9_within x (nI 0) (nI 1) from rfl]
  rcases win_c x (a := 0) (b := 1) (by omega) (by omega) with q | ⟨z, z1', z2, rfl, q⟩
  · rw [q]
    simp only [bnd_some, z0, z1, z10, eq_self, if_true, if_false, Bool.false_eq_true]
    exact ⟨_, _, _, _, _, _, _, _, _, _, _, _, _, _, _, _, rfl, rfl⟩
  · rw [q]
    simp only [bnd_some, z0, z1, z10, eq_self, if_true, if_false, Bool.false_eq_true]
    rw [g1, g3]
    simp only [bnd_some, u4, u7]
    rw [g2]
    simp only [bnd_some, u4]
    rw [X4_ofSide_s hx hn ok.2.2 (by omega), bnd_some, bitC_c _ (bits_10 _ hn), bnd_some, pc_bits _ hn]
    have hz : cnt (fun i => decide (v i 1 = z) && mt (run v n d 100 n).2.2.2 i) n = (run v n d 100 n).2.1 := by
      rcases (show z = 0 ∨ z = 1 by omega) with rfl | rfl
      · exact hc.1
      · exact hc.2.1
    have hsp := cnt_split (fun i => decide (v i 1 = z)) (fun i => mt (run v n d 100 n).2.2.2 i) n
    rw [hz] at hsp
    rw [nIsub (by omega), show cnt (fun i => decide (v i 1 = z)) n - (run v n d 100 n).2.1 = cnt (fun i => decide (v i 1 = z) && !mt (run v n d 100 n).2.2.2 i) n by omega]
    rw [show ((0 : Int32), (0 : Int32)) = (fun t => (nI (cnt (fun i => decide (v i 1 = z) && !mt (run v n d 100 n).2.2.2 i) t), nI t)) 0 from rfl]
    rw [lp_seq (b := u2 (b_X10_leftOver_1 st nw' w (nI z))) (fun t => (nI (cnt (fun i => decide (v i 1 = z) && !mt (run v n d 100 n).2.2.2 i) t), nI t)) n (nI (cnt (fun i => decide (v i 1 = z) && !mt (run v n d 100 n).2.2.2 i) n), nI n) (by omega) ?_ ?_]
    · exact ⟨_, _, _, _, _, _, _, _, _, _, _, _, _, _, _, _, rfl, rfl⟩
    · intro t ht
      have o1 := (ok.2.2 t ht).2.1
      dsimp only [u2, b_X10_leftOver_1]
      rw [rd1 (f := st) (by omega), bnd_some, hm.2.1, if_neg (nI_ge ht (by omega)), M_sideOf_s n2 hn ht, bnd_some, rd_s (show t < 10 by omega) (by omega), bnd_some, hw t (by omega), show nI t + 1 = nI (t + 1) from nI_add t 1, show ∀ y, nI y + 1 = nI (y + 1) from fun y => nI_add y 1, show ∀ y, nI y + 0 = nI y from fun y => nI_add y 0, cnt]
      by_cases c : v t 1 = z
      · rw [if_pos (by rw [c])]
        by_cases m : (run v n d 100 n).2.2.2 t < 0
        · rw [if_neg (Int32.not_le.mpr m), if_pos (by unfold mt; simp [c, m])]
        · rw [if_pos (Int32.not_lt.mp m), if_neg (by unfold mt; simp [m])]
      · rw [if_neg (fun e => c (nI_inj (by omega) (by omega) e)), if_neg (by simp [c])]
    · dsimp only [u2, b_X10_leftOver_1]
      rw [rd1 (f := st) (by omega), bnd_some, hm.2.1, if_pos (nI_le (Nat.le_refl _) (by omega))]
end AP
theorem api_count (x : Int32) {xc st : Nat → Int32} {xn xd : Int32} (hS : RS xc xn xd st) {gl gb : Int32} {gk : Int64} {ml mb : Int32} {mk : Nat → Int32} (hG : RG gl gb gk ml mb mk) {xl xr mf : Nat → Int32} {wn ws mn ms : Int32} (hW : RW xl xr wn ws mn mf ms) {hc hl hk : Nat → Int32} {hs mh : Int32} {mr : Nat → Int32} (hH : RH hc hl hk hs mh mr) {tl : Nat → Int32} {tn : Int32} {mt2 : Nat → Int32} {mtn : Int32} (hT : RT tl tn mt2 mtn) {ah ma kh mkk : Int32} (ha : ah = ma) (hk2 : kh = mkk) : ∃ r, f_X9_count x tn xn xd xc wn ws gl gk hs ah kh = some r ∧ f_X10_count x mn ml ms ma mkk mh mtn mk st = some r := by
  obtain ⟨r1, a1, a2⟩ := knots_s hG
  obtain ⟨r2, b1, b2⟩ := holed_s hS
  obtain ⟨n, d, v, ok, rfl, rfl, hx, hm⟩ := hS
  obtain ⟨F, s, fl, fr, hF, hs', rfl, rfl, rfl, rfl, hf⟩ := hW
  obtain ⟨h, wi, wt, wk, hh, rfl, rfl, hj⟩ := hH
  obtain ⟨T, L, hT', rfl, rfl, ht⟩ := hT
  subst ha
  subst hk2
  unfold f_X9_count f_X10_count
  rw [a1, a2, b1, b2, rd1 (f := st) (by omega), rd0 (f := st) (by omega), hm.1, hm.2.1]
  simp only [bnd_some]
  by_cases c0 : x = 0
  · rw [if_pos c0]; exact ⟨_, rfl, rfl⟩
  rw [if_neg c0]
  by_cases c1 : x = 1
  · rw [if_pos c1]; exact ⟨_, rfl, rfl⟩
  rw [if_neg c1]
  by_cases c2 : x = 2
  · rw [if_pos c2]; exact ⟨_, rfl, rfl⟩
  rw [if_neg c2]
  by_cases c3 : x = 3
  · rw [if_pos c3]; exact ⟨_, rfl, rfl⟩
  rw [if_neg c3]
  by_cases c4 : x = 4
  · rw [if_pos c4]; exact ⟨_, rfl, rfl⟩
  rw [if_neg c4]
  by_cases c5 : x = 5
  · rw [if_pos c5]; exact ⟨_, rfl, rfl⟩
  rw [if_neg c5]
  by_cases c6 : x = 6
  · rw [if_pos c6]; exact ⟨_, rfl, rfl⟩
  rw [if_neg c6]
  by_cases c7 : x = 7
  · rw [if_pos c7]; exact ⟨_, rfl, rfl⟩
  rw [if_neg c7]
  by_cases c8 : x = 8
  · rw [if_pos c8]; exact ⟨_, rfl, rfl⟩
  rw [if_neg c8]
  by_cases c9 : x = 9
  · rw [if_pos c9]; exact ⟨_, rfl, rfl⟩
  rw [if_neg c9]
  exact ⟨_, rfl, rfl⟩
