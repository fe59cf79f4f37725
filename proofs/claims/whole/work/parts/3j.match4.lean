/-! pairs: the reference's table, its loops -/
section MU
variable {n d : Nat} {v : Nat → Nat → Nat} {st nw : Nat → Int32}
theorem mxk_rk {p : Nat → Bool} {f : Nat → Nat} {b n : Nat} {q : Nat → Bool} (h : ∀ k, k < n → q k = false → p k = false) {x y : Nat} (hx : x ≤ n) (hy : y ≤ n) (e : cnt q x = cnt q y) : mxk p f b x = mxk p f b y :=
  rk_same (p := q) (F := fun k => mxk p f b k) (fun k hk hq => by
    show mxk p f b (k + 1) = mxk p f b k
    rw [mxk, if_neg (by rw [h k hk hq]; decide)]) hx hy e
theorem fold_s (hm : MN nw n d v) (ok : okS n d v) {L R best : Nat → Int32} (hLR : LR v n L R) {g G j : Nat} (hT : MB v n d best (cnt (lP v) j + 1)) (hg : g < 2 ^ cnt (rP v) n) (hG : RGg v n g G) (hj : j < n) (h0 : v j 1 = 0) : ∃ z, lp (u2 (b_X10_findPairs_4 (nI (cnt (lP v) j)) (nI g) nw best (nI (cnt (rP v) n)) L R)) FU (nI (EE v n d 100 (n - (j + 1)) G), 0) = some (nI (EE v n d 100 (n - j) G), z) := by
  have hn := ok.1
  have hN : 2 ^ cnt (rP v) n ≤ 1024 := N_le (Nat.le_trans (cnt_le _ _) hn)
  have c0 := cnt_le (rP v) n
  generalize hp : (fun k => sAl v j k d && !G.testBit k) = p
  generalize hf : (fun k => EE v n d 100 (n - (j + 1)) (G ||| 2 ^ k) + 100 - adf (sSize v j d) (sSize v k d)) = f
  have hE : EE v n d 100 (n - j) G = mxk p f (EE v n d 100 (n - (j + 1)) G) n := by
    rw [show n - j = (n - (j + 1)) + 1 by omega, EE, show n - (n - (j + 1) + 1) = j by omega, if_pos h0, hp, hf]
  have hpq : ∀ k, k < n → rP v k = false → p k = false := by
    intro k hk hr
    rw [← hp]
    show (sAl v j k d && !G.testBit k) = false
    cases q : sAl v j k d with
    | false => rfl
    | true =>
      have := (sAl_r q).2.1
      unfold rP at hr
      exact absurd this (of_decide_eq_false hr)
  have hb : ∀ k, mxk p f (EE v n d 100 (n - (j + 1)) G) k ≤ 1100 := mxk_le (Nat.le_trans (EE_lt (v := v) (d := d) hn (show n - (j + 1) ≤ n by omega) G).2 (by omega)) (fun i => by
    rw [← hf]
    have := (EE_lt (v := v) (d := d) hn (show n - (j + 1) ≤ n by omega) (G ||| 2 ^ i)).2
    try dsimp only
    omega)
  obtain ⟨q, e, z, rfl⟩ := lp_cnt (b := u2 (b_X10_findPairs_4 (nI (cnt (lP v) j)) (nI g) nw best (nI (cnt (rP v) n)) L R)) (fun r q => ∃ x, q = (nI x, nI r) ∧ x ≤ 1100 ∧ ∀ k, k ≤ n → cnt (rP v) k = r → x = mxk p f (EE v n d 100 (n - (j + 1)) G) k) (fun q => ∃ z, q = (nI (mxk p f (EE v n d 100 (n - (j + 1)) G) n), z)) (cnt (rP v) n) (nI (EE v n d 100 (n - (j + 1)) G), (0 : Int32)) (by omega) ⟨EE v n d 100 (n - (j + 1)) G, rfl, hb 0, fun k hk hr => mxk_rk (b := EE v n d 100 (n - (j + 1)) G) (f := f) (x := 0) (y := k) hpq (Nat.zero_le _) hk hr.symm⟩ (by
    rintro r q hr ⟨x, rfl, hx0, hx⟩
    obtain ⟨k, k1, k2, k3⟩ := cnt_surj hr
    have k2' : v k 1 = 1 := of_decide_eq_true k2
    have hxk := hx k (by omega) k3
    have nxt : ∀ y, y = mxk p f (EE v n d 100 (n - (j + 1)) G) (k + 1) → ∀ k', k' ≤ n → cnt (rP v) k' = r + 1 → y = mxk p f (EE v n d 100 (n - (j + 1)) G) k' := by
      intro y hy k' hk' hr'
      rw [hy]
      refine mxk_rk hpq (by omega) hk' ?_
      rw [cnt, if_pos k2, k3, hr']
    have hpk : p k = (sAl v j k d && !g.testBit (cnt (rP v) k)) := by
      rw [← hp]
      show (sAl v j k d && !G.testBit k) = _
      rw [hG k k1 k2']
    have may := mayPair_s hm ok hLR (show g < 1024 by omega) hj k1 h0 k2'
    rw [k3] at may
    dsimp only [u2, b_X10_findPairs_4]
    rw [if_neg (nI_ge hr (by omega)), may, bnd_some, show nI r + 1 = nI (r + 1) from nI_add r 1, ← k3, ← hpk]
    rw [k3]
    rcases Bool.eq_false_or_eq_true (p k) with c | c
    · have c' := c
      rw [hpk, Bool.and_eq_true] at c'
      have bw := bestWith_s hm ok hLR hT hg hG hj k1 h0 k2' c'.1
      have hfk : f k = EE v n d 100 (n - (j + 1)) (G ||| 2 ^ k) + 100 - adf (sSize v j d) (sSize v k d) := by rw [← hf]
      rw [k3, ← hfk] at bw
      have hfb : f k ≤ 1100 := by
        have := (EE_lt (v := v) (d := d) hn (show n - (j + 1) ≤ n by omega) (G ||| 2 ^ k)).2
        omega
      simp only [c, if_true]
      rw [if_neg (show ¬ nI 1 = 0 by decide), bw, bnd_some]
      have mx : mxk p f (EE v n d 100 (n - (j + 1)) G) (k + 1) = max x (f k) := by rw [mxk, if_pos c, hxk]
      by_cases s : f k ≤ x
      · rw [if_pos (nI_le s (by omega))]
        exact ⟨_, rfl, x, rfl, hx0, nxt x (by rw [mx, Nat.max_eq_left s])⟩
      · rw [if_neg (nI_ge (by omega) (by omega))]
        exact ⟨_, rfl, f k, rfl, hfb, nxt (f k) (by rw [mx, Nat.max_eq_right (by omega)])⟩
    · simp only [c, Bool.false_eq_true, if_false]
      rw [if_pos (show nI 0 = 0 from rfl), if_pos (show (-1 : Int32) ≤ nI x from Int32.le_of_lt (Int32.lt_of_lt_of_le (show (-1 : Int32) < nI 0 by decide) (nI_le (Nat.zero_le _) (by omega))))]
      exact ⟨_, rfl, x, rfl, hx0, nxt x (by rw [mxk, if_neg (by rw [c]; decide), hxk])⟩) (by
    rintro q ⟨x, rfl, hx0, hx⟩
    dsimp only [u2, b_X10_findPairs_4]
    rw [if_pos (nI_le (Nat.le_refl _) (by omega)), hx n (Nat.le_refl n) rfl]
    exact ⟨_, rfl, _, rfl⟩)
  rw [hE]
  exact ⟨z, e⟩
theorem rows_s (hm : MN nw n d v) (ok : okS n d v) {L R best0 : Nat → Int32} (hLR : LR v n L R) : ∃ z z2 b1 b2, lp (u2 (b_X10_findPairs_1 (nI (cnt (lP v) n)) (nI (cnt (rP v) n)))) FU (0, best0) = some (z, b1) ∧ lp (u2 (b_X10_findPairs_2 nw (nI (cnt (rP v) n)) L R)) FU (nI (cnt (lP v) n) - 1, b1) = some (z2, b2) ∧ MB v n d b2 0 := by
  have hn := ok.1
  have hv : ∀ i, i < n → v i 1 ≤ 1 := fun i hi => (ok.2.2 i hi).2.1
  have c3 := lr_sum hv
  have tc := tab_c (cnt (lP v) n) (by omega) (cnt (rP v) n) (by omega) (by omega)
  have hN : 2 ^ cnt (rP v) n ≤ 1024 := N_le (Nat.le_trans (cnt_le _ _) hn)
  have h1 : 1 ≤ 2 ^ cnt (rP v) n := Nat.one_le_two_pow
  have a2 : (cnt (lP v) n + 1) * 2 ^ cnt (rP v) n = cnt (lP v) n * 2 ^ cnt (rP v) n + 2 ^ cnt (rP v) n := Nat.succ_mul _ _
  have shl : ∀ i, i ≤ cnt (lP v) n → nI i <<< (nI (cnt (rP v) n) &&& 31) = nI (i * 2 ^ cnt (rP v) n) := by
    intro i hi
    have : i * 2 ^ cnt (rP v) n ≤ cnt (lP v) n * 2 ^ cnt (rP v) n := Nat.mul_le_mul_right _ hi
    exact i_shl (by omega) (by omega)
  have sh1 : (1 : Int32) <<< (nI (cnt (rP v) n) &&& 31) = nI (2 ^ cnt (rP v) n) := i_bit (by omega)
  obtain ⟨q, e, z, b1, rfl, hb1⟩ := lp_cnt (b := u2 (b_X10_findPairs_1 (nI (cnt (lP v) n)) (nI (cnt (rP v) n)))) (fun t q => ∃ w, q = (nI t, w) ∧ ∀ g, g < t → w (cnt (lP v) n * 2 ^ cnt (rP v) n + g) = 0) (fun q => ∃ z w, q = (z, w) ∧ MB v n d w (cnt (lP v) n)) (2 ^ cnt (rP v) n) ((0 : Int32), best0) (by omega) ⟨best0, rfl, fun g hg => absurd hg (by omega)⟩ (by
    rintro t q ht ⟨w, rfl, h⟩
    dsimp only [u2, b_X10_findPairs_1]
    rw [sh1, if_neg (nI_ge ht (by omega)), shl _ (Nat.le_refl _), nI_add, wr_s (show cnt (lP v) n * 2 ^ cnt (rP v) n + t < 1100 by omega) (by omega), bnd_some, show nI t + 1 = nI (t + 1) from nI_add t 1]
    refine ⟨_, rfl, _, rfl, fun g hg => ?_⟩
    by_cases c : g = t
    · subst c
      simp
    · rw [if_neg (by omega)]
      exact h g (by omega)) (by
    rintro q ⟨w, rfl, h⟩
    dsimp only [u2, b_X10_findPairs_1]
    rw [sh1, if_pos (nI_le (Nat.le_refl _) (by omega))]
    refine ⟨_, rfl, _, _, rfl, fun i hi g hg G hG j hj hji => ?_⟩
    have hle := cnt_mono (lP v) j (n - j)
    rw [show j + (n - j) = n by omega] at hle
    have hi2 : i = cnt (lP v) n := by omega
    subst hi2
    rw [h g hg, EE_none (n - j) (by omega) (fun i h1 h2 h3 => by
      have := cnt_no (p := lP v) (a := j) (b := n) (i := i) hji (by omega) h2
      unfold lP at this
      exact absurd h3 (of_decide_eq_false this))]
    rfl)
  refine ⟨z, ?_⟩
  have start : nI (cnt (lP v) n) - 1 = nI (cnt (lP v) n - 0) + (-1) := by
    rw [Nat.sub_zero, Int32.sub_eq_add_neg]
  obtain ⟨q, e2, z2, b2, rfl, hb2⟩ := lp_cnt (b := u2 (b_X10_findPairs_2 nw (nI (cnt (rP v) n)) L R)) (fun t q => ∃ w, q = (nI (cnt (lP v) n - t) + (-1), w) ∧ MB v n d w (cnt (lP v) n - t)) (fun q => ∃ z w, q = (z, w) ∧ MB v n d w 0) (cnt (lP v) n) (nI (cnt (lP v) n) - 1, b1) (by omega) ⟨b1, by rw [start], hb1⟩ (by
    rintro t q ht ⟨w, rfl, h⟩
    obtain ⟨i, hi⟩ : ∃ i, cnt (lP v) n - t = i + 1 := ⟨cnt (lP v) n - t - 1, by omega⟩
    have hi2 : cnt (lP v) n - (t + 1) = i := by omega
    rw [hi] at h
    rw [hi, lastI (by omega), hi2]
    obtain ⟨j, j1, j2, j3⟩ := cnt_surj (p := lP v) (n := n) (r := i) (by omega)
    have j2' : v j 1 = 0 := of_decide_eq_true j2
    have lc1 : cnt (lP v) (j + 1) = i + 1 := by rw [cnt, if_pos j2, j3]
    have m1 : (i + 1) * 2 ^ cnt (rP v) n = i * 2 ^ cnt (rP v) n + 2 ^ cnt (rP v) n := Nat.succ_mul _ _
    have m2 : (i + 1) * 2 ^ cnt (rP v) n ≤ cnt (lP v) n * 2 ^ cnt (rP v) n := Nat.mul_le_mul_right _ (by omega)
    dsimp only [u2, b_X10_findPairs_2]
    rw [if_neg (nI_pos (by omega))]
    obtain ⟨q, e, z, w', rfl, hw'⟩ := lp_cnt (b := u2 (b_X10_findPairs_3 (nI i) nw (nI (cnt (rP v) n)) L R)) (fun g q => ∃ w', q = (nI g, w') ∧ MB v n d w' (i + 1) ∧ ∀ g', g' < g → ∀ G, RGg v n g' G → w' (i * 2 ^ cnt (rP v) n + g') = nI (EE v n d 100 (n - j) G)) (fun q => ∃ z w', q = (z, w') ∧ MB v n d w' i) (2 ^ cnt (rP v) n) ((0 : Int32), w) (by omega) ⟨w, rfl, h, fun g hg => absurd hg (by omega)⟩ (by
      rintro g q hg ⟨w', rfl, hT, hr⟩
      dsimp only [u2, b_X10_findPairs_3]
      have hG := Gof_ok v n g
      have hT' : MB v n d w' (cnt (lP v) j + 1) := by rw [j3]; exact hT
      obtain ⟨z, fo⟩ := fold_s hm ok hLR hT' hg hG j1 j2'
      rw [j3] at fo
      have hv16 := hT (i + 1) (Nat.le_refl _) g hg _ hG (j + 1) (by omega) lc1
      rw [sh1, if_neg (nI_ge hg (by omega)), show nI i + 1 = nI (i + 1) from nI_add i 1, shl (i + 1) (by omega), shl i (by omega), nI_add, nI_add, rd_s (show (i + 1) * 2 ^ cnt (rP v) n + g < 1100 by omega) (by omega), bnd_some, hv16, fo, bnd_some]
      dsimp only [u2]
      rw [wr_s (show i * 2 ^ cnt (rP v) n + g < 1100 by omega) (by omega), bnd_some, show nI g + 1 = nI (g + 1) from nI_add g 1]
      refine ⟨_, rfl, _, rfl, fun i' hi' g' hg' G' hG' j' hj' hji' => ?_, fun g' hg' G' hG' => ?_⟩
      · have : (i + 1) * 2 ^ cnt (rP v) n ≤ i' * 2 ^ cnt (rP v) n := Nat.mul_le_mul_right _ hi'
        try dsimp only
        rw [if_neg (by omega)]
        exact hT i' hi' g' hg' G' hG' j' hj' hji'
      · try dsimp only
        by_cases c : g' = g
        · subst c
          rw [if_pos rfl, EE_congr (n - j) (G := Gof v n g') (H := G') (fun k hk hv => by rw [hG k hk hv, hG' k hk hv])]
        · rw [if_neg (by omega)]
          exact hr g' (by omega) G' hG') (by
      rintro q ⟨w', rfl, hT, hr⟩
      dsimp only [u2, b_X10_findPairs_3]
      rw [sh1, if_pos (nI_le (Nat.le_refl _) (by omega))]
      refine ⟨_, rfl, _, _, rfl, fun i' hi' g' hg' G' hG' j' hj' hji' => ?_⟩
      by_cases c : i' = i
      · subst c
        rw [hr g' hg' G' hG', EE_rk (a := j') (b := j) hj' (by omega) (by rw [hji', j3])]
      · exact hT i' (by omega) g' hg' G' hG' j' hj' hji')
    rw [e, bnd_some]
    dsimp only [u2]
    exact ⟨_, rfl, _, rfl, hw'⟩) (by
    rintro q ⟨w, rfl, h⟩
    dsimp only [u2, b_X10_findPairs_2]
    rw [Nat.sub_self] at h ⊢
    rw [if_pos m1_neg]
    exact ⟨_, rfl, _, _, rfl, h⟩)
  exact ⟨z2, b1, b2, e, e2, hb2⟩
end MU
