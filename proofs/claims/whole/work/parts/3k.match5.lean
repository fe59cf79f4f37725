/-! pairs: the reference's choice -/
theorem ff_uniq {p : Nat → Bool} : ∀ (k i x : Nat), i ≤ x → x < i + k → p x = true → (∀ y, i ≤ y → y < x → p y = false) → ff p i k = x
  | 0, i, x, h1, h2, _, _ => absurd h2 (by omega)
  | k + 1, i, x, h1, h2, h3, h4 => by
    unfold ff
    by_cases e : i = x
    · subst e
      rw [if_pos h3]
    · rw [if_neg (by rw [h4 i (Nat.le_refl i) (by omega)]; decide)]
      exact ff_uniq k (i + 1) x (by omega) (by omega) h3 (fun y h5 h6 => h4 y (by omega) h6)
section MV
variable {n d : Nat} {v : Nat → Nat → Nat} {st nw : Nat → Int32}
theorem run_rk {a b : Nat} (ha : a ≤ n) (hb : b ≤ n) (e : cnt (lP v) a = cnt (lP v) b) : run v n d 100 a = run v n d 100 b :=
  rk_same (p := lP v) (F := fun j => run v n d 100 j) (fun k hk hp => by
    have h0 : ¬ v k 1 = 0 := of_decide_eq_false hp
    show run v n d 100 (k + 1) = run v n d 100 k
    rw [run]
    rcases run v n d 100 k with ⟨G, u, a, p⟩
    try dsimp only
    rw [if_neg (fun z => h0 z.1)]) ha hb e
theorem pick_s (hm : MN nw n d v) (ok : okS n d v) {L R best : Nat → Int32} (hLR : LR v n L R) (hT : MB v n d best 0) {g G j : Nat} (hg : g < 2 ^ cnt (rP v) n) (hG : RGg v n g G) (hj : j < n) (h0 : v j 1 = 0) : lp (b_X10_findPairs_7 (nI g) (nI (cnt (lP v) j)) nw best (nI (cnt (rP v) n)) L R) FU 0 = some (nI (cnt (rP v) (chk v n d 100 j G))) := by
  have hn := ok.1
  have hv : ∀ i, i < n → v i 1 ≤ 1 := fun i hi => (ok.2.2 i hi).2.1
  have c3 := lr_sum hv
  have c1 := cnt_lt (p := lP v) hj (decide_eq_true h0)
  have tc := tab_c (cnt (lP v) n) (by omega) (cnt (rP v) n) (by omega) (by omega)
  have hN : 2 ^ cnt (rP v) n ≤ 1024 := N_le (Nat.le_trans (cnt_le _ _) hn)
  have a2 : (cnt (lP v) n + 1) * 2 ^ cnt (rP v) n = cnt (lP v) n * 2 ^ cnt (rP v) n + 2 ^ cnt (rP v) n := Nat.succ_mul _ _
  have a3 : (cnt (lP v) j + 1) * 2 ^ cnt (rP v) n = cnt (lP v) j * 2 ^ cnt (rP v) n + 2 ^ cnt (rP v) n := Nat.succ_mul _ _
  have a4 : (cnt (lP v) j + 1) * 2 ^ cnt (rP v) n ≤ (cnt (lP v) n + 1) * 2 ^ cnt (rP v) n := Nat.mul_le_mul_right _ (by omega)
  have hT' : MB v n d best (cnt (lP v) j + 1) := fun i hi => hT i (Nat.zero_le _)
  have hb := hT (cnt (lP v) j) (Nat.zero_le _) g hg G hG j (by omega) rfl
  have hsh : nI (cnt (lP v) j) <<< (nI (cnt (rP v) n) &&& 31) = nI (cnt (lP v) j * 2 ^ cnt (rP v) n) := i_shl (by omega) (by omega)
  have hr1 : ∀ k, chp v n d 100 j G k = true → v k 1 = 1 ∧ sAl v j k d = true ∧ G.testBit k = false := by
    intro k h
    unfold chp at h
    rw [Bool.and_eq_true, Bool.and_eq_true] at h
    exact ⟨(sAl_r h.1.1).2.1, h.1.1, by simpa using h.1.2⟩
  obtain ⟨x, e, E⟩ := lp_FU (b := b_X10_findPairs_7 (nI g) (nI (cnt (lP v) j)) nw best (nI (cnt (rP v) n)) L R) (fun r s => s = nI r ∧ ∀ k, k < n → chp v n d 100 j G k = true → r ≤ cnt (rP v) k) (fun x => x = nI (cnt (rP v) (chk v n d 100 j G))) (cnt (rP v) n) (0 : Int32) (by omega) ⟨rfl, fun k hk h => Nat.zero_le _⟩ (by
    rintro r s hr ⟨rfl, hI⟩
    by_cases q : r < cnt (rP v) n
    · obtain ⟨k, k1, k2, k3⟩ := cnt_surj q
      have k2' : v k 1 = 1 := of_decide_eq_true k2
      have may := mayPair_s hm ok hLR (show g < 1024 by omega) hj k1 h0 k2'
      rw [k3] at may
      have hnx : chp v n d 100 j G k = false → ∀ k', k' < n → chp v n d 100 j G k' = true → r + 1 ≤ cnt (rP v) k' := by
        intro hc k' hk' h'
        have b1 := hI k' hk' h'
        by_cases c : cnt (rP v) k' = r
        · exfalso
          have b2 := (hr1 k' h').1
          rcases Nat.lt_trichotomy k k' with t | t | t
          · have := cnt_lt (p := rP v) t k2
            omega
          · subst t
            rw [hc] at h'
            cases h'
          · have := cnt_lt (p := rP v) t (decide_eq_true b2)
            omega
        · omega
      unfold b_X10_findPairs_7
      rw [if_neg (nI_ge q (by omega)), may, bnd_some, show nI r + 1 = nI (r + 1) from nI_add r 1]
      rw [← k3, ← hG k k1 k2', k3]
      rcases Bool.eq_false_or_eq_true (sAl v j k d && !G.testBit k) with c | c
      · have c' := c
        rw [Bool.and_eq_true] at c'
        have bw := bestWith_s hm ok hLR hT' hg hG hj k1 h0 k2' c'.1
        rw [k3] at bw
        have b1 := (EE_lt (v := v) (d := d) hn (show n - (j + 1) ≤ n by omega) (G ||| 2 ^ k)).2
        have b2 := (EE_lt (v := v) (d := d) hn (show n - j ≤ n by omega) G).2
        have hc : chp v n d 100 j G k = decide (EE v n d 100 (n - (j + 1)) (G ||| 2 ^ k) + 100 - adf (sSize v j d) (sSize v k d) = EE v n d 100 (n - j) G) := by
          unfold chp
          rw [c, Bool.true_and]
        simp only [c, if_true]
        rw [if_neg (show ¬ nI 1 = 0 by decide), bw, bnd_some, hsh, nI_add, rd_s (show cnt (lP v) j * 2 ^ cnt (rP v) n + g < 1100 by omega) (by omega), bnd_some, hb]
        by_cases z : EE v n d 100 (n - (j + 1)) (G ||| 2 ^ k) + 100 - adf (sSize v j d) (sSize v k d) = EE v n d 100 (n - j) G
        · rw [if_pos (by rw [z])]
          refine Or.inl ⟨_, rfl, ?_⟩
          have hk0 : chk v n d 100 j G = k := ff_uniq n 0 k (Nat.zero_le _) (by omega) (by rw [hc]; exact decide_eq_true z) (fun y _ hy => by
            cases t : chp v n d 100 j G y with
            | false => rfl
            | true =>
              have t1 := hI y (by omega) t
              have t2 := cnt_lt (p := rP v) hy (decide_eq_true (hr1 y t).1)
              omega)
          rw [hk0, k3]
        · rw [if_neg (fun e => z (nI_inj (by omega) (by omega) e))]
          exact Or.inr ⟨q, _, rfl, rfl, hnx (by rw [hc]; exact decide_eq_false z)⟩
      · simp only [c, Bool.false_eq_true, if_false]
        rw [if_pos (show nI 0 = 0 from rfl)]
        exact Or.inr ⟨q, _, rfl, rfl, hnx (by unfold chp; rw [c, Bool.false_and])⟩
    · have er : r = cnt (rP v) n := by omega
      subst er
      unfold b_X10_findPairs_7
      rw [if_pos (nI_le (Nat.le_refl _) (by omega))]
      refine Or.inl ⟨_, rfl, ?_⟩
      have : chk v n d 100 j G = n := by
        unfold chk
        rw [ff_none (fun k _ hk => by
          cases t : chp v n d 100 j G k with
          | false => rfl
          | true =>
            have t1 := hI k (by omega) t
            have t2 := cnt_lt (p := rP v) (show k < n by omega) (decide_eq_true (hr1 k t).1)
            omega), Nat.zero_add]
      rw [this])
  rw [e, E]
theorem chk_le (v : Nat → Nat → Nat) (n d c j G : Nat) : chk v n d c j G ≤ n := by
  have := ff_le (chp v n d c j G) n 0
  unfold chk
  omega
theorem findPairs_s (hs1 : st 1 = nI n) (hst : MN st n d v) (ok : okS n d v) (now0 L0 R0 best0 with0 : Nat → Int32) : ∃ nw' a b L R best w, f_X10_findPairs st now0 L0 R0 best0 with0 = some (nw', a, b, L, R, best, w) ∧ MN nw' n d v ∧ best 0 = nI (EE v n d 100 n 0) ∧ ∀ k, k < 10 → w k = (run v n d 100 n).2.2.2 k := by
  have hn := ok.1
  have hv : ∀ i, i < n → v i 1 ≤ 1 := fun i hi => (ok.2.2 i hi).2.1
  have c3 := lr_sum hv
  have hN : 2 ^ cnt (rP v) n ≤ 1024 := N_le (Nat.le_trans (cnt_le _ _) hn)
  obtain ⟨nw', n1, n2⟩ := M_asItIs_s hst ok.1 now0
  obtain ⟨L, R, f1, hLR⟩ := findSides_s hs1 n2 ok L0 R0
  obtain ⟨z, z2, b1, b2, e1, e2, hT⟩ := rows_s (best0 := best0) n2 ok hLR
  unfold f_X10_findPairs
  rw [n1, bnd_some, f1]
  simp only [bnd_some, u4]
  rw [e1]
  simp only [bnd_some, u2]
  rw [show lp (u2 (b_X10_findPairs_2 nw' (nI (cnt (rP v) n)) L R)) FU (nI (cnt (lP v) n) - 1, b1) = _ from e2]
  simp only [bnd_some, u2]
  obtain ⟨q, e3, z3, w0, rfl, hw0⟩ := lp_cnt (b := u2 b_X10_findPairs_5) (fun t q => ∃ w : Nat → Int32, q = (nI t, w) ∧ ∀ k, k < t → w k = -4) (fun q => ∃ z w, q = (z, w) ∧ ∀ k, k < 10 → w k = -4) 10 ((0 : Int32), with0) (by omega) ⟨with0, rfl, fun k hk => absurd hk (by omega)⟩ (by
    rintro t q ht ⟨w, rfl, h⟩
    dsimp only [u2, b_X10_findPairs_5]
    rw [if_neg (show ¬ (10 : Int32) ≤ nI t from nI_ge (b := 10) ht (by omega)), wr_s (show t < 10 by omega) (by omega), bnd_some, show nI t + 1 = nI (t + 1) from nI_add t 1]
    refine ⟨_, rfl, _, rfl, fun k hk => ?_⟩
    by_cases q : k = t
    · simp [q]
    · simp only [q, if_false]
      exact h k (by omega)) (by
    rintro q ⟨w, rfl, h⟩
    dsimp only [u2, b_X10_findPairs_5]
    rw [if_pos (show (10 : Int32) ≤ nI 10 by decide)]
    exact ⟨_, rfl, _, _, rfl, h⟩)
  rw [e3]
  simp only [bnd_some, u2]
  obtain ⟨q, e4, z4, z5, w, rfl, hw⟩ := lp_cnt (b := u3 (b_X10_findPairs_6 nw' b2 (nI (cnt (lP v) n)) (nI (cnt (rP v) n)) L R)) (fun i q => ∃ g w j, q = (nI g, nI i, w) ∧ g < 2 ^ cnt (rP v) n ∧ j ≤ n ∧ cnt (lP v) j = i ∧ RGg v n g (run v n d 100 j).1 ∧ ∀ k, k < 10 → w k = (run v n d 100 j).2.2.2 k) (fun q => ∃ z z' w, q = (z, z', w) ∧ ∀ k, k < 10 → w k = (run v n d 100 n).2.2.2 k) (cnt (lP v) n) ((0 : Int32), (0 : Int32), w0) (by omega) ⟨0, w0, 0, rfl, Nat.two_pow_pos _, Nat.zero_le _, rfl, fun k hk hv => by simp [run], hw0⟩ (by
    rintro i q hi ⟨g, w, j, rfl, hg, hj, hji, hG, hw⟩
    obtain ⟨j0, j1, j2, j3⟩ := cnt_surj hi
    have j2' : v j0 1 = 0 := of_decide_eq_true j2
    have er : run v n d 100 j = run v n d 100 j0 := run_rk hj (by omega) (by rw [hji, j3])
    rw [er] at hG hw
    have lc1 : cnt (lP v) (j0 + 1) = i + 1 := by rw [cnt, if_pos j2, j3]
    have hrr : run v n d 100 (j0 + 1) = match run v n d 100 j0 with
      | (G, u, a, p) => if v j0 1 = 0 ∧ chk v n d 100 j0 G < n then (G ||| 2 ^ chk v n d 100 j0 G, u + 1, a + adf (sSize v j0 d) (sSize v (chk v n d 100 j0 G) d), fun i => if i = chk v n d 100 j0 G then nI j0 else if i = j0 then nI (chk v n d 100 j0 G) else p i) else (G, u, a, p) := rfl
    rcases hr : run v n d 100 j0 with ⟨G, u, a, p⟩
    rw [hr] at hrr hG hw
    dsimp only at hrr hG hw
    have pk := pick_s n2 ok hLR hT hg hG j1 j2'
    rw [j3] at pk
    have kle := chk_le v n d 100 j0 G
    dsimp only [u3, b_X10_findPairs_6]
    rw [if_neg (nI_ge hi (by omega)), pk, bnd_some, show nI i + 1 = nI (i + 1) from nI_add i 1]
    by_cases c2 : chk v n d 100 j0 G < n
    · have hk := chk_ok c2
      have hr1 := sAl_r hk.1
      rw [if_pos (show v j0 1 = 0 ∧ chk v n d 100 j0 G < n from ⟨j2', c2⟩)] at hrr
      generalize chk v n d 100 j0 G = k at c2 hk hr1 hrr ⊢
      have ck := cnt_lt (p := rP v) c2 (decide_eq_true hr1.2.1)
      have hL := (hLR j0 j1).1 j2'
      rw [j3] at hL
      rw [if_neg (nI_ge ck (by omega)), rd_s (show i < 10 by omega) (by omega), bnd_some, hL, rd_s (show cnt (rP v) k < 10 by omega) (by omega), bnd_some, (hLR k c2).2 hr1.2.1, wr_s (show j0 < 10 by omega) (by omega), bnd_some, bnd_some, bnd_some, wr_s (show k < 10 by omega) (by omega), bnd_some, show (1 : Int32) <<< (nI (cnt (rP v) k) &&& 31) = nI (2 ^ cnt (rP v) k) from i_bit (by omega), fa_or, bnd_some]
      refine ⟨_, rfl, _, _, j0 + 1, rfl, or_lt hg (bit_lt ck), by omega, lc1, ?_, fun i hi => ?_⟩
      · rw [hrr]
        exact RGg_or hG c2 hr1.2.1
      · rw [hrr]
        try dsimp only
        by_cases i1 : i = k
        · rw [if_pos i1, if_pos i1]
        · rw [if_neg i1, if_neg i1]
          by_cases i2 : i = j0
          · rw [if_pos i2, if_pos i2]
          · rw [if_neg i2, if_neg i2]
            exact hw i hi
    · have ek : chk v n d 100 j0 G = n := by omega
      rw [if_neg (show ¬ (v j0 1 = 0 ∧ chk v n d 100 j0 G < n) from fun z => c2 z.2)] at hrr
      rw [ek, if_pos (nI_le (Nat.le_refl _) (by omega))]
      refine ⟨_, rfl, _, _, j0 + 1, rfl, hg, by omega, lc1, ?_, fun i hi => ?_⟩
      · rw [hrr]
        exact hG
      · rw [hrr]
        exact hw i hi) (by
    rintro q ⟨g, w, j, rfl, hg, hj, hji, hG, hw⟩
    dsimp only [u3, b_X10_findPairs_6]
    rw [if_pos (nI_le (Nat.le_refl _) (by omega))]
    rw [run_rk hj (Nat.le_refl n) hji] at hw
    exact ⟨_, rfl, _, _, _, rfl, hw⟩)
  rw [e4]
  simp only [bnd_some, u3]
  refine ⟨_, _, _, _, _, _, _, rfl, n2, ?_, hw⟩
  have := hT 0 (Nat.le_refl 0) 0 (Nat.two_pow_pos _) 0 (fun k hk hv => by simp) 0 (Nat.zero_le _) rfl
  rw [Nat.zero_mul] at this
  exact this
end MV
