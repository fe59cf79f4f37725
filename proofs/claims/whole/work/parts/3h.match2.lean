/-! pairs: the choice, on the class's side -/
def chp (v : Nat → Nat → Nat) (n d c j G : Nat) : Nat → Bool := fun k => (sAl v j k d && !G.testBit k) && decide (EE v n d c (n - (j + 1)) (G ||| 2 ^ k) + c - adf (sSize v j d) (sSize v k d) = EE v n d c (n - j) G)
def chk (v : Nat → Nat → Nat) (n d c j G : Nat) : Nat := ff (chp v n d c j G) 0 n
def run (v : Nat → Nat → Nat) (n d c : Nat) : Nat → Nat × Nat × Nat × (Nat → Int32)
  | 0 => (0, 0, 0, fun _ => -4)
  | j + 1 => match run v n d c j with
    | (G, u, a, p) => if v j 1 = 0 ∧ chk v n d c j G < n then (G ||| 2 ^ chk v n d c j G, u + 1, a + adf (sSize v j d) (sSize v (chk v n d c j G) d), fun i => if i = chk v n d c j G then nI j else if i = j then nI (chk v n d c j G) else p i) else (G, u, a, p)
theorem ff_congr {p q : Nat → Bool} : ∀ (k i : Nat), (∀ j, i ≤ j → j < i + k → p j = q j) → ff p i k = ff q i k
  | 0, _, _ => rfl
  | k + 1, i, h => by
    unfold ff
    rw [h i (Nat.le_refl i) (by omega), ff_congr k (i + 1) (fun j h1 h2 => h j (by omega) (by omega))]
theorem chp_base {v : Nat → Nat → Nat} {n d j : Nat} (hn : n ≤ 10) (hj : j < n) (G k : Nat) : chp v n d 1000 j G k = chp v n d 100 j G k := by
  unfold chp
  cases q : sAl v j k d && !G.testBit k with
  | false => rfl
  | true =>
    rw [Bool.and_eq_true] at q
    have h1 := lex_add (lex_EE (v := v) (d := d) hn (n - (j + 1)) (by omega) (G ||| 2 ^ k)) (by omega) (sAl_r q.1).2.2
    have h2 := lex_EE (v := v) (d := d) hn (n - j) (by omega) G
    rw [show n - (j + 1) + 1 = n - j by omega] at h1
    simp only [Bool.true_and, decide_eq_decide]
    exact lex_eq h1 h2
theorem chk_base {v : Nat → Nat → Nat} {n d j : Nat} (hn : n ≤ 10) (hj : j < n) (G : Nat) : chk v n d 1000 j G = chk v n d 100 j G :=
  ff_congr n 0 (fun k _ _ => chp_base hn hj G k)
theorem run_base {v : Nat → Nat → Nat} {n d : Nat} (hn : n ≤ 10) : ∀ j, j ≤ n → run v n d 1000 j = run v n d 100 j
  | 0, _ => rfl
  | j + 1, h => by
    unfold run
    rw [run_base hn j (by omega)]
    rcases run v n d 100 j with ⟨G, u, a, p⟩
    try dsimp only
    rw [chk_base hn (by omega)]
theorem chk_ok {v : Nat → Nat → Nat} {n d c j G : Nat} (h : chk v n d c j G < n) : sAl v j (chk v n d c j G) d = true ∧ G.testBit (chk v n d c j G) = false ∧ EE v n d c (n - (j + 1)) (G ||| 2 ^ chk v n d c j G) + c - adf (sSize v j d) (sSize v (chk v n d c j G) d) = EE v n d c (n - j) G := by
  have := ff_sat (p := chp v n d c j G) (k := n) (i := 0) (by rw [Nat.zero_add]; exact h)
  change chp v n d c j G (chk v n d c j G) = true at this
  unfold chp at this
  rw [Bool.and_eq_true, Bool.and_eq_true] at this
  exact ⟨this.1.1, by simpa using this.1.2, of_decide_eq_true this.2⟩
section MX2
variable {n d : Nat} {v : Nat → Nat → Nat} {ma sz : Nat → Int32}
theorem table_s (ok : okS n d v) (hl : LK v n d ma sz) (sets0 : Nat → Int32) : ∃ z sets, lp (u2 (b_X1_match_1 (nI n) (nI (bits (fun i => decide (v i 1 = 0)) n)) ma sz)) FU ((1 <<< (nI n &&& 31)) - 1, sets0) = some (z, sets) ∧ TB v n d sets 0 := by
  have hn := ok.1
  have hN := N_le hn
  have h1 : 1 ≤ 2 ^ n := Nat.one_le_two_pow
  rw [top_s hn, show nI (2 ^ n) - 1 = nI (2 ^ n - 1) from nIsub (b := 1) h1]
  obtain ⟨q, e, z, sets, rfl, E⟩ := lp_cnt (b := u2 (b_X1_match_1 (nI n) (nI (bits (fun i => decide (v i 1 = 0)) n)) ma sz)) (fun t q => ∃ w, q = (nI (2 ^ n - t) + (-1), w) ∧ TB v n d w (2 ^ n - t)) (fun q => ∃ z w, q = (z, w) ∧ TB v n d w 0) (2 ^ n) (nI (2 ^ n - 1), sets0) (by omega) ⟨sets0, by
      rw [Nat.sub_zero, ← lastI (k := 2 ^ n - 1) (by omega), show 2 ^ n - 1 + 1 = 2 ^ n by omega], fun m h1 h2 => absurd h2 (by omega)⟩ (by
    rintro t q ht ⟨w, rfl, h⟩
    obtain ⟨m, hm⟩ : ∃ m, 2 ^ n - t = m + 1 := ⟨2 ^ n - t - 1, by omega⟩
    have e2 : 2 ^ n - (t + 1) = m := by omega
    rw [hm] at h
    obtain ⟨x, g1, g2⟩ := bestWithout_s ok hl (show m < 2 ^ n by omega) h
    rw [hm, lastI (by omega), e2]
    dsimp only [u2, b_X1_match_1]
    rw [if_neg (nI_pos (by omega)), g1, bnd_some, X9_put_s (show m < 1024 by omega) (by omega), bnd_some]
    refine ⟨_, rfl, _, rfl, fun m' h1 h2 j hj hv => ?_⟩
    by_cases c : m' = m
    · subst c
      simp only [if_true]
      exact g2 j hj hv
    · simp only [c, if_false]
      exact h m' (by omega) h2 j hj hv) (by
    rintro q ⟨w, rfl, h⟩
    dsimp only [u2, b_X1_match_1]
    rw [Nat.sub_self] at h ⊢
    rw [if_pos m1_neg]
    exact ⟨_, rfl, _, _, rfl, h⟩)
  exact ⟨z, sets, e, E⟩
/-- the set that the class has taken when it comes to place j -/
def TK (v : Nat → Nat → Nat) (n j G m : Nat) : Prop := m < 2 ^ n ∧ vld v n m j ∧ ∀ k, k < n → v k 1 = 1 → m.testBit k = G.testBit k
theorem firstBest_s (ok : okS n d v) (hl : LK v n d ma sz) {sets : Nat → Int32} (hT : TB v n d sets 0) {j G m : Nat} (hj : j < n) (h0 : v j 1 = 0) (hm : TK v n j G m) : f_X1_firstBest (nI m) (nI j) (nI n) sets ma sz = some (if chk v n d 1000 j G < n then nI (chk v n d 1000 j G) else -4) := by
  have hn := ok.1
  have hN := N_le hn
  obtain ⟨m1, m2, m3⟩ := hm
  have mj : m.testBit j = false := by
    rw [m2 j hj h0]
    simp
  have p1 : 2 ^ j < 2 ^ n := bit_lt hj
  have p2 : m ||| 2 ^ j < 2 ^ n := or_lt m1 p1
  have hv1 : vld v n (m ||| 2 ^ j) (j + 1) := by
    intro i h1 h2
    rw [tb_or_bit, m2 i h1 h2]
    by_cases c : j = i
    · subst c
      simp
    · have : (i < j + 1) ↔ i < j := by omega
      simp [c, this]
  have step : ∀ t, t < n → b_X1_firstBest_1 (nI n) ma sets sz (nI m) (nI j) (nI t) = if chp v n d 1000 j G t = true then some (.inr (.inr (nI t))) else some (.inl (nI (t + 1))) := by
    intro t ht
    have hz : sAl v t j d = false := by
      unfold sAl
      simp only [decide_eq_false_iff_not]
      intro z
      have := z.2.1
      omega
    have bE := (EE_lt (v := v) (d := d) hn (show n - (j + 1) ≤ n by omega) (G ||| 2 ^ t)).1
    have bE2 := (EE_lt (v := v) (d := d) hn (show n - j ≤ n by omega) G).1
    unfold b_X1_firstBest_1
    rw [if_neg (nI_ge ht (by omega)), X9_at_s (show j < 10 by omega) (by omega), bnd_some, (hl j hj).1, i_andnot, X9_hasBit_s (Nat.lt_of_lt_of_le (and_lt (bits_10 _ hn)) (by omega)) (by omega), bnd_some, tbA ht hn, tb_bits, show nI t + 1 = nI (t + 1) from nI_add t 1]
    simp only [ht, decide_true, Bool.true_and, hz, Bool.or_false]
    have hmG : sAl v j t d = true → m.testBit t = G.testBit t := fun q => m3 t ht (sAl_r q).2.1
    by_cases g : (sAl v j t d && !m.testBit t) = true
    · have gG : (sAl v j t d && !G.testBit t) = true := by
        rw [Bool.and_eq_true] at g ⊢
        rw [← hmG g.1]
        exact g
      have g' := g
      rw [Bool.and_eq_true] at g'
      have g1 := sAl_r g'.1
      have hv2 : vld v n (m ||| 2 ^ j ||| 2 ^ t) (j + 1) := by
        intro i h1 h2
        rw [tb_or_bit, hv1 i h1 h2]
        have : ¬ t = i := by
          intro e
          subst e
          omega
        simp [this]
      have p3 : m ||| 2 ^ j ||| 2 ^ t < 2 ^ n := or_lt p2 (bit_lt ht)
      have hE1 : EE v n d 1000 (n - (j + 1)) (m ||| 2 ^ j ||| 2 ^ t) = EE v n d 1000 (n - (j + 1)) (G ||| 2 ^ t) := EE_congr _ (fun i hi hv => by
        rw [tb_or_bit, tb_or_bit, tb_or_bit, m3 i hi hv]
        have : ¬ j = i := by
          intro e
          subst e
          omega
        simp [this])
      have hE2 : EE v n d 1000 (n - j) m = EE v n d 1000 (n - j) G := EE_congr _ (fun i hi hv => m3 i hi hv)
      have hW := X1_worth_s hn ok hl (show m < 1024 by omega) hj ht ((hT _ (Nat.zero_le _) p3 (j + 1) (by omega) hv2).trans (by rw [hE1])) bE
      have hS := (hT m (Nat.zero_le _) m1 j (by omega) m2).trans (by rw [hE2])
      rw [if_pos g, if_neg (show ¬ nI 1 = 0 by decide), hW, bnd_some, X9_at_s (show m < 1024 by omega) (by omega), bnd_some, hS]
      have hc : chp v n d 1000 j G t = decide (EE v n d 1000 (n - (j + 1)) (G ||| 2 ^ t) + 1000 - adf (sSize v j d) (sSize v t d) = EE v n d 1000 (n - j) G) := by
        unfold chp
        rw [gG, Bool.true_and]
      rw [hc]
      by_cases c : EE v n d 1000 (n - (j + 1)) (G ||| 2 ^ t) + 1000 - adf (sSize v j d) (sSize v t d) = EE v n d 1000 (n - j) G
      · rw [if_pos (by rw [c]), if_pos (decide_eq_true c)]
      · rw [if_neg (fun e => c (nI_inj (by omega) (by omega) e)), if_neg (by simpa using c)]
    · have gG : ¬ chp v n d 1000 j G t = true := by
        intro z
        apply g
        unfold chp at z
        rw [Bool.and_eq_true, Bool.and_eq_true] at z
        rw [Bool.and_eq_true, hmG z.1.1]
        exact z.1
      rw [if_neg g, if_pos (show nI 0 = 0 from rfl), if_neg gG]
  unfold f_X1_firstBest
  obtain ⟨r, e, E⟩ := lp_find (b := b_X1_firstBest_1 (nI n) ma sets sz (nI m) (nI j)) (fun t s => s = nI t) (chp v n d 1000 j G) (fun t r => r = if t < n then .inr (nI t) else .inl (nI t)) n (0 : Int32) (by omega) rfl (by
    rintro t s ht rfl hp
    rw [step t ht, if_pos hp, if_pos ht]
    exact ⟨_, rfl, rfl⟩) (by
    rintro t s ht rfl hp
    rw [step t ht, if_neg (by rw [hp]; decide)]
    exact ⟨_, rfl, rfl⟩) (by
    rintro s rfl
    unfold b_X1_firstBest_1
    rw [if_pos (nI_le (Nat.le_refl _) (by omega))]
    exact ⟨_, rfl, by rw [if_neg (Nat.lt_irrefl n)]⟩)
  rw [e, E]
  show bndE (some (if chk v n d 1000 j G < n then _ else _)) _ _ = _
  by_cases c : chk v n d 1000 j G < n
  · rw [if_pos c, if_pos c]
    rfl
  · rw [if_neg c, if_neg c]
    rfl
theorem TK_step (hn : n ≤ 10) {j G m : Nat} (hj : j < n) (h0 : v j 1 = 0) (hm : TK v n j G m) : TK v n (j + 1) G (m ||| 2 ^ j) := by
  obtain ⟨m1, m2, m3⟩ := hm
  refine ⟨or_lt m1 (bit_lt hj), fun i h1 h2 => ?_, fun k hk hv => ?_⟩
  · rw [tb_or_bit, m2 i h1 h2]
    by_cases c : j = i
    · subst c
      simp
    · have : (i < j + 1) ↔ i < j := by omega
      simp [c, this]
  · rw [tb_or_bit, m3 k hk hv]
    have : ¬ j = k := by
      intro e
      subst e
      omega
    simp [this]
theorem TK_take (hn : n ≤ 10) {j G m k : Nat} (hk : k < n) (h1 : v k 1 = 1) (hm : TK v n j G m) : TK v n j (G ||| 2 ^ k) (m ||| 2 ^ k) := by
  obtain ⟨m1, m2, m3⟩ := hm
  refine ⟨or_lt m1 (bit_lt hk), fun i g1 g2 => ?_, fun i hi hv => ?_⟩
  · rw [tb_or_bit, m2 i g1 g2]
    have : ¬ k = i := by
      intro e
      subst e
      omega
    simp [this]
  · rw [tb_or_bit, tb_or_bit, m3 i hi hv]
theorem TK_skip {j G m : Nat} (hj : v j 1 ≠ 0) (hm : TK v n j G m) : TK v n (j + 1) G m := by
  obtain ⟨m1, m2, m3⟩ := hm
  refine ⟨m1, fun i h1 h2 => ?_, m3⟩
  rw [m2 i h1 h2]
  have : ¬ i = j := by
    intro e
    subst e
    exact hj h2
  have : (i < j + 1) ↔ i < j := by omega
  simp [this]
theorem fillm4_s (f : Nat → Int32) : ∃ w, f_J7_fill_53178 (-4) 10 f = some w ∧ ∀ k, k < 10 → w k = -4 := by
  unfold f_J7_fill_53178
  obtain ⟨q, e, E⟩ := lp_cnt (b := u2 (b_J7_fill_53178_1 10 (-4))) (fun t q => ∃ w : Nat → Int32, q = (nI t, w) ∧ ∀ k, k < t → w k = -4) (fun q => ∃ z w, q = (z, w) ∧ ∀ k, k < 10 → w k = -4) 10 ((0 : Int32), f) (by omega) ⟨f, rfl, fun k hk => absurd hk (by omega)⟩ (by
    rintro t q ht ⟨w, rfl, h⟩
    dsimp only [u2, b_J7_fill_53178_1]
    rw [if_neg (nI_ge ht (by omega)), wr_s (show t < 10 by omega) (by omega), bnd_some, show nI t + 1 = nI (t + 1) from nI_add t 1]
    refine ⟨_, rfl, _, rfl, fun k hk => ?_⟩
    by_cases q : k = t
    · simp [q]
    · simp only [q, if_false]
      exact h k (by omega)) (by
    rintro q ⟨w, rfl, h⟩
    dsimp only [u2, b_J7_fill_53178_1]
    rw [if_pos (nI_le (Nat.le_refl _) (by omega))]
    exact ⟨_, rfl, _, _, rfl, h⟩)
  obtain ⟨z, w0, rfl, hw0⟩ := E
  rw [e]
  exact ⟨w0, rfl, hw0⟩
theorem run_le (v : Nat → Nat → Nat) (n d c : Nat) : ∀ j, (run v n d c j).2.1 ≤ j ∧ (run v n d c j).2.2.1 ≤ j
  | 0 => ⟨Nat.le_refl 0, Nat.le_refl 0⟩
  | j + 1 => by
    have ih := run_le v n d c j
    unfold run
    rcases hr : run v n d c j with ⟨G, u, a, p⟩
    rw [hr] at ih
    dsimp only at ih ⊢
    split
    · rename_i h
      have := (sAl_r (chk_ok h.2).1).2.2
      try dsimp only
      omega
    · try dsimp only
      omega
theorem X1_match_s (ok : okS n d v) (hl : LK v n d ma sz) (sets0 par0 : Nat → Int32) : ∃ sets par, f_X1_match (nI (bits (fun i => decide (v i 1 = 0)) n)) (nI n) sets0 ma sz par0 = some (sets, par, nI (run v n d 1000 n).2.1, nI (run v n d 1000 n).2.2.1) ∧ ∀ k, k < 10 → par k = (run v n d 1000 n).2.2.2 k := by
  have hn := ok.1
  have hN := N_le hn
  have hL : bits (fun i => decide (v i 1 = 0)) n < 1024 := bits_10 _ hn
  obtain ⟨z0, sets, e0, hT⟩ := table_s ok hl sets0
  obtain ⟨w0, g0, hw0⟩ := fillm4_s par0
  unfold f_X1_match
  rw [e0]
  simp only [bnd_some, u2]
  rw [g0, bnd_some]
  obtain ⟨q, e, z1, z2, par, rfl, E⟩ := lp_cnt (b := u5 (b_X1_match_2 (nI n) (nI (bits (fun i => decide (v i 1 = 0)) n)) ma sz sets)) (fun j q => ∃ m par, q = (nI m, nI j, nI (run v n d 1000 j).2.1, nI (run v n d 1000 j).2.2.1, par) ∧ TK v n j (run v n d 1000 j).1 m ∧ ∀ k, k < 10 → par k = (run v n d 1000 j).2.2.2 k) (fun q => ∃ z1 z2 par, q = (z1, z2, nI (run v n d 1000 n).2.1, nI (run v n d 1000 n).2.2.1, par) ∧ ∀ k, k < 10 → par k = (run v n d 1000 n).2.2.2 k) n ((0 : Int32), (0 : Int32), (0 : Int32), (0 : Int32), w0) (by omega) ⟨0, w0, rfl, ⟨Nat.two_pow_pos n, fun i h1 h2 => by simp, fun k h1 h2 => rfl⟩, hw0⟩ (by
    rintro j q hj ⟨m, par, rfl, hm, hp⟩
    have hru := run_le v n d 1000 j
    have hrr : run v n d 1000 (j + 1) = match run v n d 1000 j with
      | (G, u, a, p) => if v j 1 = 0 ∧ chk v n d 1000 j G < n then (G ||| 2 ^ chk v n d 1000 j G, u + 1, a + adf (sSize v j d) (sSize v (chk v n d 1000 j G) d), fun i => if i = chk v n d 1000 j G then nI j else if i = j then nI (chk v n d 1000 j G) else p i) else (G, u, a, p) := rfl
    rcases hr : run v n d 1000 j with ⟨G, u, a, p⟩
    rw [hr] at hrr hm hp hru
    dsimp only at hrr hm hp hru ⊢
    rw [hrr]
    dsimp only [u5, b_X1_match_2]
    rw [if_neg (nI_ge hj (by omega)), X9_hasBit_s (Nat.lt_of_lt_of_le hL (by omega)) (by omega), bnd_some, tb_bits, show nI j + 1 = nI (j + 1) from nI_add j 1]
    simp only [hj, decide_true, Bool.true_and, decide_eq_true_eq]
    by_cases c : v j 1 = 0
    · rw [if_pos c, if_neg (show ¬ nI 1 = 0 by decide), firstBest_s ok hl hT hj c hm, bnd_some]
      by_cases c2 : chk v n d 1000 j G < n
      · have hk := chk_ok c2
        have hr1 := sAl_r hk.1
        rw [if_pos c2, if_pos (show v j 1 = 0 ∧ chk v n d 1000 j G < n from ⟨c, c2⟩)]
        generalize chk v n d 1000 j G = k at c2 hk hr1 ⊢
        rw [if_neg (nI_pos (show k < 2147483648 by omega)), show (1 : Int32) <<< (nI j &&& 31) = nI (2 ^ j) from i_bit (by omega), show (1 : Int32) <<< (nI k &&& 31) = nI (2 ^ k) from i_bit (by omega), fa_or, fa_or, bnd_some]
        unfold f_X1_join
        rw [X9_put_s (show j < 10 by omega) (by omega), bnd_some, X9_put_s (show k < 10 by omega) (by omega), bnd_some, X1_dist_s hn ok hl hj c2, bnd_some, show nI u + 1 = nI (u + 1) from nI_add u 1, nI_add a]
        refine ⟨_, rfl, _, _, rfl, TK_take hn c2 hr1.2.1 (TK_step hn hj c hm), fun i hi => ?_⟩
        try dsimp only
        by_cases i1 : i = k
        · rw [if_pos i1, if_pos i1]
        · rw [if_neg i1, if_neg i1]
          by_cases i2 : i = j
          · rw [if_pos i2, if_pos i2]
          · rw [if_neg i2, if_neg i2]
            exact hp i hi
      · rw [if_neg c2, if_pos (show (-4 : Int32) < 0 by decide), if_neg (show ¬ (v j 1 = 0 ∧ chk v n d 1000 j G < n) from fun z => c2 z.2), show (1 : Int32) <<< (nI j &&& 31) = nI (2 ^ j) from i_bit (by omega), fa_or]
        exact ⟨_, rfl, _, _, rfl, TK_step hn hj c hm, hp⟩
    · rw [if_neg c, if_pos (show nI 0 = 0 from rfl), if_neg (show ¬ (v j 1 = 0 ∧ chk v n d 1000 j G < n) from fun z => c z.1)]
      exact ⟨_, rfl, _, _, rfl, TK_skip c hm, hp⟩) (by
    rintro q ⟨m, par, rfl, hm, hp⟩
    dsimp only [u5, b_X1_match_2]
    rw [if_pos (nI_le (Nat.le_refl _) (by omega))]
    exact ⟨_, rfl, _, _, _, rfl, hp⟩)
  rw [e]
  exact ⟨sets, par, rfl, E⟩
end MX2
