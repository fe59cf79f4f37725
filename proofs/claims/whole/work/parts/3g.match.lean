/-! pairs: the best way to go on, by a base c for each pair -/
def adf (a b : Nat) : Nat := if a ≤ b then b - a else a - b
theorem ff_before {p : Nat → Bool} : ∀ (k i j : Nat), i ≤ j → j < ff p i k → p j = false
  | 0, i, j, h1, h2 => absurd h2 (by unfold ff; omega)
  | k + 1, i, j, h1, h2 => by
    unfold ff at h2
    cases q : p i with
    | true =>
      simp only [q, if_true] at h2
      omega
    | false =>
      simp only [q, Bool.false_eq_true, if_false] at h2
      by_cases e : j = i
      · subst e
        exact q
      · exact ff_before k (i + 1) j (by omega) h2
def mxk (p : Nat → Bool) (f : Nat → Nat) (b : Nat) : Nat → Nat
  | 0 => b
  | k + 1 => if p k then max (mxk p f b k) (f k) else mxk p f b k
def EE (v : Nat → Nat → Nat) (n d c : Nat) : Nat → Nat → Nat
  | 0, _ => 0
  | t + 1, G => if v (n - (t + 1)) 1 = 0 then mxk (fun k => sAl v (n - (t + 1)) k d && !G.testBit k) (fun k => EE v n d c t (G ||| 2 ^ k) + c - adf (sSize v (n - (t + 1)) d) (sSize v k d)) (EE v n d c t G) n else EE v n d c t G
theorem mxk_congr {p q : Nat → Bool} {f g : Nat → Nat} {b c : Nat} (hb : b = c) : ∀ {n : Nat}, (∀ k, k < n → p k = q k) → (∀ k, k < n → p k = true → f k = g k) → mxk p f b n = mxk q g c n
  | 0, _, _ => hb
  | n + 1, h1, h2 => by
    rw [mxk, mxk, h1 n (Nat.lt_succ_self n), mxk_congr hb (fun k hk => h1 k (Nat.lt_succ_of_lt hk)) (fun k hk => h2 k (Nat.lt_succ_of_lt hk))]
    by_cases q1 : q n = true
    · rw [if_pos q1, if_pos q1, h2 n (Nat.lt_succ_self n) ((h1 n (Nat.lt_succ_self n)).trans q1)]
    · rw [if_neg q1, if_neg q1]
theorem mxk_le {p : Nat → Bool} {f : Nat → Nat} {b M : Nat} (hb : b ≤ M) (hf : ∀ i, f i ≤ M) : ∀ k, mxk p f b k ≤ M
  | 0 => hb
  | k + 1 => by
    have ih := mxk_le (p := p) hb hf k
    have := hf k
    unfold mxk
    split <;> omega
theorem sAl_r {v : Nat → Nat → Nat} {i j d : Nat} (h : sAl v i j d = true) : v i 1 = 0 ∧ v j 1 = 1 ∧ adf (sSize v i d) (sSize v j d) ≤ 1 := by
  unfold sAl at h
  have h := of_decide_eq_true h
  refine ⟨h.1, h.2.1, ?_⟩
  have h1 := h.2.2.2.2.1
  have h2 := h.2.2.2.2.2.1
  unfold adf
  split <;> omega
/-- only the right ones of G matter -/
theorem EE_congr {v : Nat → Nat → Nat} {n d c : Nat} : ∀ (t : Nat) {G H : Nat}, (∀ k, k < n → v k 1 = 1 → G.testBit k = H.testBit k) → EE v n d c t G = EE v n d c t H
  | 0, _, _, _ => rfl
  | t + 1, G, H, h => by
    unfold EE
    split
    · refine mxk_congr (EE_congr t h) (fun k hk => ?_) (fun k hk hp => ?_)
      · cases q : sAl v (n - (t + 1)) k d with
        | false => rfl
        | true => rw [h k hk (sAl_r q).2.1]
      · rw [EE_congr t (G := G ||| 2 ^ k) (H := H ||| 2 ^ k)]
        intro i hi hv
        rw [tb_or_bit, tb_or_bit, h i hi hv]
    · exact EE_congr t h
/-- what both bases say is the same -/
def lex (N a b : Nat) : Prop := ∃ D, D ≤ N ∧ N ≤ 10 ∧ a + D = 1000 * N ∧ b + D = 100 * N
def lexE (t a b : Nat) : Prop := ∃ N, N ≤ t ∧ lex N a b
theorem lex_max {t a b a' b' : Nat} (h : lexE t a b) (h' : lexE t a' b') : lexE t (max a a') (max b b') := by
  obtain ⟨N, h0, D, h1, h2, h3, h4⟩ := h
  obtain ⟨N', g0, D', g1, g2, g3, g4⟩ := h'
  by_cases q : a ≤ a'
  · have : b ≤ b' := by omega
    rw [Nat.max_eq_right q, Nat.max_eq_right this]
    exact ⟨N', g0, D', g1, g2, g3, g4⟩
  · have : b' ≤ b := by omega
    rw [Nat.max_eq_left (by omega), Nat.max_eq_left this]
    exact ⟨N, h0, D, h1, h2, h3, h4⟩
theorem lex_eq {t a b a' b' : Nat} (h : lexE t a b) (h' : lexE t a' b') : a = a' ↔ b = b' := by
  obtain ⟨N, h0, D, h1, h2, h3, h4⟩ := h
  obtain ⟨N', g0, D', g1, g2, g3, g4⟩ := h'
  omega
theorem lex_add {t a b z : Nat} (h : lexE t a b) (ht : t + 1 ≤ 10) (hz : z ≤ 1) : lexE (t + 1) (a + 1000 - z) (b + 100 - z) := by
  obtain ⟨N, h0, D, h1, h2, h3, h4⟩ := h
  exact ⟨N + 1, by omega, D + z, by omega, by omega, by omega, by omega⟩
theorem lexE_mono {t s a b : Nat} (h : lexE t a b) (hs : t ≤ s) : lexE s a b := by
  obtain ⟨N, h0, h1⟩ := h
  exact ⟨N, by omega, h1⟩
theorem lex_mxk {t : Nat} {p : Nat → Bool} {f g : Nat → Nat} {b c : Nat} (hb : lexE t b c) : ∀ {n : Nat}, (∀ k, k < n → p k = true → lexE t (f k) (g k)) → lexE t (mxk p f b n) (mxk p g c n)
  | 0, _ => hb
  | n + 1, h => by
    have ih := lex_mxk hb (fun k hk => h k (Nat.lt_succ_of_lt hk))
    unfold mxk
    by_cases q : p n = true
    · rw [if_pos q, if_pos q]
      exact lex_max ih (h n (Nat.lt_succ_self n) q)
    · rw [if_neg q, if_neg q]
      exact ih
theorem lex_EE {v : Nat → Nat → Nat} {n d : Nat} (hn : n ≤ 10) : ∀ (t : Nat), t ≤ n → ∀ G, lexE t (EE v n d 1000 t G) (EE v n d 100 t G)
  | 0, _, _ => ⟨0, Nat.le_refl 0, 0, by omega, by omega, rfl, rfl⟩
  | t + 1, ht, G => by
    unfold EE
    split
    · refine lex_mxk (lexE_mono (lex_EE hn t (by omega) G) (by omega)) (fun k hk hp => ?_)
      rw [Bool.and_eq_true] at hp
      exact lex_add (lex_EE hn t (by omega) _) (by omega) (sAl_r hp.1).2.2
    · exact lexE_mono (lex_EE hn t (by omega) G) (by omega)
theorem EE_lt {v : Nat → Nat → Nat} {n d : Nat} (hn : n ≤ 10) {t : Nat} (ht : t ≤ n) (G : Nat) : EE v n d 1000 t G ≤ 10000 ∧ EE v n d 100 t G ≤ 1000 := by
  obtain ⟨N, h0, D, h1, h2, h3, h4⟩ := lex_EE (d := d) (v := v) hn t ht G
  omega
/-- no left one from place n - t on -/
theorem EE_none {v : Nat → Nat → Nat} {n d c : Nat} : ∀ (t : Nat), t ≤ n → (∀ i, n - t ≤ i → i < n → v i 1 ≠ 0) → ∀ G, EE v n d c t G = 0
  | 0, _, _, _ => rfl
  | t + 1, ht, h, G => by
    unfold EE
    rw [if_neg (h (n - (t + 1)) (Nat.le_refl _) (by omega))]
    exact EE_none t (by omega) (fun i h1 h2 => h i (by omega) h2) G
/-- places that hold no left one may be left out -/
theorem EE_skip {v : Nat → Nat → Nat} {n d c : Nat} (G : Nat) : ∀ (k t : Nat), t + k ≤ n → (∀ i, n - (t + k) ≤ i → i < n - t → v i 1 ≠ 0) → EE v n d c (t + k) G = EE v n d c t G
  | 0, _, _, _ => rfl
  | k + 1, t, ht, h => by
    rw [show t + (k + 1) = (t + k) + 1 from rfl, EE, if_neg (h (n - (t + k + 1)) (by omega) (by omega))]
    exact EE_skip G k t (by omega) (fun i h1 h2 => h i (by omega) h2)
def vld (v : Nat → Nat → Nat) (n m j : Nat) : Prop := ∀ i, i < n → v i 1 = 0 → m.testBit i = decide (i < j)
section MX
variable {n d : Nat} {v : Nat → Nat → Nat} {ma sz : Nat → Int32}
theorem X1_dist_s (hn : n ≤ 10) (ok : okS n d v) (hl : LK v n d ma sz) {i j : Nat} (hi : i < n) (hj : j < n) : f_X1_distance (nI i) (nI j) sz = some (nI (adf (sSize v i d) (sSize v j d))) := by
  have h1 := sSize_le v i d
  have h2 := sSize_le v j d
  have h3 := (ok.2.2 i hi).2.2.2.1
  have h4 := (ok.2.2 j hj).2.2.2.1
  unfold f_X1_distance
  rw [X9_at_s (show i < 10 by omega) (by omega), bnd_some, X9_at_s (show j < 10 by omega) (by omega), bnd_some, (hl i hi).2, (hl j hj).2, i_abs (by omega) (by omega), bnd_some]
  rfl
theorem X1_worth_s (hn : n ≤ 10) (ok : okS n d v) (hl : LK v n d ma sz) {sets : Nat → Int32} {m i j e : Nat} (hm : m < 1024) (hi : i < n) (hj : j < n) (hs : sets (m ||| 2 ^ i ||| 2 ^ j) = nI e) (he : e ≤ 10000) : f_X1_worthOf (nI m) (nI i) (nI j) sets sz = some (nI (e + 1000 - adf (sSize v i d) (sSize v j d))) := by
  have h1 := sSize_le v i d
  have h2 := sSize_le v j d
  have h3 := (ok.2.2 i hi).2.2.2.1
  have h4 := (ok.2.2 j hj).2.2.2.1
  have p1 := pow_10 hi hn
  have p2 := pow_10 hj hn
  have p3 : m ||| 2 ^ i ||| 2 ^ j < 1024 := or_lt (k := 10) (or_lt (k := 10) hm p1) p2
  have a1 : adf (sSize v i d) (sSize v j d) ≤ 72 := by
    unfold adf
    split <;> omega
  unfold f_X1_worthOf
  rw [show (1 : Int32) = nI 1 from rfl, i_bit (by omega), i_bit (by omega), fa_or, fa_or, X9_at_s p3 (by omega), bnd_some, hs, X1_dist_s hn ok hl hi hj, bnd_some, show nI e + 1000 = nI (e + 1000) from nI_add e 1000, nIsub (by omega)]
/-- what the table holds from place M on -/
def TB (v : Nat → Nat → Nat) (n d : Nat) (sets : Nat → Int32) (M : Nat) : Prop := ∀ m, M ≤ m → m < 2 ^ n → ∀ j, j ≤ n → vld v n m j → sets m = nI (EE v n d 1000 (n - j) m)
theorem tbA {n S m k : Nat} (hk : k < n) (hn : n ≤ 10) : (S &&& (m ^^^ 4294967295)).testBit k = (S.testBit k && !m.testBit k) := tb_andnot (by omega)
theorem lt_or {m i : Nat} (h : m.testBit i = false) : m < m ||| 2 ^ i := by
  have h1 : m ≤ m ||| 2 ^ i := Nat.left_le_or
  have h2 : m ≠ m ||| 2 ^ i := by
    intro e
    have := congrArg (fun z => Nat.testBit z i) e
    simp [tb_or_bit, h] at this
  omega
theorem bestWithout_s (ok : okS n d v) (hl : LK v n d ma sz) {sets : Nat → Int32} {m : Nat} (hm : m < 2 ^ n) (hT : TB v n d sets (m + 1)) : ∃ x, f_X1_bestWithout (nI m) (nI (bits (fun i => decide (v i 1 = 0)) n)) (nI n) sets ma sz = some x ∧ ∀ j, j ≤ n → vld v n m j → x = nI (EE v n d 1000 (n - j) m) := by
  have hn := ok.1
  have hN := N_le hn
  have hL : bits (fun i => decide (v i 1 = 0)) n < 1024 := bits_10 _ hn
  have tL : ∀ k, k < n → (bits (fun i => decide (v i 1 = 0)) n &&& (m ^^^ 4294967295)).testBit k = (decide (v k 1 = 0) && !m.testBit k) := by
    intro k hk
    rw [tbA hk hn, tb_bits]
    simp [hk]
  unfold f_X1_bestWithout
  obtain ⟨r, e, E⟩ := lp_find (b := b_X1_bestWithout_1 (nI n) (nI (bits (fun i => decide (v i 1 = 0)) n)) (nI m)) (fun t s => s = nI t) (fun k => decide (v k 1 = 0) && !m.testBit k) (fun t r => r = nI t) n (0 : Int32) (by omega) rfl (by
    rintro t s ht rfl hp
    unfold b_X1_bestWithout_1
    rw [if_neg (nI_ge ht (by omega)), i_andnot, X9_hasBit_s (Nat.lt_of_lt_of_le (and_lt hL) (by omega)) (by omega), bnd_some, tL t ht, hp, if_neg (show ¬ nI (if true = true then 1 else 0) = 0 by decide)]
    exact ⟨_, rfl, rfl⟩) (by
    rintro t s ht rfl hp
    unfold b_X1_bestWithout_1
    rw [if_neg (nI_ge ht (by omega)), i_andnot, X9_hasBit_s (Nat.lt_of_lt_of_le (and_lt hL) (by omega)) (by omega), bnd_some, tL t ht, hp, if_pos (show nI (if false = true then 1 else 0) = 0 from rfl)]
    exact ⟨_, rfl, nI_add t 1⟩) (by
    rintro s rfl
    unfold b_X1_bestWithout_1
    rw [if_pos (nI_le (Nat.le_refl _) (by omega))]
    exact ⟨_, rfl, rfl⟩)
  have hle := ff_le (fun k => decide (v k 1 = 0) && !m.testBit k) n 0
  have hbefore : ∀ i, i < ff (fun k => decide (v k 1 = 0) && !m.testBit k) 0 n → v i 1 = 0 → m.testBit i = true := by
    intro i hi h0
    have := ff_before (p := fun k => decide (v k 1 = 0) && !m.testBit k) n 0 i (Nat.zero_le _) hi
    simpa [h0] using this
  have hsat : ff (fun k => decide (v k 1 = 0) && !m.testBit k) 0 n < n → v (ff (fun k => decide (v k 1 = 0) && !m.testBit k) 0 n) 1 = 0 ∧ m.testBit (ff (fun k => decide (v k 1 = 0) && !m.testBit k) 0 n) = false := by
    intro h
    have := ff_sat (p := fun k => decide (v k 1 = 0) && !m.testBit k) (k := n) (i := 0) (by omega)
    rw [Bool.and_eq_true] at this
    exact ⟨of_decide_eq_true this.1, by simpa using this.2⟩
  rw [Nat.zero_add] at hle
  subst E
  rw [e, bnd_some]
  generalize ff (fun k => decide (v k 1 = 0) && !m.testBit k) 0 n = f at hle hbefore hsat
  by_cases q : f = n
  · subst q
    rw [if_pos (nI_le (Nat.le_refl _) (by omega))]
    refine ⟨_, rfl, fun j hj hv => ?_⟩
    rw [EE_none (f - j) (by omega) (fun i h1 h2 h3 => ?_)]
    · rfl
    · have a := hbefore i h2 h3
      rw [hv i h2 h3] at a
      have := of_decide_eq_true a
      omega
  · have hf : f < n := by omega
    obtain ⟨s0, s1⟩ := hsat hf
    rw [if_neg (nI_ge hf (by omega)), fa_and, i_shr (Nat.lt_of_lt_of_le (and_lt hL) (by omega)) (by omega)]
    have hvf : ∀ j, j ≤ n → vld v n m j → j ≤ f ∧ (∀ i, j ≤ i → i < f → v i 1 ≠ 0) ∧ vld v n m f := by
      intro j hj hv
      have a := hv f hf s0
      rw [s1] at a
      have a := of_decide_eq_false a.symm
      refine ⟨by omega, fun i h1 h2 h3 => ?_, fun i h1 h2 => ?_⟩
      · have b := hbefore i h2 h3
        rw [hv i (by omega) h3] at b
        have := of_decide_eq_true b
        omega
      · by_cases c : i < f
        · rw [hbefore i c h2]
          simp [c]
        · rw [hv i h1 h2]
          have : ¬ i < j := by omega
          simp [c, this]
    by_cases z : (bits (fun i => decide (v i 1 = 0)) n &&& m) / 2 ^ f = 0
    · rw [z, if_pos (show nI 0 = 0 from rfl)]
      have p1 : 2 ^ f < 2 ^ n := bit_lt hf
      have p2 : m ||| 2 ^ f < 2 ^ n := or_lt hm p1
      have hlt := lt_or s1
      -- here the set is one of those that count
      have hvl : vld v n m f := by
        intro i h1 h2
        by_cases c : i < f
        · rw [hbefore i c h2]
          simp [c]
        · have hz : (bits (fun i => decide (v i 1 = 0)) n &&& m).testBit i = false := by
            have : bits (fun i => decide (v i 1 = 0)) n &&& m < 2 ^ f := by
              rcases Nat.div_eq_zero_iff.mp z with w | w
              · exact absurd w (Nat.pos_iff_ne_zero.mp (Nat.two_pow_pos f))
              · exact w
            exact Nat.testBit_lt_two_pow (Nat.lt_of_lt_of_le this (Nat.pow_le_pow_right (by decide) (by omega)))
          rw [Nat.testBit_and, tb_bits] at hz
          simp [h1, h2] at hz
          simp [c, hz]
      have hv1 : vld v n (m ||| 2 ^ f) (f + 1) := by
        intro i h1 h2
        rw [tb_or_bit, hvl i h1 h2]
        by_cases c : f = i
        · subst c
          simp
        · have : (i < f + 1) ↔ i < f := by omega
          simp [c, this]
      rw [show (1 : Int32) = nI 1 from rfl, i_bit (by omega), fa_or, X9_at_s (show m ||| 2 ^ f < 1024 by omega) (by omega), bnd_some, hT _ (by omega) p2 (f + 1) (by omega) hv1]
      have hE0 : EE v n d 1000 (n - (f + 1)) (m ||| 2 ^ f) = EE v n d 1000 (n - (f + 1)) m := EE_congr _ (fun k hk hv => by
        rw [tb_or_bit]
        have : ¬ f = k := by
          intro e
          subst e
          omega
        simp [this])
      rw [hE0, show (nI (EE v n d 1000 (n - (f + 1)) m), (0 : Int32)) = (fun t => (nI (mxk (fun k => sAl v f k d && !m.testBit k) (fun k => EE v n d 1000 (n - (f + 1)) (m ||| 2 ^ k) + 1000 - adf (sSize v f d) (sSize v k d)) (EE v n d 1000 (n - (f + 1)) m) t), nI t)) 0 from rfl]
      rw [lp_seq (b := u2 (b_X1_bestWithout_2 (nI n) (nI f) ma sets sz (nI m))) (fun t => (nI (mxk (fun k => sAl v f k d && !m.testBit k) (fun k => EE v n d 1000 (n - (f + 1)) (m ||| 2 ^ k) + 1000 - adf (sSize v f d) (sSize v k d)) (EE v n d 1000 (n - (f + 1)) m) t), nI t)) n (nI (mxk (fun k => sAl v f k d && !m.testBit k) (fun k => EE v n d 1000 (n - (f + 1)) (m ||| 2 ^ k) + 1000 - adf (sSize v f d) (sSize v k d)) (EE v n d 1000 (n - (f + 1)) m) n), nI n) (by omega) ?_ ?_]
      · refine ⟨_, rfl, fun j hj hv => ?_⟩
        obtain ⟨h1, h2, h3⟩ := hvf j hj hv
        have e1 : n - j = (n - f) + (f - j) := by omega
        rw [e1, EE_skip m (f - j) (n - f) (by omega) (fun i g1 g2 => h2 i (by omega) (by omega))]
        obtain ⟨t, ht⟩ : ∃ t, n - f = t + 1 := ⟨n - f - 1, by omega⟩
        have e2 : n - (f + 1) = t := by omega
        have e3 : n - (t + 1) = f := by omega
        rw [ht, e2, EE, e3, if_pos s0]
      · intro k hk
        have bE := (EE_lt (v := v) (d := d) hn (show n - (f + 1) ≤ n by omega) (m ||| 2 ^ k)).1
        have hb0 : mxk (fun k => sAl v f k d && !m.testBit k) (fun k => EE v n d 1000 (n - (f + 1)) (m ||| 2 ^ k) + 1000 - adf (sSize v f d) (sSize v k d)) (EE v n d 1000 (n - (f + 1)) m) k ≤ 11000 := mxk_le (Nat.le_trans (EE_lt (v := v) (d := d) hn (show n - (f + 1) ≤ n by omega) m).1 (by omega)) (fun i => by
          have := (EE_lt (v := v) (d := d) hn (show n - (f + 1) ≤ n by omega) (m ||| 2 ^ i)).1
          omega) k
        dsimp only [u2, b_X1_bestWithout_2]
        rw [if_neg (nI_ge hk (by omega)), X9_at_s (show f < 10 by omega) (by omega), bnd_some, (hl f hf).1, i_andnot, X9_hasBit_s (Nat.lt_of_lt_of_le (and_lt (bits_10 _ hn)) (by omega)) (by omega), bnd_some, tbA hk hn, tb_bits, show nI k + 1 = nI (k + 1) from nI_add k 1, mxk]
        have hz : sAl v k f d = false := by
          unfold sAl
          simp only [decide_eq_false_iff_not]
          intro z
          have := z.2.1
          omega
        simp only [hk, decide_true, Bool.true_and, hz, Bool.or_false]
        rcases Bool.eq_false_or_eq_true (sAl v f k d && !m.testBit k) with g | g
        · simp only [g, if_true]
          rw [Bool.and_eq_true] at g
          have g1 := sAl_r g.1
          have hv2 : vld v n (m ||| 2 ^ f ||| 2 ^ k) (f + 1) := by
            intro i h1 h2
            rw [tb_or_bit, hv1 i h1 h2]
            have : ¬ k = i := by
              intro e
              subst e
              omega
            simp [this]
          have p3 : m ||| 2 ^ f ||| 2 ^ k < 2 ^ n := or_lt p2 (bit_lt hk)
          have p4 : m ||| 2 ^ f ≤ m ||| 2 ^ f ||| 2 ^ k := Nat.left_le_or
          have hE1 : EE v n d 1000 (n - (f + 1)) (m ||| 2 ^ f ||| 2 ^ k) = EE v n d 1000 (n - (f + 1)) (m ||| 2 ^ k) := EE_congr _ (fun i hi hv => by
            rw [tb_or_bit, tb_or_bit, tb_or_bit]
            have : ¬ f = i := by
              intro e
              subst e
              omega
            simp [this])
          have hW := X1_worth_s hn ok hl (show m < 1024 by omega) hf hk ((hT _ (by omega) p3 (f + 1) (by omega) hv2).trans (by rw [hE1])) bE
          rw [if_neg (show ¬ nI 1 = 0 by decide), hW, bnd_some]
          have a1 := g1.2.2
          generalize EE v n d 1000 (n - (f + 1)) (m ||| 2 ^ k) = y at bE hW ⊢
          generalize mxk (fun k => sAl v f k d && !m.testBit k) (fun k => EE v n d 1000 (n - (f + 1)) (m ||| 2 ^ k) + 1000 - adf (sSize v f d) (sSize v k d)) (EE v n d 1000 (n - (f + 1)) m) k = x at hb0 ⊢
          by_cases c : x < y + 1000 - adf (sSize v f d) (sSize v k d)
          · rw [if_pos (nI_lt c (by omega)), bnd_some, Nat.max_eq_right (by omega)]
          · rw [if_neg (nI_nlt (by omega) (by omega)), bnd_some, Nat.max_eq_left (by omega)]
        · simp only [g, Bool.false_eq_true, if_false]
          rw [if_pos (show nI 0 = 0 from rfl)]
      · dsimp only [u2, b_X1_bestWithout_2]
        rw [if_pos (nI_le (Nat.le_refl _) (by omega))]
    · have z2 : (bits (fun i => decide (v i 1 = 0)) n &&& m) / 2 ^ f < 1024 := Nat.lt_of_le_of_lt (Nat.div_le_self _ _) (and_lt hL)
      rw [if_neg (show ¬ nI ((bits (fun i => decide (v i 1 = 0)) n &&& m) / 2 ^ f) = 0 from fun e => z (nI_inj (b := 0) (by omega) (by omega) e))]
      refine ⟨_, rfl, fun j hj hv => ?_⟩
      exfalso
      apply z
      obtain ⟨h1, h2, h3⟩ := hvf j hj hv
      apply Nat.eq_of_testBit_eq
      intro i
      rw [Nat.testBit_div_two_pow, Nat.zero_testBit, Nat.testBit_and, tb_bits]
      by_cases c : i + f < n
      · by_cases c2 : v (i + f) 1 = 0
        · rw [h3 _ c c2]
          simp
        · simp [c2]
      · simp [c]
end MX
