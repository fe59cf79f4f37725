/-! pairs: the reference's table -/
theorem cnt_mono (p : Nat → Bool) (a : Nat) : ∀ k, cnt p a ≤ cnt p (a + k)
  | 0 => Nat.le_refl _
  | k + 1 => by
    have := cnt_mono p a k
    rw [show a + (k + 1) = (a + k) + 1 from rfl, cnt]
    split <;> omega
theorem cnt_lt {p : Nat → Bool} {a b : Nat} (h : a < b) (hp : p a = true) : cnt p a < cnt p b := by
  have := cnt_mono p (a + 1) (b - (a + 1))
  rw [show a + 1 + (b - (a + 1)) = b by omega, cnt, if_pos hp] at this
  omega
theorem cnt_no {p : Nat → Bool} {a b i : Nat} (h : cnt p a = cnt p b) (h1 : a ≤ i) (h2 : i < b) : p i = false := by
  cases q : p i with
  | false => rfl
  | true =>
    have h3 := cnt_lt h2 q
    have h4 := cnt_mono p a (i - a)
    rw [show a + (i - a) = i by omega] at h4
    omega
theorem cnt_surj {p : Nat → Bool} : ∀ {n r : Nat}, r < cnt p n → ∃ k, k < n ∧ p k = true ∧ cnt p k = r
  | 0, r, h => absurd h (Nat.not_lt_zero r)
  | n + 1, r, h => by
    rw [cnt] at h
    by_cases q : p n = true
    · rw [if_pos q] at h
      by_cases e : r = cnt p n
      · exact ⟨n, Nat.lt_succ_self n, q, e.symm⟩
      · obtain ⟨k, h1, h2, h3⟩ := cnt_surj (p := p) (n := n) (r := r) (by omega)
        exact ⟨k, by omega, h2, h3⟩
    · rw [if_neg q] at h
      obtain ⟨k, h1, h2, h3⟩ := cnt_surj (n := n) (r := r) h
      exact ⟨k, by omega, h2, h3⟩
/-- what doesn't change at places without p is told by how many p lie before -/
theorem rk_const {α : Type} {p : Nat → Bool} {F : Nat → α} {n : Nat} (h : ∀ k, k < n → p k = false → F (k + 1) = F k) : ∀ (m a : Nat), a + m ≤ n → cnt p (a + m) = cnt p a → F (a + m) = F a
  | 0, _, _, _ => rfl
  | m + 1, a, hn, e => by
    have e1 := cnt_no (p := p) (a := a) (b := a + (m + 1)) (i := a + m) e.symm (by omega) (by omega)
    have e2 : cnt p (a + m) = cnt p a := by
      rw [show a + (m + 1) = (a + m) + 1 from rfl, cnt, if_neg (by rw [e1]; decide)] at e
      exact e
    rw [show a + (m + 1) = (a + m) + 1 from rfl, h (a + m) (by omega) e1]
    exact rk_const h m a (by omega) e2
theorem rk_same {α : Type} {p : Nat → Bool} {F : Nat → α} {n : Nat} (h : ∀ k, k < n → p k = false → F (k + 1) = F k) {a b : Nat} (ha : a ≤ n) (hb : b ≤ n) (e : cnt p a = cnt p b) : F a = F b := by
  by_cases q : a ≤ b
  · have := rk_const h (b - a) a (by omega) (by rw [show a + (b - a) = b by omega, e])
    rw [show a + (b - a) = b by omega] at this
    exact this.symm
  · have := rk_const h (a - b) b (by omega) (by rw [show b + (a - b) = a by omega, e])
    rw [show b + (a - b) = a by omega] at this
    exact this
def lP (v : Nat → Nat → Nat) : Nat → Bool := fun i => decide (v i 1 = 0)
def rP (v : Nat → Nat → Nat) : Nat → Bool := fun i => decide (v i 1 = 1)
theorem lr_sum {v : Nat → Nat → Nat} : ∀ {n : Nat}, (∀ i, i < n → v i 1 ≤ 1) → cnt (lP v) n + cnt (rP v) n = n
  | 0, _ => rfl
  | n + 1, h => by
    have ih := lr_sum (v := v) (n := n) (fun i hi => h i (by omega))
    have h1 := h n (by omega)
    rw [cnt, cnt]
    unfold lP rP at ih ⊢
    by_cases q : v n 1 = 0
    · simp [q]
      omega
    · have : v n 1 = 1 := by omega
      simp [this]
      omega
def LR (v : Nat → Nat → Nat) (n : Nat) (L R : Nat → Int32) : Prop := ∀ j, j < n → (v j 1 = 0 → L (cnt (lP v) j) = nI j) ∧ (v j 1 = 1 → R (cnt (rP v) j) = nI j)
def RGg (v : Nat → Nat → Nat) (n g G : Nat) : Prop := ∀ k, k < n → v k 1 = 1 → G.testBit k = g.testBit (cnt (rP v) k)
def Gof (v : Nat → Nat → Nat) (n g : Nat) : Nat := bits (fun k => rP v k && g.testBit (cnt (rP v) k)) n
theorem Gof_ok (v : Nat → Nat → Nat) (n g : Nat) : RGg v n g (Gof v n g) := by
  intro k hk hv
  unfold Gof
  rw [tb_bits]
  unfold rP
  simp [hk, hv]
theorem RGg_or {v : Nat → Nat → Nat} {n g G k : Nat} (h : RGg v n g G) (hk : k < n) (hv : v k 1 = 1) : RGg v n (g ||| 2 ^ cnt (rP v) k) (G ||| 2 ^ k) := by
  intro i hi hiv
  rw [tb_or_bit, tb_or_bit, h i hi hiv]
  congr 1
  have : (k = i) ↔ cnt (rP v) k = cnt (rP v) i := by
    constructor
    · intro e
      rw [e]
    · intro e
      rcases Nat.lt_trichotomy k i with q | q | q
      · have := cnt_lt (p := rP v) q (decide_eq_true hv)
        omega
      · exact q
      · have := cnt_lt (p := rP v) q (decide_eq_true hiv)
        omega
  simp [this]
theorem EE_rk {v : Nat → Nat → Nat} {n d c G : Nat} {a b : Nat} (ha : a ≤ n) (hb : b ≤ n) (e : cnt (lP v) a = cnt (lP v) b) : EE v n d c (n - a) G = EE v n d c (n - b) G :=
  rk_same (p := lP v) (F := fun j => EE v n d c (n - j) G) (fun k hk hp => by
    have h0 : ¬ v k 1 = 0 := of_decide_eq_false hp
    show EE v n d c (n - (k + 1)) G = EE v n d c (n - k) G
    rw [show n - k = (n - (k + 1)) + 1 by omega, EE, if_neg]
    rw [show n - (n - (k + 1) + 1) = k by omega]
    exact h0) ha hb e
theorem tab_c : ∀ a, a < 11 → ∀ b, b < 11 → a + b ≤ 10 → (a + 1) * 2 ^ b ≤ 1100 := by decide +kernel
section MT
variable {n d : Nat} {v : Nat → Nat → Nat} {st nw : Nat → Int32}
theorem findSides_s (hs1 : st 1 = nI n) (hm : MN nw n d v) (ok : okS n d v) (L0 R0 : Nat → Int32) : ∃ L R, f_X10_findSides st nw L0 R0 = some (nI (cnt (lP v) n), nI (cnt (rP v) n), L, R) ∧ LR v n L R := by
  have hn := ok.1
  unfold f_X10_findSides
  obtain ⟨q, e, z, L, R, rfl, E⟩ := lp_cnt (b := u5 (b_X10_findSides_1 nw st)) (fun t q => ∃ L R, q = (nI t, nI (cnt (lP v) t), nI (cnt (rP v) t), L, R) ∧ LR v t L R) (fun q => ∃ z L R, q = (z, nI (cnt (lP v) n), nI (cnt (rP v) n), L, R) ∧ LR v n L R) n ((0 : Int32), (0 : Int32), (0 : Int32), L0, R0) (by omega) ⟨L0, R0, rfl, fun j hj => absurd hj (by omega)⟩ (by
    rintro t q ht ⟨L, R, rfl, h⟩
    have o1 := (ok.2.2 t ht).2.1
    have c1 := cnt_le (lP v) t
    have c2 := cnt_le (rP v) t
    dsimp only [u5, b_X10_findSides_1]
    rw [rd1 (f := st) (by omega), bnd_some, hs1, if_neg (nI_ge ht (by omega)), M_sideOf_s hm hn ht, bnd_some, show nI t + 1 = nI (t + 1) from nI_add t 1, show nI (cnt (lP v) t) + 1 = nI (cnt (lP v) t + 1) from nI_add _ 1, show nI (cnt (rP v) t) + 1 = nI (cnt (rP v) t + 1) from nI_add _ 1, wr_s (show cnt (lP v) t < 10 by omega) (by omega), wr_s (show cnt (rP v) t < 10 by omega) (by omega), bnd_some, bnd_some]
    by_cases q : v t 1 = 0
    · have e1 : cnt (lP v) (t + 1) = cnt (lP v) t + 1 := by
        rw [cnt, if_pos (show lP v t = true from decide_eq_true q)]
      have e2 : cnt (rP v) (t + 1) = cnt (rP v) t := by
        rw [cnt, if_neg]
        unfold rP
        simp [q]
      rw [if_pos (show nI (v t 1) = 0 from by rw [q]; rfl), e1, e2]
      refine ⟨_, rfl, _, _, rfl, fun j hj => ⟨fun hv => ?_, fun hv => ?_⟩⟩
      · by_cases c : j = t
        · subst c
          simp
        · have := cnt_lt (p := lP v) (show j < t by omega) (decide_eq_true hv)
          rw [if_neg (by omega)]
          exact (h j (by omega)).1 hv
      · have : j ≠ t := by
          intro c
          subst c
          omega
        exact (h j (by omega)).2 hv
    · have q1 : v t 1 = 1 := by omega
      have e1 : cnt (rP v) (t + 1) = cnt (rP v) t + 1 := by
        rw [cnt, if_pos (show rP v t = true from decide_eq_true q1)]
      have e2 : cnt (lP v) (t + 1) = cnt (lP v) t := by
        rw [cnt, if_neg]
        unfold lP
        simp [q1]
      rw [if_neg (show ¬ nI (v t 1) = 0 from fun e => q (nI_inj (b := 0) (by omega) (by omega) e)), e1, e2]
      refine ⟨_, rfl, _, _, rfl, fun j hj => ⟨fun hv => ?_, fun hv => ?_⟩⟩
      · have : j ≠ t := by
          intro c
          subst c
          omega
        exact (h j (by omega)).1 hv
      · by_cases c : j = t
        · subst c
          simp
        · have := cnt_lt (p := rP v) (show j < t by omega) (decide_eq_true hv)
          rw [if_neg (by omega)]
          exact (h j (by omega)).2 hv) (by
    rintro q ⟨L, R, rfl, h⟩
    dsimp only [u5, b_X10_findSides_1]
    rw [rd1 (f := st) (by omega), bnd_some, hs1, if_pos (nI_le (Nat.le_refl _) (by omega))]
    exact ⟨_, rfl, _, _, _, rfl, h⟩)
  rw [e]
  exact ⟨L, R, rfl, E⟩
theorem mayPair_s (hm : MN nw n d v) (ok : okS n d v) {L R : Nat → Int32} (hLR : LR v n L R) {g j k : Nat} (hg : g < 1024) (hj : j < n) (hk : k < n) (h0 : v j 1 = 0) (h1 : v k 1 = 1) : f_X10_mayPair (nI (cnt (lP v) j)) (nI g) (nI (cnt (rP v) k)) nw L R = some (nI (if sAl v j k d && !g.testBit (cnt (rP v) k) then 1 else 0)) := by
  have hn := ok.1
  have hd := ok.2.1
  have c1 := cnt_le (lP v) j
  have c2 := cnt_le (rP v) k
  unfold f_X10_mayPair
  rw [M_has_s (by omega) (by omega), bnd_some, rd_s (show cnt (lP v) j < 10 by omega) (by omega), bnd_some, rd_s (show cnt (rP v) k < 10 by omega) (by omega), bnd_some, (hLR j hj).1 h0, (hLR k hk).2 h1, M_areAlike_s hm hn hj hk (ok.2.2 j hj) (ok.2.2 k hk) (by omega), bnd_some]
  have hz : sAl v k j d = false := by
    unfold sAl
    simp only [decide_eq_false_iff_not]
    intro z
    have := z.1
    omega
  rw [hz, Bool.or_false]
  rcases Bool.eq_false_or_eq_true (g.testBit (cnt (rP v) k)) with b | b
  · simp only [b, if_true, Bool.not_true, Bool.and_false, Bool.false_eq_true, if_false]
    rw [if_neg (show ¬ nI 1 = 0 by decide)]
    rfl
  · simp only [b, Bool.false_eq_true, if_false, Bool.not_false, Bool.and_true]
    rw [if_pos (show nI 0 = 0 from rfl)]
    rcases Bool.eq_false_or_eq_true (sAl v j k d) with a | a
    · simp only [a, if_true]
      rw [if_neg (show ¬ nI 1 = 0 by decide)]
      rfl
    · simp only [a, Bool.false_eq_true, if_false]
      rw [if_pos (show nI 0 = 0 from rfl)]
      rfl
/-- the table: rows from I on -/
def MB (v : Nat → Nat → Nat) (n d : Nat) (best : Nat → Int32) (I : Nat) : Prop := ∀ i, I ≤ i → ∀ g, g < 2 ^ cnt (rP v) n → ∀ G, RGg v n g G → ∀ j, j ≤ n → cnt (lP v) j = i → best (i * 2 ^ cnt (rP v) n + g) = nI (EE v n d 100 (n - j) G)
theorem bestWith_s (hm : MN nw n d v) (ok : okS n d v) {L R best : Nat → Int32} (hLR : LR v n L R) {g G j k : Nat} (hT : MB v n d best (cnt (lP v) j + 1)) (hg : g < 2 ^ cnt (rP v) n) (hG : RGg v n g G) (hj : j < n) (hk : k < n) (h0 : v j 1 = 0) (h1 : v k 1 = 1) (hA : sAl v j k d = true) : f_X10_bestWith (nI (cnt (lP v) j)) (nI g) (nI (cnt (rP v) k)) (nI (cnt (rP v) n)) nw L R best = some (nI (EE v n d 100 (n - (j + 1)) (G ||| 2 ^ k) + 100 - adf (sSize v j d) (sSize v k d))) := by
  have hn := ok.1
  have hd := ok.2.1
  have hv : ∀ i, i < n → v i 1 ≤ 1 := fun i hi => (ok.2.2 i hi).2.1
  have c1 := cnt_lt (p := lP v) hj (decide_eq_true h0)
  have c2 := cnt_lt (p := rP v) hk (decide_eq_true h1)
  have c3 := lr_sum hv
  have tc := tab_c (cnt (lP v) n) (by omega) (cnt (rP v) n) (by omega) (by omega)
  have z1 := sSize_le v j d
  have z2 := sSize_le v k d
  have z3 := (ok.2.2 j hj).2.2.2.1
  have z4 := (ok.2.2 k hk).2.2.2.1
  have lc1 : cnt (lP v) (j + 1) = cnt (lP v) j + 1 := by rw [cnt, if_pos (show lP v j = true from decide_eq_true h0)]
  have gk : g ||| 2 ^ cnt (rP v) k < 2 ^ cnt (rP v) n := or_lt hg (bit_lt c2)
  have ix : (cnt (lP v) j + 1) * 2 ^ cnt (rP v) n + (g ||| 2 ^ cnt (rP v) k) < 1100 := by
    have a1 : (cnt (lP v) j + 1) * 2 ^ cnt (rP v) n ≤ cnt (lP v) n * 2 ^ cnt (rP v) n := Nat.mul_le_mul_right _ c1
    have a2 : (cnt (lP v) n + 1) * 2 ^ cnt (rP v) n = cnt (lP v) n * 2 ^ cnt (rP v) n + 2 ^ cnt (rP v) n := Nat.succ_mul _ _
    omega
  have hB := hT (cnt (lP v) j + 1) (Nat.le_refl _) _ gk (G ||| 2 ^ k) (RGg_or hG hk h1) (j + 1) (by omega) lc1
  have hE := (EE_lt (v := v) (d := d) hn (show n - (j + 1) ≤ n by omega) (G ||| 2 ^ k)).2
  have hA1 := (sAl_r hA).2.2
  unfold f_X10_bestWith
  rw [show nI (cnt (lP v) j) + 1 = nI (cnt (lP v) j + 1) from nI_add _ 1, i_shl (by omega) (by omega), show (1 : Int32) <<< (nI (cnt (rP v) k) &&& 31) = nI (2 ^ cnt (rP v) k) from i_bit (by omega), fa_or, nI_add, rd_s ix (by omega), bnd_some, hB, rd_s (show cnt (lP v) j < 10 by omega) (by omega), bnd_some, (hLR j hj).1 h0, M_sizeOf_s hm hn hj (ok.2.2 j hj) (by omega), bnd_some, rd_s (show cnt (rP v) k < 10 by omega) (by omega), bnd_some, (hLR k hk).2 h1, M_sizeOf_s hm hn hk (ok.2.2 k hk) (by omega), bnd_some, M_apart_s (by omega) (by omega), bnd_some]
  have e : (if sSize v j d < sSize v k d then sSize v k d - sSize v j d else sSize v j d - sSize v k d) = adf (sSize v j d) (sSize v k d) := by
    unfold adf
    split <;> split <;> omega
  rw [e, show (100 : Int32) - nI (adf (sSize v j d) (sSize v k d)) = nI (100 - adf (sSize v j d) (sSize v k d)) from nIsub (a := 100) (by omega), nI_add]
  congr 2
  omega
end MT
