/-! sets as bits of a number (fa_, fb_ rows: the kit's plain facts, given for pasting) -/
theorem fa_and (a b : Nat) : nI a &&& nI b = nI (a &&& b) := by
  apply Int32.toBitVec_inj.1
  show BitVec.ofNat 32 a &&& BitVec.ofNat 32 b = BitVec.ofNat 32 (a &&& b)
  apply BitVec.eq_of_getLsbD_eq
  intro i hi
  simp [hi]
theorem fa_or (a b : Nat) : nI a ||| nI b = nI (a ||| b) := by
  apply Int32.toBitVec_inj.1
  show BitVec.ofNat 32 a ||| BitVec.ofNat 32 b = BitVec.ofNat 32 (a ||| b)
  apply BitVec.eq_of_getLsbD_eq
  intro i hi
  simp [hi]
theorem fb_xorI (a b : Nat) : nI a ^^^ nI b = nI (a ^^^ b) := by
  apply Int32.toBitVec_inj.1
  show BitVec.ofNat 32 a ^^^ BitVec.ofNat 32 b = BitVec.ofNat 32 (a ^^^ b)
  apply BitVec.eq_of_getLsbD_eq
  intro i hi
  simp [hi]
theorem sh_amt {k : Nat} (hk : k < 32) : ((nI k &&& 31).toBitVec.smod 32).toNat = k := by
  have h : ∀ k, k < 32 → ((nI k &&& 31).toBitVec.smod 32).toNat = k := by decide +kernel
  exact h k hk
theorem i_shl {m k : Nat} (hk : k < 32) (h : m * 2 ^ k < 4294967296) : nI m <<< (nI k &&& 31) = nI (m * 2 ^ k) := pk_shlN _ k (sh_amt hk) h
theorem i_bit {k : Nat} (hk : k < 31) : nI 1 <<< (nI k &&& 31) = nI (2 ^ k) := by
  have h2 : (2 : Nat) ^ k < 2 ^ 31 := Nat.pow_lt_pow_right (by decide) hk
  rw [i_shl (by omega) (by omega), Nat.one_mul]
theorem i_shr {m k : Nat} (hm : m < 2147483648) (hk : k < 32) : nI m >>> (nI k &&& 31) = nI (m / 2 ^ k) := pk_shrN hm _ k (sh_amt hk)
theorem i_tb {m k : Nat} (hm : m < 2147483648) (hk : k < 32) : ((nI m >>> (nI k &&& 31)) &&& nI 1) = nI (if m.testBit k then 1 else 0) := by
  rw [i_shr hm hk, show nI 1 = nI (2 ^ 1 - 1) from rfl, fa_and, Nat.and_two_pow_sub_one_eq_mod, Nat.testBit_eq_decide_div_mod_eq]
  congr 1
  by_cases h : m / 2 ^ k % 2 = 1
  · rw [if_pos (by simpa using h)]
    simpa using h
  · rw [if_neg (by simpa using h)]
    have := Nat.mod_lt (m / 2 ^ k) (show 0 < 2 by omega)
    simp at h ⊢
    omega
theorem X9_hasBit_s {m k : Nat} (hm : m < 2147483648) (hk : k < 31) : f_X9_hasBit (nI m) (nI k) = some (nI (if m.testBit k then 1 else 0)) := by
  unfold f_X9_hasBit
  rw [l1, i_tb hm (by omega)]
  by_cases h : m.testBit k = true
  · simp (disch := omega) only [l0, l1, l2, l3, l4, l5, l6, l7, l8, l9, l10, l12, l20, l24, l30, l31, l32, l40, l47, l48, l50, l52, l57, l60, l72, l79, l90, l98, l99, l100, l103, l104, l126, l200, l360, l364, l416, l999, l1000, l1024, nI_add, pk_mul, nIsub, nIdiv, nIrem, nIle, nIlt, nIeq, rd_s, wr_s, bnd_some, u2, u3, u4, u5, u6, u7, if_pos, if_neg, ne_eq, not_false_eq_true, Nat.add_sub_cancel, if_true, if_false, h]
  · simp (disch := omega) only [l0, l1, l2, l3, l4, l5, l6, l7, l8, l9, l10, l12, l20, l24, l30, l31, l32, l40, l47, l48, l50, l52, l57, l60, l72, l79, l90, l98, l99, l100, l103, l104, l126, l200, l360, l364, l416, l999, l1000, l1024, nI_add, pk_mul, nIsub, nIdiv, nIrem, nIle, nIlt, nIeq, rd_s, wr_s, bnd_some, u2, u3, u4, u5, u6, u7, if_pos, if_neg, ne_eq, not_false_eq_true, Nat.add_sub_cancel, if_true, if_false, h]
    simp [h, l0]
theorem M_has_s {m k : Nat} (hm : m < 2147483648) (hk : k < 31) : f_X10_has (nI m) (nI k) = some (nI (if m.testBit k then 1 else 0)) := by
  unfold f_X10_has
  rw [l1, i_tb hm (by omega)]
  by_cases h : m.testBit k = true
  · simp [h]
  · simp [h]
    rw [if_neg (by decide)]
    rfl
/-- a number of 10 bits by another's complement -/
theorem i_andnot (a g : Nat) : nI a &&& (nI g ^^^ (-1)) = nI (a &&& (g ^^^ 4294967295)) := by
  rw [show (-1 : Int32) = nI 4294967295 from rfl, fb_xorI, fa_and]
theorem tb_andnot {a g k : Nat} (hk : k < 32) : (a &&& (g ^^^ 4294967295)).testBit k = (a.testBit k && !g.testBit k) := by
  rw [Nat.testBit_and, Nat.testBit_xor, show (4294967295 : Nat) = 2 ^ 32 - 1 from rfl, Nat.testBit_two_pow_sub_one]
  simp [hk]
theorem and_lt {a b c : Nat} (h : a < c) : a &&& b < c := Nat.lt_of_le_of_lt Nat.and_le_left h
theorem or_lt {a b k : Nat} (ha : a < 2 ^ k) (hb : b < 2 ^ k) : a ||| b < 2 ^ k := Nat.or_lt_two_pow ha hb
theorem bit_lt {k n : Nat} (h : k < n) : 2 ^ k < 2 ^ n := Nat.pow_lt_pow_right (by decide) h
theorem tb_or_bit (a k j : Nat) : (a ||| 2 ^ k).testBit j = (a.testBit j || decide (k = j)) := by
  rw [Nat.testBit_or, Nat.testBit_two_pow]
/-- the bits of a property of the numbers below n -/
def bits (p : Nat → Bool) : Nat → Nat
  | 0 => 0
  | n + 1 => if p n then bits p n ||| 2 ^ n else bits p n
theorem bits_lt (p : Nat → Bool) : ∀ n, bits p n < 2 ^ n
  | 0 => Nat.lt_succ_self 0
  | n + 1 => by
    have h := bits_lt p n
    have h2 : 2 ^ n < 2 ^ (n + 1) := bit_lt (Nat.lt_succ_self n)
    unfold bits
    split
    · exact or_lt (Nat.lt_trans h h2) h2
    · exact Nat.lt_trans h h2
theorem tb_bits (p : Nat → Bool) (j : Nat) : ∀ n, (bits p n).testBit j = (decide (j < n) && p j)
  | 0 => by simp [bits]
  | n + 1 => by
    have h := tb_bits p j n
    unfold bits
    by_cases q : p n = true
    · rw [if_pos q, tb_or_bit, h]
      by_cases e : n = j
      · subst e; simp [q]
      · have : (j < n + 1) ↔ j < n := by omega
        simp [e, this]
    · rw [if_neg q, h]
      by_cases e : n = j
      · subst e; simp [q]
      · have : (j < n + 1) ↔ j < n := by omega
        simp [this]
theorem bits_cong {p q : Nat → Bool} : ∀ {n : Nat}, (∀ i, i < n → p i = q i) → bits p n = bits q n
  | 0, _ => rfl
  | n + 1, h => by
    unfold bits
    rw [bits_cong (fun i hi => h i (by omega)), h n (by omega)]
theorem bits_10 (p : Nat → Bool) {n : Nat} (hn : n ≤ 10) : bits p n < 1024 := Nat.lt_of_lt_of_le (bits_lt p n) (Nat.pow_le_pow_right (by decide) hn)
theorem pow_10 {i n : Nat} (hi : i < n) (hn : n ≤ 10) : 2 ^ i < 1024 := Nat.lt_of_lt_of_le (bit_lt hi) (Nat.pow_le_pow_right (by decide) hn)
theorem z0 : (nI 0 = 0) = True := eq_true rfl
theorem z10 : (nI 1 = nI 0) = False := eq_false (by decide)
theorem z1 : (nI 1 = 0) = False := eq_false (by decide)
section XB
variable {c : Nat → Int32} {n d : Nat} {v : Nat → Nat → Nat}
theorem X4_ofSide_s (hc : XC c n v) (hn : n ≤ 10) (ho : ∀ i, i < n → okC v i d) {z : Nat} (hz : z < 100) : f_X4_ofSide (nI z) (nI n) c = some (nI (bits (fun i => decide (v i 1 = z)) n)) := by
  unfold f_X4_ofSide
  rw [show ((0 : Int32), (0 : Int32)) = (fun t => (nI (bits (fun i => decide (v i 1 = z)) t), nI t)) 0 from rfl]
  rw [lp_seq (b := u2 (b_X4_ofSide_1 c (nI n) (nI z))) (fun t => (nI (bits (fun i => decide (v i 1 = z)) t), nI t)) n (nI (bits (fun i => decide (v i 1 = z)) n), nI n) (by omega) ?_ ?_]
  · rfl
  · intro t ht
    have hb := bits_10 (fun i => decide (v i 1 = z)) (show t ≤ 10 by omega)
    dsimp only [u2, b_X4_ofSide_1]
    rw [if_neg (nI_ge ht (by omega)), X4_isOfSide_s hc hn ht (ho t ht) hz, bnd_some, l1, i_bit (by omega), fa_or]
    by_cases q : v t 1 = z
    · rw [if_pos q, if_neg (by decide), nI_add]
      simp [bits, q]
    · rw [if_neg q, if_pos (by decide), nI_add]
      simp [bits, q]
  · dsimp only [u2, b_X4_ofSide_1]
    rw [if_pos (nI_le (Nat.le_refl _) (by omega))]
theorem X4_matesOf_s (hc : XC c n v) (hn : n ≤ 10) (ho : ∀ i, i < n → okC v i d) {i day : Nat} (hi : i < n) (hd : d ≤ day) (hd2 : day ≤ 2000) : f_X4_matesOf (nI i) (nI n) (nI day) c = some (nI (bits (fun j => sAl v i j day || sAl v j i day) n)) := by
  unfold f_X4_matesOf
  rw [show ((0 : Int32), (0 : Int32)) = (fun t => (nI (bits (fun j => sAl v i j day || sAl v j i day) t), nI t)) 0 from rfl]
  rw [lp_seq (b := u2 (b_X4_matesOf_1 c (nI n) (nI day) (nI i))) (fun t => (nI (bits (fun j => sAl v i j day || sAl v j i day) t), nI t)) n (nI (bits (fun j => sAl v i j day || sAl v j i day) n), nI n) (by omega) ?_ ?_]
  · rfl
  · intro t ht
    dsimp only [u2, b_X4_matesOf_1]
    rw [if_neg (nI_ge ht (by omega)), X4_areAlikeOn_s hc hn hi ht (ho i hi) (ho t ht) hd hd2, X4_areAlikeOn_s hc hn ht hi (ho t ht) (ho i hi) hd hd2, bnd_some, bnd_some, l1, i_bit (by omega), fa_or]
    cases q : sAl v i t day <;> cases q2 : sAl v t i day
    · simp only [Bool.false_eq_true, if_true, if_false, z0, z1, z10, eq_self, nI_add]
      simp [bits, q, q2]
    · simp only [Bool.false_eq_true, if_true, if_false, z0, z1, z10, eq_self, nI_add]
      simp [bits, q, q2]
    · simp only [Bool.false_eq_true, if_true, if_false, z0, z1, z10, eq_self, nI_add]
      simp [bits, q, q2]
    · simp only [Bool.false_eq_true, if_true, if_false, z0, z1, z10, eq_self, nI_add]
      simp [bits, q, q2]
  · dsimp only [u2, b_X4_matesOf_1]
    rw [if_pos (nI_le (Nat.le_refl _) (by omega))]
end XB
