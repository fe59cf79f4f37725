/-! chances; the log, its knots and how it is sawn -/
theorem whole_c : ∀ a, a < 5 → ∀ b, b < 11 → ∀ c, c < 2 → f_X9_whole (nI a) (nI b) (nI c) = f_X10_whole (nI a) (nI b) (nI c) ∧ (f_X9_whole (nI a) (nI b) (nI c)).isSome = true := by decide +kernel
theorem together_c : ∀ a, a < 4 → ∀ b, b < 34 → f_X9_together (nI a) (nI b) = f_X10_together (nI a) (nI b) ∧ (f_X9_together (nI a) (nI b)).isSome = true := by decide +kernel
theorem same_of {α : Type} {a b : Option α} (h : a = b ∧ a.isSome = true) : ∃ r, a = some r ∧ b = some r := by
  obtain ⟨h1, h2⟩ := h
  cases a with
  | none => cases h2
  | some r => exact ⟨r, rfl, h1.symm⟩
theorem api_whole (x1 x2 x3 : Int32) : ∃ r, f_X9_whole x1 x2 x3 = some r ∧ f_X10_whole x1 x2 x3 = some r := by
  rcases win_c x1 (a := 0) (b := 4) (by omega) (by omega) with q | ⟨a, _, a2, rfl, q⟩
  · refine ⟨-1, ?_, ?_⟩
    · unfold f_X9_whole
      rw [show f_X9_within x1 0 4 = _ from q]
      simp only [bnd_some, z0, z1, z10, eq_self, if_true, if_false, Bool.false_eq_true]
    · unfold f_X10_whole
      rw [M_in_s, show f_X9_within x1 0 4 = _ from q]
      simp only [bnd_some, z0, z1, z10, eq_self, if_true, if_false, Bool.false_eq_true]
  rcases win_c x2 (a := 0) (b := 10) (by omega) (by omega) with q2 | ⟨b, _, b2, rfl, q2⟩
  · refine ⟨-1, ?_, ?_⟩
    · unfold f_X9_whole
      rw [show f_X9_within (nI a) 0 4 = _ from q, show f_X9_within x2 0 10 = _ from q2]
      simp only [bnd_some, z0, z1, z10, eq_self, if_true, if_false, Bool.false_eq_true]
    · unfold f_X10_whole
      rw [M_in_s, show f_X9_within (nI a) 0 4 = _ from q, M_in_s, show f_X9_within x2 0 10 = _ from q2]
      simp only [bnd_some, z0, z1, z10, eq_self, if_true, if_false, Bool.false_eq_true]
  rcases win_c x3 (a := 0) (b := 1) (by omega) (by omega) with q3 | ⟨c, _, c2, rfl, q3⟩
  · refine ⟨-1, ?_, ?_⟩
    · unfold f_X9_whole
      rw [show f_X9_within (nI a) 0 4 = _ from q, show f_X9_within (nI b) 0 10 = _ from q2, show f_X9_within x3 0 1 = _ from q3]
      simp only [bnd_some, z0, z1, z10, eq_self, if_true, if_false, Bool.false_eq_true]
    · unfold f_X10_whole
      rw [M_in_s, show f_X9_within (nI a) 0 4 = _ from q, M_in_s, show f_X9_within (nI b) 0 10 = _ from q2, M_in_s, show f_X9_within x3 0 1 = _ from q3]
      simp only [bnd_some, z0, z1, z10, eq_self, if_true, if_false, Bool.false_eq_true]
  exact same_of (whole_c a (by omega) b (by omega) c (by omega))
theorem api_together (x1 x2 : Int32) : ∃ r, f_X9_together x1 x2 = some r ∧ f_X10_together x1 x2 = some r := by
  rcases win_c x1 (a := 0) (b := 3) (by omega) (by omega) with q | ⟨a, _, a2, rfl, q⟩
  · refine ⟨-1, ?_, ?_⟩
    · unfold f_X9_together
      rw [show f_X9_within x1 0 3 = _ from q]
      simp only [bnd_some, z0, z1, z10, eq_self, if_true, if_false, Bool.false_eq_true]
    · unfold f_X10_together
      rw [M_in_s, show f_X9_within x1 0 3 = _ from q]
      simp only [bnd_some, z0, z1, z10, eq_self, if_true, if_false, Bool.false_eq_true]
  rcases win_c x2 (a := 0) (b := 33) (by omega) (by omega) with q2 | ⟨b, _, b2, rfl, q2⟩
  · refine ⟨-1, ?_, ?_⟩
    · unfold f_X9_together
      rw [show f_X9_within (nI a) 0 3 = _ from q, show f_X9_within x2 0 33 = _ from q2]
      simp only [bnd_some, z0, z1, z10, eq_self, if_true, if_false, Bool.false_eq_true]
    · unfold f_X10_together
      rw [M_in_s, show f_X9_within (nI a) 0 3 = _ from q, M_in_s, show f_X9_within x2 0 33 = _ from q2]
      simp only [bnd_some, z0, z1, z10, eq_self, if_true, if_false, Bool.false_eq_true]
  exact same_of (together_c a (by omega) b (by omega))
/-! longs as numbers -/
theorem L_bv (n : Nat) : (Int64.ofNat n).toBitVec = BitVec.ofNat 64 n := rfl
theorem L_ext {a b : Int64} (h : a.toBitVec = b.toBitVec) : a = b := Int64.toBitVec_inj.mp h
theorem L_and (a b : Nat) : Int64.ofNat a &&& Int64.ofNat b = Int64.ofNat (a &&& b) := by
  apply L_ext
  apply BitVec.eq_of_toNat_eq
  simp [L_bv, Nat.and_mod_two_pow]
theorem L_ushr {n : Nat} (h : n < 18446744073709551616) (k : UInt64) {s : Nat} (hk : k.toNat = s) (hs : s < 64) : ((Int64.ofNat n).toUInt64 >>> k).toInt64 = Int64.ofNat (n / 2 ^ s) := by
  apply L_ext
  apply BitVec.eq_of_toNat_eq
  subst hk
  have : n / 2 ^ k.toNat ≤ n := Nat.div_le_self _ _
  simp [L_bv, Nat.shiftRight_eq_div_pow, Nat.mod_eq_of_lt hs, Nat.mod_eq_of_lt h]
  exact (Nat.mod_eq_of_lt (by omega)).symm
theorem L_to32' (n : Nat) : Int64.toInt32 (Int64.ofNat n) = nI n := by
  apply Int32.toBitVec_inj.mp
  apply BitVec.eq_of_toNat_eq
  simp [L_bv, nI]
theorem L_shl {n k : Nat} (hk : k < 64) : (Int64.ofNat n) <<< ((Int64.ofNat k) &&& 63) = Int64.ofNat (n * 2 ^ k) := by
  have h : ∀ k, k < 64 → ((BitVec.ofNat 64 k &&& 63#64).smod 64#64).toNat = k := by decide +kernel
  apply L_ext
  apply BitVec.eq_of_toNat_eq
  simp [L_bv, Nat.shiftLeft_eq]
  rw [h k hk]
/-! how many bits -/
def vl : List Nat → Nat
  | [] => 0
  | a :: l => a + 256 * vl l
def mk8 (m : Nat) : Nat → Nat
  | 0 => 0
  | k + 1 => m + 256 * mk8 m k
theorem and_byte {a m y M : Nat} (ha : a < 256) (hm : m < 256) : (a + 256 * y) &&& (m + 256 * M) = (a &&& m) + 256 * (y &&& M) := by
  apply Nat.eq_of_testBit_eq
  intro j
  have h1 : a &&& m < 2 ^ 8 := and_lt ha
  rw [Nat.add_comm a, Nat.add_comm m, Nat.add_comm (a &&& m), show 256 = 2 ^ 8 from rfl, Nat.testBit_and, Nat.testBit_two_pow_mul_add _ ha, Nat.testBit_two_pow_mul_add _ hm, Nat.testBit_two_pow_mul_add _ h1]
  split
  · rw [Nat.testBit_and]
  · rw [Nat.testBit_and]
def p1 (k n : Nat) : Nat := n - (n / 2 &&& mk8 85 k)
def p2 (k n : Nat) : Nat := (n &&& mk8 51 k) + (n / 4 &&& mk8 51 k)
def p3 (k n : Nat) : Nat := (n + n / 16) &&& mk8 15 k
def q1 (a : Nat) : Nat := a - (a / 2 &&& 85)
def q2 (a : Nat) : Nat := (a &&& 51) + (a / 4 &&& 51)
def q3 (a : Nat) : Nat := (a + a / 16) &&& 15
theorem p1_s : ∀ {l : List Nat}, (∀ a, a ∈ l → a < 256) → p1 l.length (vl l) = vl (l.map q1)
  | [], _ => rfl
  | a :: l, h => by
    have ha := h a (List.mem_cons_self ..)
    have ih := p1_s (fun b hb => h b (List.mem_cons_of_mem a hb))
    have e : (a + 256 * vl l) / 2 = (a / 2 + 128 * (vl l % 2)) + 256 * (vl l / 2) := by omega
    have d : ∀ a, a < 256 → ∀ t, t < 2 → (a / 2 + 128 * t) &&& 85 = a / 2 &&& 85 := by decide +kernel
    simp only [List.map_cons, List.length_cons, vl, p1, mk8, q1] at ih ⊢
    rw [e, and_byte (by omega) (by omega), d a ha _ (by omega)]
    have h1 : a / 2 &&& 85 ≤ a / 2 := Nat.and_le_left
    have h2 : vl l / 2 &&& mk8 85 l.length ≤ vl l / 2 := Nat.and_le_left
    omega
theorem p2_s : ∀ {l : List Nat}, (∀ a, a ∈ l → a < 256) → p2 l.length (vl l) = vl (l.map q2)
  | [], _ => rfl
  | a :: l, h => by
    have ha := h a (List.mem_cons_self ..)
    have ih := p2_s (fun b hb => h b (List.mem_cons_of_mem a hb))
    have e : (a + 256 * vl l) / 4 = (a / 4 + 64 * (vl l % 4)) + 256 * (vl l / 4) := by omega
    have d : ∀ a, a < 256 → ∀ t, t < 4 → (a / 4 + 64 * t) &&& 51 = a / 4 &&& 51 := by decide +kernel
    simp only [List.map_cons, List.length_cons, vl, p2, mk8, q2] at ih ⊢
    rw [e, and_byte (by omega) (by omega), and_byte (by omega) (by omega), d a ha _ (by omega)]
    omega
theorem p3_s : ∀ {l : List Nat}, (∀ a, a ∈ l → a ≤ 68 ∧ a % 16 ≤ 4) → p3 l.length (vl l) = vl (l.map q3)
  | [], _ => rfl
  | a :: l, h => by
    have ha := h a (List.mem_cons_self ..)
    have ih := p3_s (fun b hb => h b (List.mem_cons_of_mem a hb))
    have h4 : vl l % 16 ≤ 4 := by
      cases l with
      | nil => exact Nat.zero_le 4
      | cons b l =>
        have := (h b (List.mem_cons_of_mem a (List.mem_cons_self ..))).2
        show (b + 256 * vl l) % 16 ≤ 4
        omega
    have e : (a + 256 * vl l) + (a + 256 * vl l) / 16 = (a + a / 16 + 16 * (vl l % 16)) + 256 * (vl l + vl l / 16) := by omega
    have d : ∀ a, a < 69 → ∀ t, t < 5 → (a + a / 16 + 16 * t) &&& 15 = (a + a / 16) &&& 15 := by decide +kernel
    simp only [List.map_cons, List.length_cons, vl, p3, mk8, q3] at ih ⊢
    rw [e, and_byte (by omega) (by omega), d a (by omega) _ (by omega)]
    omega
theorem cnt_add (p : Nat → Bool) (m : Nat) : ∀ k, cnt p (m + k) = cnt p m + cnt (fun j => p (m + j)) k
  | 0 => rfl
  | k + 1 => by
    rw [show m + (k + 1) = (m + k) + 1 from rfl, cnt, cnt, cnt_add p m k]
    split <;> omega
theorem cnt_congr {p q : Nat → Bool} : ∀ {n : Nat}, (∀ i, i < n → p i = q i) → cnt p n = cnt q n
  | 0, _ => rfl
  | n + 1, h => by rw [cnt, cnt, h n (Nat.lt_succ_self n), cnt_congr fun i hi => h i (Nat.lt_succ_of_lt hi)]
theorem tb_byte {a y : Nat} (ha : a < 256) (j : Nat) : (a + 256 * y).testBit j = if j < 8 then a.testBit j else y.testBit (j - 8) := by
  rw [Nat.add_comm a, show 256 = 2 ^ 8 from rfl, Nat.testBit_two_pow_mul_add _ ha]
theorem cnt_byte {a y k : Nat} (ha : a < 256) : cnt (a + 256 * y).testBit (8 + k) = cnt a.testBit 8 + cnt y.testBit k := by
  rw [cnt_add]
  congr 1
  · exact cnt_congr fun i hi => by rw [tb_byte ha, if_pos hi]
  · exact cnt_congr fun i hi => by rw [tb_byte ha, if_neg (by omega)]; congr 1; omega
theorem byte_c : ∀ a, a < 256 → q1 a < 256 ∧ q2 (q1 a) ≤ 68 ∧ q2 (q1 a) % 16 ≤ 4 ∧ q3 (q2 (q1 a)) = cnt a.testBit 8 := by decide +kernel
theorem bitCount_s {n : Nat} (h : n < 1099511627776) : f_J13_bitCount_95d88 (Int64.ofNat n) = some (nI (cnt n.testBit 40)) := by
  obtain ⟨a0, a1, a2, a3, a4, b0, b1, b2, b3, b4, e⟩ : ∃ a0 a1 a2 a3 a4, a0 < 256 ∧ a1 < 256 ∧ a2 < 256 ∧ a3 < 256 ∧ a4 < 256 ∧ n = a0 + 256 * (a1 + 256 * (a2 + 256 * (a3 + 256 * a4))) := ⟨n % 256, n / 256 % 256, n / 65536 % 256, n / 16777216 % 256, n / 4294967296, by omega, by omega, by omega, by omega, by omega, by omega⟩
  have hl : n = vl [a0, a1, a2, a3, a4, 0, 0, 0] := by rw [e]; rfl
  have c0 := byte_c a0 b0
  have c1 := byte_c a1 b1
  have c2 := byte_c a2 b2
  have c3 := byte_c a3 b3
  have c4 := byte_c a4 b4
  have s1 : p1 8 n = vl [q1 a0, q1 a1, q1 a2, q1 a3, q1 a4, 0, 0, 0] := by
    rw [hl]
    exact p1_s (l := [a0, a1, a2, a3, a4, 0, 0, 0]) (by
      intro a ha
      simp only [List.mem_cons, List.not_mem_nil, or_false] at ha
      omega)
  have s2 : p2 8 (p1 8 n) = vl [q2 (q1 a0), q2 (q1 a1), q2 (q1 a2), q2 (q1 a3), q2 (q1 a4), 0, 0, 0] := by
    rw [s1]
    exact p2_s (l := [q1 a0, q1 a1, q1 a2, q1 a3, q1 a4, 0, 0, 0]) (by
      intro a ha
      simp only [List.mem_cons, List.not_mem_nil, or_false] at ha
      omega)
  have s3 : p3 8 (p2 8 (p1 8 n)) = vl [q3 (q2 (q1 a0)), q3 (q2 (q1 a1)), q3 (q2 (q1 a2)), q3 (q2 (q1 a3)), q3 (q2 (q1 a4)), 0, 0, 0] := by
    rw [s2]
    exact p3_s (l := [q2 (q1 a0), q2 (q1 a1), q2 (q1 a2), q2 (q1 a3), q2 (q1 a4), 0, 0, 0]) (by
      intro a ha
      simp only [List.mem_cons, List.not_mem_nil, or_false] at ha
      omega)
  rw [c0.2.2.2, c1.2.2.2, c2.2.2.2, c3.2.2.2, c4.2.2.2] at s3
  have hc : cnt n.testBit 40 = cnt a0.testBit 8 + (cnt a1.testBit 8 + (cnt a2.testBit 8 + (cnt a3.testBit 8 + cnt a4.testBit 8))) := by
    rw [e, show 40 = 8 + (8 + (8 + (8 + 8))) from rfl, cnt_byte b0, cnt_byte b1, cnt_byte b2, cnt_byte b3]
  have l0 := cnt_le a0.testBit 8
  have l1 := cnt_le a1.testBit 8
  have l2 := cnt_le a2.testBit 8
  have l3 := cnt_le a3.testBit 8
  have l4 := cnt_le a4.testBit 8
  have t1 : p1 8 n ≤ n := Nat.sub_le _ _
  have t2 : p2 8 (p1 8 n) ≤ p1 8 n + p1 8 n / 4 := Nat.add_le_add Nat.and_le_left Nat.and_le_left
  have m1 : (6148914691236517205 : Int64) = Int64.ofNat (mk8 85 8) := by decide +kernel
  have m2 : (3689348814741910323 : Int64) = Int64.ofNat (mk8 51 8) := by decide +kernel
  have m3 : (1085102592571150095 : Int64) = Int64.ofNat (mk8 15 8) := by decide +kernel
  unfold f_J13_bitCount_95d88
  rw [L_ushr (s := 1) (by omega) _ rfl (by omega), m1, L_and, L_sub (Nat.le_trans Nat.and_le_left (by omega)), bnd_some, show n - (n / 2 ^ 1 &&& mk8 85 8) = p1 8 n from rfl]
  generalize p1 8 n = u1 at *
  rw [L_ushr (s := 2) (by omega) _ rfl (by omega), m2, L_and, L_and, L_add, bnd_some, show (u1 &&& mk8 51 8) + (u1 / 2 ^ 2 &&& mk8 51 8) = p2 8 u1 from rfl]
  generalize p2 8 u1 = u2 at *
  rw [L_ushr (s := 4) (by omega) _ rfl (by omega), m3, L_add, L_and, bnd_some, show (u2 + u2 / 2 ^ 4) &&& mk8 15 8 = p3 8 u2 from rfl, s3]
  simp only [vl]
  generalize cnt a0.testBit 8 = g0 at *
  generalize cnt a1.testBit 8 = g1 at *
  generalize cnt a2.testBit 8 = g2 at *
  generalize cnt a3.testBit 8 = g3 at *
  generalize cnt a4.testBit 8 = g4 at *
  rw [L_ushr (s := 8) (by omega) _ rfl (by omega), L_add, bnd_some]
  rw [show g0 + 256 * (g1 + 256 * (g2 + 256 * (g3 + 256 * (g4 + 256 * (0 + 256 * (0 + 256 * (0 + 256 * 0))))))) + (g0 + 256 * (g1 + 256 * (g2 + 256 * (g3 + 256 * (g4 + 256 * (0 + 256 * (0 + 256 * (0 + 256 * 0)))))))) / 2 ^ 8 = g0 + 257 * g1 + 65792 * g2 + 16842752 * g3 + 4311744512 * g4 by omega]
  rw [L_ushr (s := 16) (by omega) _ rfl (by omega), L_add, bnd_some]
  rw [show (g0 + 257 * g1 + 65792 * g2 + 16842752 * g3 + 4311744512 * g4) / 2 ^ 16 = g2 + 257 * g3 + 65792 * g4 by omega, show g0 + 257 * g1 + 65792 * g2 + 16842752 * g3 + 4311744512 * g4 + (g2 + 257 * g3 + 65792 * g4) = g0 + 257 * g1 + 65793 * g2 + 16843009 * g3 + 4311810304 * g4 by omega]
  rw [L_ushr (s := 32) (by omega) _ rfl (by omega), L_add, bnd_some]
  rw [show (g0 + 257 * g1 + 65793 * g2 + 16843009 * g3 + 4311810304 * g4) / 2 ^ 32 = g4 by omega, L_to32', show (127 : Int32) = nI (2 ^ 7 - 1) from rfl, fa_and, Nat.and_two_pow_sub_one_eq_mod, hc]
  congr 2
  omega
def RG (xl xb : Int32) (xk : Int64) (ml mb : Int32) (mk : Nat → Int32) : Prop := ∃ (L B K : Nat), 1 ≤ L ∧ L ≤ 40 ∧ 2 ≤ B ∧ B ≤ 9 ∧ K < 1099511627776 ∧ xl = nI L ∧ xb = nI B ∧ xk = Int64.ofNat K ∧ ml = nI L ∧ mb = nI B ∧ ∀ j, j < 40 → mk j = nI (if K.testBit j then 1 else 0)
theorem ones_s {L : Nat} (hL : L ≤ 40) : (1 : Int64) <<< ((Int32.toInt64 (nI L)) &&& 63) - 1 = Int64.ofNat (2 ^ L - 1) := by
  have h1 : 1 ≤ 2 ^ L := Nat.one_le_two_pow
  rw [L_wide (by omega), show (1 : Int64) = Int64.ofNat 1 from rfl, L_shl (by omega), Nat.one_mul, L_sub h1]
theorem cnt_low (K L : Nat) : ∀ m, cnt (K &&& (2 ^ L - 1)).testBit (L + m) = cnt K.testBit L
  | 0 => cnt_congr fun i hi => by
    have hi2 : i < L := by omega
    rw [Nat.testBit_and, Nat.testBit_two_pow_sub_one]
    simp [hi2]
  | m + 1 => by
    rw [show L + (m + 1) = (L + m) + 1 from rfl, cnt, cnt_low K L m, if_neg]
    rw [Nat.testBit_and, Nat.testBit_two_pow_sub_one]
    simp
theorem knots_s {xl xb : Int32} {xk : Int64} {ml mb : Int32} {mk : Nat → Int32} (h : RG xl xb xk ml mb mk) : ∃ r, f_X0_knotsInside xl xk = some r ∧ f_X10_knots ml mk = some r := by
  obtain ⟨L, B, K, L1, L2, B1, B2, hK, rfl, rfl, rfl, rfl, rfl, hk⟩ := h
  refine ⟨nI (cnt K.testBit L), ?_, ?_⟩
  · unfold f_X0_knotsInside
    rw [ones_s L2, L_and, bitCount_s (Nat.lt_of_le_of_lt Nat.and_le_left hK), bnd_some]
    have := cnt_low K L (40 - L)
    rw [show L + (40 - L) = 40 by omega] at this
    rw [this]
  · unfold f_X10_knots
    rw [show ((0 : Int32), (0 : Int32)) = (fun t => (nI (cnt K.testBit t), nI t)) 0 from rfl]
    rw [lp_seq (b := u2 (b_X10_knots_1 mk (nI L))) (fun t => (nI (cnt K.testBit t), nI t)) L (nI (cnt K.testBit L), nI L) (by omega) ?_ ?_]
    · rfl
    · intro t ht
      dsimp only [u2, b_X10_knots_1]
      rw [if_neg (nI_ge ht (by omega)), rd_s (by omega) (by omega), bnd_some, hk t (by omega), show nI t + 1 = nI (t + 1) from nI_add t 1, show nI (cnt K.testBit t) + 1 = nI (cnt K.testBit t + 1) from nI_add _ 1, show nI (cnt K.testBit t) + 0 = nI (cnt K.testBit t) from nI_add _ 0]
      rcases Bool.eq_false_or_eq_true (K.testBit t) with q | q
      · simp only [q, if_true, cnt]
        rw [if_neg (by decide)]
      · simp only [q, Bool.false_eq_true, if_false, cnt]
        rw [if_pos (show nI 0 = 0 from rfl)]
    · dsimp only [u2, b_X10_knots_1]
      rw [if_pos (nI_le (Nat.le_refl _) (by omega))]
/-! sawing -/
def clU (K j : Nat) : Nat → Bool
  | 0 => true
  | t + 1 => clU K j t && !K.testBit (j + t)
theorem clU_iff (K j : Nat) : ∀ t, clU K j t = true ↔ ∀ i, i < t → K.testBit (j + i) = false
  | 0 => ⟨fun _ i hi => absurd hi (by omega), fun _ => rfl⟩
  | t + 1 => by
    rw [clU, Bool.and_eq_true, clU_iff K j t]
    constructor
    · intro h i hi
      by_cases q : i = t
      · subst q
        simpa using h.2
      · exact h.1 i (by omega)
    · intro h
      exact ⟨fun i hi => h i (by omega), by simpa using h t (by omega)⟩
def clr (K L B j : Nat) : Bool := decide (j + B ≤ L) && clU K j B
theorem lgc_s {n : Nat} (h : n < 9223372036854775808) : lg_cmp (Int64.ofNat n) 0 = 0 ↔ n = 0 := by
  unfold lg_cmp
  by_cases q : n = 0
  · subst q
    simp
  · have : (Int64.ofNat n) > 0 := by
      show (0 : Int64) < Int64.ofNat n
      rw [Int64.lt_iff_toInt_lt, L_toI h, show (0 : Int64).toInt = 0 from rfl]
      omega
    rw [if_pos this]
    simp [q]
theorem X0_isBlock_s {K L B j : Nat} (hK : K < 1099511627776) (L2 : L ≤ 40) (B2 : B ≤ 9) (hj : j < 40) : f_X0_isBlock (nI j) (nI L) (nI B) (Int64.ofNat K) = some (nI (if clr K L B j then 1 else 0)) := by
  unfold f_X0_isBlock
  rw [ones_s (by omega), L_wide (by omega), L_shl (by omega), bnd_some, L_and, nI_add]
  by_cases q : L < j + B
  · have : clr K L B j = false := by
      unfold clr
      rw [show decide (j + B ≤ L) = false from by simp; omega, Bool.false_and]
    rw [if_pos (nI_lt q (by omega)), this]
    rfl
  · rw [if_neg (nI_nlt (by omega) (by omega))]
    have key : (K &&& (2 ^ B - 1) * 2 ^ j = 0) ↔ clr K L B j = true := by
      unfold clr
      rw [show decide (j + B ≤ L) = true from by simp; omega, Bool.true_and, clU_iff]
      constructor
      · intro e t ht
        have := congrArg (fun z => Nat.testBit z (j + t)) e
        simp only [Nat.testBit_and, Nat.testBit_mul_two_pow, Nat.testBit_two_pow_sub_one, Nat.zero_testBit] at this
        simpa [ht] using this
      · intro e
        apply Nat.eq_of_testBit_eq
        intro i
        simp only [Nat.testBit_and, Nat.testBit_mul_two_pow, Nat.testBit_two_pow_sub_one, Nat.zero_testBit]
        by_cases c : j ≤ i ∧ i - j < B
        · have := e (i - j) c.2
          rw [show j + (i - j) = i by omega] at this
          rw [this, Bool.false_and]
        · by_cases c1 : j ≤ i
          · have : ¬ i - j < B := fun z => c ⟨c1, z⟩
            simp [this]
          · simp [c1]
    by_cases c : clr K L B j = true
    · rw [c, if_pos ((lgc_s (Nat.lt_of_le_of_lt Nat.and_le_left (by omega))).mpr (key.mpr c))]
      rfl
    · rw [if_neg (fun z => c (key.mp ((lgc_s (Nat.lt_of_le_of_lt Nat.and_le_left (by omega))).mp z))), if_neg c]
      rfl
theorem M_isClear_s {K L B j : Nat} {mk : Nat → Int32} (hk : ∀ j, j < 40 → mk j = nI (if K.testBit j then 1 else 0)) (L2 : L ≤ 40) (B2 : B ≤ 9) (hj : j < 40) : f_X10_isClear (nI j) (nI L) (nI B) mk = some (nI (if clr K L B j then 1 else 0)) := by
  unfold f_X10_isClear
  rw [nI_add]
  by_cases q : L < j + B
  · have : clr K L B j = false := by
      unfold clr
      rw [show decide (j + B ≤ L) = false from by simp; omega, Bool.false_and]
    rw [if_pos (nI_lt q (by omega)), this]
    rw [show ((0 : Int32), (0 : Int32)) = (fun t => ((0 : Int32), nI t)) 0 from rfl]
    rw [lp_seq (b := u2 (b_X10_isClear_1 (nI B) mk (nI j))) (fun t => ((0 : Int32), nI t)) B ((0 : Int32), nI B) (by omega) ?_ ?_]
    · rfl
    · intro t ht
      dsimp only [u2, b_X10_isClear_1]
      rw [if_neg (nI_ge ht (by omega)), if_pos rfl, show nI t + 1 = nI (t + 1) from nI_add t 1]
    · dsimp only [u2, b_X10_isClear_1]
      rw [if_pos (nI_le (Nat.le_refl _) (by omega))]
  · have : clr K L B j = clU K j B := by
      unfold clr
      rw [show decide (j + B ≤ L) = true from by simp; omega, Bool.true_and]
    rw [if_neg (nI_nlt (by omega) (by omega)), this]
    rw [show ((1 : Int32), (0 : Int32)) = (fun t => (nI (if clU K j t then 1 else 0), nI t)) 0 from rfl]
    rw [lp_seq (b := u2 (b_X10_isClear_2 (nI B) mk (nI j))) (fun t => (nI (if clU K j t then 1 else 0), nI t)) B (nI (if clU K j B then 1 else 0), nI B) (by omega) ?_ ?_]
    · rfl
    · intro t ht
      dsimp only [u2, b_X10_isClear_2]
      rw [if_neg (nI_ge ht (by omega)), show nI t + 1 = nI (t + 1) from nI_add t 1, nI_add j t, rd_s (by omega) (by omega), if_neg (show ¬ (40 : Int32) ≤ nI (j + t) from nI_ge (b := 40) (by omega) (by omega)), bnd_some, hk (j + t) (by omega), clU]
      rcases Bool.eq_false_or_eq_true (clU K j t) with q1 | q1
      · rcases Bool.eq_false_or_eq_true (K.testBit (j + t)) with q2 | q2
        · simp only [q1, q2]
          simp only [bnd_some, z0, z1, z10, eq_self, if_true, if_false, Bool.false_eq_true, Bool.not_true, Bool.true_and]
          rfl
        · simp only [q1, q2]
          simp only [bnd_some, z0, z1, z10, eq_self, if_true, if_false, Bool.false_eq_true, Bool.not_false, Bool.true_and]
          rfl
      · simp only [q1]
        simp only [bnd_some, z0, z1, z10, eq_self, if_true, if_false, Bool.false_eq_true, Bool.false_and]
        rfl
    · dsimp only [u2, b_X10_isClear_2]
      rw [if_pos (nI_le (Nat.le_refl _) (by omega))]
theorem lp_go {S R : Type} {b : S → Option (S ⊕ R)} {n : Nat} {s s' : S} (h : b s = some (.inl s')) : lp b (n + 1) s = lp b n s' := by rw [lp, h]
theorem lp_end {S R : Type} {b : S → Option (S ⊕ R)} {n : Nat} {s : S} {r : R} (h : b s = some (.inr r)) : lp b (n + 1) s = some r := by rw [lp, h]
section SW
variable {K L B : Nat} {mk : Nat → Int32} {X : Int32}
theorem saw_skip (L2 : L ≤ 40) (c j2 : Nat) (h2 : j2 ≤ L) : ∀ (k j n : Nat), j + k = j2 → lp (u3 (b_X0_saw_1 (nI B) (Int64.ofNat K) (nI L) X)) (n + k) (nI c, nI j2, nI j) = lp (u3 (b_X0_saw_1 (nI B) (Int64.ofNat K) (nI L) X)) n (nI c, nI j2, nI j2)
  | 0, j, n, h => by
    have h : j = j2 := by omega
    rw [h]
    rfl
  | k + 1, j, n, h => by
    have hs : u3 (b_X0_saw_1 (nI B) (Int64.ofNat K) (nI L) X) (nI c, nI j2, nI j) = some (.inl (nI c, nI j2, nI (j + 1))) := by
      dsimp only [u3, b_X0_saw_1]
      rw [if_neg (nI_ge (by omega) (by omega)), if_pos (nI_lt (by omega) (by omega)), show nI j + 1 = nI (j + 1) from nI_add j 1]
    rw [show n + (k + 1) = (n + k) + 1 from rfl, lp_go hs, saw_skip L2 c j2 h2 k (j + 1) n (by omega)]
theorem saw_both (hK : K < 1099511627776) (hk : ∀ j, j < 40 → mk j = nI (if K.testBit j then 1 else 0)) (L2 : L ≤ 40) (B1 : 2 ≤ B) (B2 : B ≤ 9) : ∀ (m j c : Nat), L - j ≤ m → j ≤ L → c ≤ j → ∃ C, ((∀ p n, L - j < n → ∃ e, lp (u3 (b_X10_sawn_1 (nI B) mk (nI L) X)) n (nI c, nI j, p) = some (nI C, e, p)) ∧ (∀ j2 n, j2 ≤ j → L - j < n → ∃ z z', lp (u3 (b_X0_saw_1 (nI B) (Int64.ofNat K) (nI L) X)) n (nI c, nI j2, nI j) = some (.inl (nI C, z, z')))) ∨ (∃ q c', X = nI c' ∧ c ≤ c' ∧ c' < 100 ∧ (∀ p n, L - j < n → ∃ e, lp (u3 (b_X10_sawn_1 (nI B) mk (nI L) X)) n (nI c, nI j, p) = some (nI C, e, nI q)) ∧ (∀ j2 n, j2 ≤ j → L - j < n → lp (u3 (b_X0_saw_1 (nI B) (Int64.ofNat K) (nI L) X)) n (nI c, nI j2, nI j) = some (.inr (nI q)))) := by
  intro m
  induction m with
  | zero =>
    intro j c h1 h2 h3
    have e : j = L := by omega
    subst e
    refine ⟨c, Or.inl ⟨fun p n hn => ?_, fun j2 n hj2 hn => ?_⟩⟩
    · obtain ⟨n, rfl⟩ : ∃ k, n = k + 1 := ⟨n - 1, by omega⟩
      refine ⟨nI j, lp_end ?_⟩
      dsimp only [u3, b_X10_sawn_1]
      rw [if_pos (nI_le (Nat.le_refl _) (by omega))]
    · obtain ⟨n, rfl⟩ : ∃ k, n = k + 1 := ⟨n - 1, by omega⟩
      refine ⟨nI j2, nI j, lp_end ?_⟩
      dsimp only [u3, b_X0_saw_1]
      rw [if_pos (nI_le (Nat.le_refl _) (by omega))]
  | succ m ih =>
    intro j c h1 h2 h3
    by_cases hL : j = L
    · subst hL
      refine ⟨c, Or.inl ⟨fun p n hn => ?_, fun j2 n hj2 hn => ?_⟩⟩
      · obtain ⟨n, rfl⟩ : ∃ k, n = k + 1 := ⟨n - 1, by omega⟩
        refine ⟨nI j, lp_end ?_⟩
        dsimp only [u3, b_X10_sawn_1]
        rw [if_pos (nI_le (Nat.le_refl _) (by omega))]
      · obtain ⟨n, rfl⟩ : ∃ k, n = k + 1 := ⟨n - 1, by omega⟩
        refine ⟨nI j2, nI j, lp_end ?_⟩
        dsimp only [u3, b_X0_saw_1]
        rw [if_pos (nI_le (Nat.le_refl _) (by omega))]
    · have hj : j < L := by omega
      have iB := X0_isBlock_s hK L2 B2 (show j < 40 by omega)
      have iC := M_isClear_s hk L2 B2 (show j < 40 by omega)
      rcases Bool.eq_false_or_eq_true (clr K L B j) with q | q
      · have hjB : j + B ≤ L := by
          unfold clr at q
          rw [Bool.and_eq_true] at q
          exact of_decide_eq_true q.1
        rw [q] at iB iC
        have iB : f_X0_isBlock (nI j) (nI L) (nI B) (Int64.ofNat K) = some (nI 1) := iB
        have iC : f_X10_isClear (nI j) (nI L) (nI B) mk = some (nI 1) := iC
        obtain ⟨C, ih⟩ := ih (j + B) (c + 1) (by omega) hjB (by omega)
        by_cases hX : X = nI c
        · have hM : ∀ p, u3 (b_X10_sawn_1 (nI B) mk (nI L) X) (nI c, nI j, p) = some (.inl (nI (c + 1), nI (j + B), nI j)) := by
            intro p
            dsimp only [u3, b_X10_sawn_1]
            rw [if_neg (nI_ge hj (by omega)), iC, bnd_some, if_neg (show ¬ nI 1 = 0 by decide), if_pos hX.symm]
            simp only [bnd_some, z0, z1, z10, eq_self, if_true, if_false, Bool.false_eq_true]
            rw [show nI c + 1 = nI (c + 1) from nI_add c 1, nI_add]
          rcases ih with ⟨i1, _⟩ | ⟨q, c', x1, x2, x3, _⟩
          · refine ⟨C, Or.inr ⟨j, c, hX, Nat.le_refl c, by omega, fun p n hn => ?_, fun j2 n hj2 hn => ?_⟩⟩
            · obtain ⟨n, rfl⟩ : ∃ k, n = k + 1 := ⟨n - 1, by omega⟩
              rw [lp_go (hM p)]
              exact i1 (nI j) n (by omega)
            · obtain ⟨n, rfl⟩ : ∃ k, n = k + 1 := ⟨n - 1, by omega⟩
              refine lp_end ?_
              dsimp only [u3, b_X0_saw_1]
              rw [if_neg (nI_ge hj (by omega)), if_neg (nI_nlt (by omega) (by omega)), iB, bnd_some, if_neg (show ¬ nI 1 = 0 by decide), if_pos hX.symm]
          · exact absurd (nI_inj (by omega) (by omega) (hX.symm.trans x1)) (by omega)
        · have hM : ∀ p, u3 (b_X10_sawn_1 (nI B) mk (nI L) X) (nI c, nI j, p) = some (.inl (nI (c + 1), nI (j + B), p)) := by
            intro p
            dsimp only [u3, b_X10_sawn_1]
            rw [if_neg (nI_ge hj (by omega)), iC, bnd_some, if_neg (show ¬ nI 1 = 0 by decide), if_neg (show ¬ nI c = X from fun e => hX e.symm)]
            simp only [bnd_some, z0, z1, z10, eq_self, if_true, if_false, Bool.false_eq_true]
            rw [show nI c + 1 = nI (c + 1) from nI_add c 1, nI_add]
          have hXl : ∀ j2 n, j2 ≤ j → L - j < n → ∃ n', L - (j + B) < n' ∧ lp (u3 (b_X0_saw_1 (nI B) (Int64.ofNat K) (nI L) X)) n (nI c, nI j2, nI j) = lp (u3 (b_X0_saw_1 (nI B) (Int64.ofNat K) (nI L) X)) n' (nI (c + 1), nI (j + B), nI (j + B)) := by
            intro j2 n hj2 hn
            obtain ⟨n', rfl⟩ : ∃ k, n = (k + (B - 1)) + 1 := ⟨n - B, by omega⟩
            refine ⟨n', by omega, ?_⟩
            have hs : u3 (b_X0_saw_1 (nI B) (Int64.ofNat K) (nI L) X) (nI c, nI j2, nI j) = some (.inl (nI (c + 1), nI (j + B), nI (j + 1))) := by
              dsimp only [u3, b_X0_saw_1]
              rw [if_neg (nI_ge hj (by omega)), if_neg (nI_nlt (by omega) (by omega)), iB, bnd_some, if_neg (show ¬ nI 1 = 0 by decide), if_neg (show ¬ nI c = X from fun e => hX e.symm)]
              rw [show nI c + 1 = nI (c + 1) from nI_add c 1, nI_add, show nI j + 1 = nI (j + 1) from nI_add j 1]
            rw [lp_go hs, saw_skip L2 (c + 1) (j + B) hjB (B - 1) (j + 1) n' (by omega)]
          rcases ih with ⟨i1, i2⟩ | ⟨q, c', x1, x2, x3, i1, i2⟩
          · refine ⟨C, Or.inl ⟨fun p n hn => ?_, fun j2 n hj2 hn => ?_⟩⟩
            · obtain ⟨n, rfl⟩ : ∃ k, n = k + 1 := ⟨n - 1, by omega⟩
              rw [lp_go (hM p)]
              exact i1 p n (by omega)
            · obtain ⟨n', g1, g2⟩ := hXl j2 n hj2 hn
              rw [g2]
              exact i2 (j + B) n' (Nat.le_refl _) g1
          · refine ⟨C, Or.inr ⟨q, c', x1, by omega, x3, fun p n hn => ?_, fun j2 n hj2 hn => ?_⟩⟩
            · obtain ⟨n, rfl⟩ : ∃ k, n = k + 1 := ⟨n - 1, by omega⟩
              rw [lp_go (hM p)]
              exact i1 p n (by omega)
            · obtain ⟨n', g1, g2⟩ := hXl j2 n hj2 hn
              rw [g2]
              exact i2 (j + B) n' (Nat.le_refl _) g1
      · rw [q] at iB iC
        have iB : f_X0_isBlock (nI j) (nI L) (nI B) (Int64.ofNat K) = some (nI 0) := iB
        have iC : f_X10_isClear (nI j) (nI L) (nI B) mk = some (nI 0) := iC
        obtain ⟨C, ih⟩ := ih (j + 1) c (by omega) (by omega) (by omega)
        have hM : ∀ p, u3 (b_X10_sawn_1 (nI B) mk (nI L) X) (nI c, nI j, p) = some (.inl (nI c, nI (j + 1), p)) := by
          intro p
          dsimp only [u3, b_X10_sawn_1]
          rw [if_neg (nI_ge hj (by omega)), iC]
          simp only [bnd_some, z0, z1, z10, eq_self, if_true, if_false, Bool.false_eq_true]
          rw [show nI c + 0 = nI c from nI_add c 0, show nI j + 1 = nI (j + 1) from nI_add j 1]
        have hXs : ∀ j2, j2 ≤ j → u3 (b_X0_saw_1 (nI B) (Int64.ofNat K) (nI L) X) (nI c, nI j2, nI j) = some (.inl (nI c, nI j2, nI (j + 1))) := by
          intro j2 hj2
          dsimp only [u3, b_X0_saw_1]
          rw [if_neg (nI_ge hj (by omega)), if_neg (nI_nlt (by omega) (by omega)), iB]
          simp only [bnd_some, z0, z1, z10, eq_self, if_true, if_false, Bool.false_eq_true]
          rw [show nI j + 1 = nI (j + 1) from nI_add j 1]
        rcases ih with ⟨i1, i2⟩ | ⟨q, c', x1, x2, x3, i1, i2⟩
        · refine ⟨C, Or.inl ⟨fun p n hn => ?_, fun j2 n hj2 hn => ?_⟩⟩
          · obtain ⟨n, rfl⟩ : ∃ k, n = k + 1 := ⟨n - 1, by omega⟩
            rw [lp_go (hM p)]
            exact i1 p n (by omega)
          · obtain ⟨n, rfl⟩ : ∃ k, n = k + 1 := ⟨n - 1, by omega⟩
            rw [lp_go (hXs j2 hj2)]
            exact i2 j2 n (by omega) (by omega)
        · refine ⟨C, Or.inr ⟨q, c', x1, x2, x3, fun p n hn => ?_, fun j2 n hj2 hn => ?_⟩⟩
          · obtain ⟨n, rfl⟩ : ∃ k, n = k + 1 := ⟨n - 1, by omega⟩
            rw [lp_go (hM p)]
            exact i1 p n (by omega)
          · obtain ⟨n, rfl⟩ : ∃ k, n = k + 1 := ⟨n - 1, by omega⟩
            rw [lp_go (hXs j2 hj2)]
            exact i2 j2 n (by omega) (by omega)
end SW
theorem api_sawn (x : Int32) {xl xb : Int32} {xk : Int64} {ml mb : Int32} {mk : Nat → Int32} (h : RG xl xb xk ml mb mk) : ∃ r, f_X9_sawn x xl xb xk = some r ∧ f_X10_sawn x ml mb mk = some r := by
  obtain ⟨L, B, K, L1, L2, B1, B2, hK, rfl, rfl, rfl, rfl, rfl, hk⟩ := h
  unfold f_X9_sawn f_X10_sawn f_X0_saw
  by_cases q : (-1) ≤ x
  · rw [if_pos q, if_pos q]
    obtain ⟨C, ih⟩ := saw_both (X := x) hK hk L2 B1 B2 40 0 0 (by omega) (by omega) (by omega)
    rcases ih with ⟨i1, i2⟩ | ⟨p, c', x1, x2, x3, i1, i2⟩
    · obtain ⟨e, g1⟩ := i1 (-4) FU (by unfold FU; omega)
      obtain ⟨z, z', g2⟩ := i2 0 FU (by omega) (by unfold FU; omega)
      rw [show lp (u3 (b_X10_sawn_1 (nI B) mk (nI L) x)) FU (0, 0, -4) = _ from g1, show lp (u3 (b_X0_saw_1 (nI B) (Int64.ofNat K) (nI L) x)) FU (0, 0, 0) = _ from g2]
      simp only [bndE_inl, bnd_some, u3]
      by_cases t : x = -1
      · subst t
        rw [if_pos rfl, if_neg (by decide)]
        exact ⟨_, rfl, rfl⟩
      · rw [if_neg t, if_pos]
        · exact ⟨_, rfl, rfl⟩
        · have a1 := Int32.le_iff_toInt_le.mp q
          have a2 : x.toInt ≠ (-1 : Int32).toInt := fun e => t (Int32.toInt.inj e)
          rw [Int32.le_iff_toInt_le]
          rw [show (-1 : Int32).toInt = -1 from by decide] at a1 a2
          rw [show (0 : Int32).toInt = 0 from by decide]
          omega
    · subst x1
      obtain ⟨e, g1⟩ := i1 (-4) FU (by unfold FU; omega)
      have g2 := i2 0 FU (by omega) (by unfold FU; omega)
      rw [show lp (u3 (b_X10_sawn_1 (nI B) mk (nI L) (nI c'))) FU (0, 0, -4) = _ from g1, show lp (u3 (b_X0_saw_1 (nI B) (Int64.ofNat K) (nI L) (nI c'))) FU (0, 0, 0) = _ from g2]
      simp only [bndE_inr, bnd_some, u3]
      rw [if_pos (show (0 : Int32) ≤ nI c' from nI_le (a := 0) (by omega) (by omega))]
      exact ⟨_, rfl, rfl⟩
  · rw [if_neg q, if_neg q]
    exact ⟨_, rfl, rfl⟩
theorem holed_s {xc st : Nat → Int32} {xn xd : Int32} (hS : RS xc xn xd st) : ∃ r, f_X4_holedOnes xn xc = some r ∧ f_X10_holed st = some r := by
  obtain ⟨n, d, v, ok, rfl, rfl, hx, hm⟩ := hS
  have hn := ok.1
  unfold f_X4_holedOnes f_X10_holed
  rw [show ((0 : Int32), (0 : Int32)) = (fun t => (nI (cnt (fun i => decide (v i 0 = 2)) t), nI t)) 0 from rfl]
  rw [lp_seq (b := u2 (b_X4_holedOnes_1 xc (nI n))) (fun t => (nI (cnt (fun i => decide (v i 0 = 2)) t), nI t)) n (nI (cnt (fun i => decide (v i 0 = 2)) n), nI n) (by omega) ?_ ?_, lp_seq (b := u2 (b_X10_holed_1 st)) (fun t => (nI (cnt (fun i => decide (v i 0 = 2)) t), nI t)) n (nI (cnt (fun i => decide (v i 0 = 2)) n), nI n) (by omega) ?_ ?_]
  · exact ⟨_, rfl, rfl⟩
  · intro t ht
    have o0 := (ok.2.2 t ht).1
    dsimp only [u2, b_X10_holed_1]
    rw [rd1 (f := st) (by omega), bnd_some, hm.2.1, if_neg (nI_ge ht (by omega)), show (5 : Int32) * nI t = nI (5 * t) from pk_mul 5 t, show (2 : Int32) + nI (5 * t) = nI (2 + 5 * t) from nI_add 2 _, rd_s (by omega) (by omega), bnd_some, (hm.2.2 t ht).1, show nI t + 1 = nI (t + 1) from nI_add t 1, show nI (cnt (fun i => decide (v i 0 = 2)) t) + 1 = nI (cnt (fun i => decide (v i 0 = 2)) t + 1) from nI_add _ 1, show nI (cnt (fun i => decide (v i 0 = 2)) t) + 0 = nI (cnt (fun i => decide (v i 0 = 2)) t) from nI_add _ 0]
    by_cases q : v t 0 = 2
    · rw [if_pos (by rw [q]; rfl)]
      simp [cnt, q]
    · rw [if_neg (show ¬ nI (v t 0) = (2 : Int32) from fun e => q (nI_inj (b := 2) (by omega) (by omega) e))]
      simp [cnt, q]
  · dsimp only [u2, b_X10_holed_1]
    rw [rd1 (f := st) (by omega), bnd_some, hm.2.1, if_pos (nI_le (Nat.le_refl _) (by omega))]
  · intro t ht
    have o0 := (ok.2.2 t ht).1
    dsimp only [u2, b_X4_holedOnes_1]
    rw [if_neg (nI_ge ht (by omega)), show f_X4_cell (nI t) 0 (nI n) xc = some (nI (v t 0)) from X4_cell_s (w := 0) hx hn ht (by omega), bnd_some, show nI t + 1 = nI (t + 1) from nI_add t 1, show nI (cnt (fun i => decide (v i 0 = 2)) t) + 1 = nI (cnt (fun i => decide (v i 0 = 2)) t + 1) from nI_add _ 1]
    by_cases q : v t 0 = 2
    · rw [if_pos (by rw [q]; rfl)]
      simp [cnt, q]
    · rw [if_neg (show ¬ nI (v t 0) = (2 : Int32) from fun e => q (nI_inj (b := 2) (by omega) (by omega) e))]
      simp [cnt, q]
  · dsimp only [u2, b_X4_holedOnes_1]
    rw [if_pos (nI_le (Nat.le_refl _) (by omega))]
