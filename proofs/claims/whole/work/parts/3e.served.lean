/-! which feet can be served -/
theorem lp_cnt {S R : Type} {b : S → Option (S ⊕ R)} (I : Nat → S → Prop) (P : R → Prop) (m : Nat) (s : S) (hm : m < 1000000) (h0 : I 0 s) (hs : ∀ i s, i < m → I i s → ∃ s', b s = some (.inl s') ∧ I (i + 1) s') (he : ∀ s, I m s → ∃ r, b s = some (.inr r) ∧ P r) : ∃ r, lp b FU s = some r ∧ P r :=
  lp_FU (b := b) I P m s hm h0 (fun i s hi hI => by
    by_cases q : i < m
    · exact Or.inr ⟨q, hs i s q hI⟩
    · have e : i = m := by omega
      subst e
      exact Or.inl (he s hI))
theorem cnt_or {q : Nat → Bool} {i : Nat} (h : q i = false) : ∀ n, cnt (fun k => q k || decide (i = k)) n = cnt q n + (if i < n then 1 else 0)
  | 0 => rfl
  | n + 1 => by
    rw [cnt, cnt, cnt_or h n]
    by_cases e : i = n
    · subst e
      simp [h]
    · have : (i < n + 1) ↔ i < n := by omega
      simp only [e, decide_false, Bool.or_false, this]
      split <;> split <;> omega
def pc (m : Nat) : Nat := cnt m.testBit 10
theorem pc_or {m i : Nat} (h : m.testBit i = false) (hi : i < 10) : pc (m ||| 2 ^ i) = pc m + 1 := by
  unfold pc
  rw [cnt_congr (q := fun k => m.testBit k || decide (i = k)) (fun k _ => tb_or_bit m i k), cnt_or h, if_pos hi]
theorem pc_le (m : Nat) : pc m ≤ 10 := cnt_le _ _
theorem bitC_c : ∀ m, m < 1024 → f_J6_bitCount_0f7a4 (nI m) = some (nI (pc m)) := by decide +kernel
section SV
variable {xc st nw : Nat → Int32} {n d F s : Nat} {v : Nat → Nat → Nat} {xl xr mf : Nat → Int32} {fl fr : Nat → Nat}
/-- the picture that a look keeps -/
def LK (v : Nat → Nat → Nat) (n d : Nat) (mates sizes : Nat → Int32) : Prop := ∀ t, t < n → mates t = nI (bits (fun j => sAl v t j d || sAl v j t d) n) ∧ sizes t = nI (sSize v t d)
theorem X1_look_s (hx : XC xc n v) (ok : okS n d v) (m0 s0 : Nat → Int32) : ∃ ma sz, f_X1_look m0 s0 (nI n) (nI d) xc = some (ma, sz, nI (bits (fun i => decide (v i 1 = 0)) n), nI n) ∧ LK v n d ma sz := by
  have hn := ok.1
  have hd := ok.2.1
  unfold f_X1_look
  have e1 : (if nI n < 10 then nI n else 10) = nI n := by
    by_cases q : n = 10
    · subst q
      rw [if_neg (by decide)]; rfl
    · rw [if_pos (show nI n < 10 from nI_lt (b := 10) (by omega) (by omega))]
  have e2 : (if 0 < nI n then nI n else 0) = nI n := by
    by_cases q : n = 0
    · subst q
      rw [if_neg (by decide)]; rfl
    · rw [if_pos (show 0 < nI n from nI_lt (a := 0) (by omega) (by omega))]
  rw [e1, bnd_some, e2, bnd_some, show f_X4_ofSide 0 (nI n) xc = _ from X4_ofSide_s (z := 0) hx hn ok.2.2 (by omega), bnd_some]
  obtain ⟨r, e, E⟩ := lp_cnt (b := u3 (b_X1_look_1 xc (nI n) (nI d) (nI n))) (fun t q => ∃ ma sz, q = (nI t, ma, sz) ∧ ∀ k, k < t → ma k = nI (bits (fun j => sAl v k j d || sAl v j k d) n) ∧ sz k = nI (sSize v k d)) (fun r => ∃ z ma sz, r = (z, ma, sz) ∧ LK v n d ma sz) n ((0 : Int32), m0, s0) (by omega) ⟨m0, s0, rfl, fun k hk => absurd hk (by omega)⟩ (by
    rintro t q ht ⟨ma, sz, rfl, h⟩
    dsimp only [u3, b_X1_look_1]
    rw [if_neg (nI_ge ht (by omega)), X4_matesOf_s hx hn ok.2.2 ht (Nat.le_refl d) (by omega), bnd_some, X9_put_s (show t < 10 by omega) (by omega), bnd_some, X4_sizeOn_s hx hn ht (ok.2.2 t ht) (Nat.le_refl d) (by omega), bnd_some, X9_put_s (show t < 10 by omega) (by omega), bnd_some, show nI t + 1 = nI (t + 1) from nI_add t 1]
    refine ⟨_, rfl, _, _, rfl, fun k hk => ?_⟩
    by_cases q : k = t
    · subst q
      simp
    · simp only [q, if_false]
      exact h k (by omega)) (by
    rintro q ⟨ma, sz, rfl, h⟩
    dsimp only [u3, b_X1_look_1]
    rw [if_pos (nI_le (Nat.le_refl _) (by omega))]
    exact ⟨_, rfl, _, _, _, rfl, h⟩)
  obtain ⟨z, ma, sz, rfl, E⟩ := E
  rw [e]
  exact ⟨ma, sz, rfl, E⟩
def sui (v : Nat → Nat → Nat) (fl fr : Nat → Nat) (d s f : Nat) : Nat → Bool := fun i => fitB fl fr s f (if v i 1 = 0 then 0 else 1) (sSize v i d)
def cnd (v : Nat → Nat → Nat) (fl fr : Nat → Nat) (d s f m i j : Nat) : Bool := (decide (v i 1 = 0) && sui v fl fr d s f i && !m.testBit i) && (sAl v i j d && sui v fl fr d s f j && !m.testBit j)
def upR (r : Nat → Bool) (k : Nat) : Nat → Bool := fun m => r m || decide (m = k)
def rIn (C : Nat → Nat → Bool) (m i : Nat) (r : Nat → Bool) : Nat → Nat → Bool
  | 0 => r
  | t + 1 => if C i t then upR (rIn C m i r t) (m ||| 2 ^ i ||| 2 ^ t) else rIn C m i r t
def rOut (C : Nat → Nat → Bool) (m n : Nat) (r : Nat → Bool) : Nat → Nat → Bool
  | 0 => r
  | i + 1 => rIn C m i (rOut C m n r i) n
def rDn (C : Nat → Nat → Nat → Bool) (n N : Nat) (r : Nat → Bool) : Nat → Nat → Bool
  | 0 => r
  | t + 1 => if rDn C n N r t (N - 1 - t) then rOut (C (N - 1 - t)) (N - 1 - t) n (rDn C n N r t) n else rDn C n N r t
def rFt (C : Nat → Nat → Nat → Nat → Bool) (n N : Nat) : Nat → Nat → Bool
  | 0 => fun m => decide (m = 0)
  | f + 1 => rDn (C f) n N (rFt C n N f) N
theorem rIn_mono {C : Nat → Nat → Bool} {m i : Nat} {r : Nat → Bool} {k : Nat} (h : r k = true) : ∀ t, rIn C m i r t k = true
  | 0 => h
  | t + 1 => by
    unfold rIn
    split
    · unfold upR
      rw [rIn_mono h t, Bool.true_or]
    · exact rIn_mono h t
theorem rOut_mono {C : Nat → Nat → Bool} {m n : Nat} {r : Nat → Bool} {k : Nat} (h : r k = true) : ∀ i, rOut C m n r i k = true
  | 0 => h
  | i + 1 => rIn_mono (rOut_mono h i) n
def XR (w : Nat → Int32) (r : Nat → Bool) : Prop := ∀ m, m < 1024 → w m = nI (if r m then 1 else 0)
def MR (N : Nat) (w : Nat → Int32) (r : Nat → Bool) : Prop := ∀ m, m < N → w m = if r m then nI (pc m / 2) else -1
theorem XR_up {w : Nat → Int32} {r : Nat → Bool} (h : XR w r) (k : Nat) : XR (fun j => if j = k then nI 1 else w j) (upR r k) := by
  intro m hm
  unfold upR
  by_cases q : m = k
  · simp [q]
  · simp only [q, if_false, decide_false, Bool.or_false]
    exact h m hm
theorem N_le (hn : n ≤ 10) : 2 ^ n ≤ 1024 := Nat.pow_le_pow_right (by decide) hn
theorem giveOnTop_s (hn : n ≤ 10) (hv : ∀ i, i < n → v i 1 ≤ 1) {ma sz : Nat → Int32} (hl : LK v n d ma sz) {m f : Nat} (hm : m < 2 ^ n) {w : Nat → Int32} {r : Nat → Bool} (hw : XR w r) : ∃ w', f_X1_giveOnTopOf (nI m) (nI (bits (sui v fl fr d s f) n &&& (m ^^^ 4294967295))) (nI (bits (fun i => decide (v i 1 = 0)) n)) (nI n) w ma = some w' ∧ XR w' (rOut (cnd v fl fr d s f m) m n r n) := by
  have hN := N_le hn
  have hS : bits (sui v fl fr d s f) n < 1024 := bits_10 _ hn
  have hL : bits (fun i => decide (v i 1 = 0)) n < 1024 := bits_10 _ hn
  generalize hA : bits (sui v fl fr d s f) n &&& (m ^^^ 4294967295) = A
  have hA2 : A < 1024 := by rw [← hA]; exact and_lt hS
  have tA : ∀ k, k < n → A.testBit k = (sui v fl fr d s f k && !m.testBit k) := by
    intro k hk
    rw [← hA, tb_andnot (by omega), tb_bits]
    simp [hk]
  unfold f_X1_giveOnTopOf
  obtain ⟨q, e, E⟩ := lp_cnt (b := u2 (b_X1_giveOnTopOf_1 (nI n) (nI (bits (fun i => decide (v i 1 = 0)) n)) ma (nI m) (nI A))) (fun t q => ∃ w, q = (nI t, w) ∧ XR w (rOut (cnd v fl fr d s f m) m n r t)) (fun q => ∃ z w, q = (z, w) ∧ XR w (rOut (cnd v fl fr d s f m) m n r n)) n ((0 : Int32), w) (by omega) ⟨w, rfl, hw⟩ (by
    rintro i q hi ⟨w, rfl, h⟩
    dsimp only [u2, b_X1_giveOnTopOf_1]
    rw [if_neg (nI_ge hi (by omega)), fa_and, X9_hasBit_s (Nat.lt_of_lt_of_le (and_lt hL) (by omega)) (by omega), bnd_some, Nat.testBit_and, tb_bits, tA i hi, show nI i + 1 = nI (i + 1) from nI_add i 1]
    by_cases c : (decide (v i 1 = 0) && (sui v fl fr d s f i && !m.testBit i)) = true
    · simp only [hi, decide_true, Bool.true_and, c, if_true]
      rw [if_neg (show ¬ nI 1 = 0 by decide)]
      rw [Bool.and_eq_true, Bool.and_eq_true] at c
      have c0 := of_decide_eq_true c.1
      obtain ⟨q, e, E⟩ := lp_cnt (b := u2 (b_X1_giveOnTopOf_2 (nI n) (nI i) ma (nI m) (nI A))) (fun t q => ∃ w', q = (nI t, w') ∧ XR w' (rIn (cnd v fl fr d s f m) m i (rOut (cnd v fl fr d s f m) m n r i) t)) (fun q => ∃ z w', q = (z, w') ∧ XR w' (rIn (cnd v fl fr d s f m) m i (rOut (cnd v fl fr d s f m) m n r i) n)) n ((0 : Int32), w) (by omega) ⟨w, rfl, h⟩ (by
        rintro j q hj ⟨w, rfl, h⟩
        have p1 : 2 ^ i < 2 ^ n := bit_lt hi
        have p2 : 2 ^ j < 2 ^ n := bit_lt hj
        have p3 : m ||| 2 ^ i ||| 2 ^ j < 2 ^ n := or_lt (or_lt hm p1) p2
        dsimp only [u2, b_X1_giveOnTopOf_2]
        rw [if_neg (nI_ge hj (by omega)), X9_at_s (show i < 10 by omega) (by omega), bnd_some, (hl i hi).1, fa_and, X9_hasBit_s (Nat.lt_of_lt_of_le (and_lt (bits_10 _ hn)) (by omega)) (by omega), bnd_some, Nat.testBit_and, tb_bits, tA j hj, show nI j + 1 = nI (j + 1) from nI_add j 1]
        have hz : sAl v j i d = false := by
          unfold sAl
          simp only [decide_eq_false_iff_not]
          intro z
          have := z.2.1
          omega
        have hC : cnd v fl fr d s f m i j = (sAl v i j d && (sui v fl fr d s f j && !m.testBit j)) := by
          unfold cnd
          rw [c0, c.2.1, c.2.2]
          simp [Bool.and_assoc]
        simp only [hj, decide_true, Bool.true_and, hz, Bool.or_false]
        rw [← hC, rIn]
        rcases Bool.eq_false_or_eq_true (cnd v fl fr d s f m i j) with g | g
        · simp only [g, if_true]
          rw [if_neg (show ¬ nI 1 = 0 by decide), show (1 : Int32) = nI 1 from rfl, i_bit (by omega), i_bit (by omega), fa_or, fa_or, X9_put_s (show m ||| 2 ^ i ||| 2 ^ j < 1024 by omega) (by omega), bnd_some]
          exact ⟨_, rfl, _, rfl, XR_up h _⟩
        · simp only [g, Bool.false_eq_true, if_false]
          rw [if_pos (show nI 0 = 0 from rfl)]
          exact ⟨_, rfl, _, rfl, h⟩) (by
        rintro q ⟨w, rfl, h⟩
        dsimp only [u2, b_X1_giveOnTopOf_2]
        rw [if_pos (nI_le (Nat.le_refl _) (by omega))]
        exact ⟨_, rfl, _, _, rfl, h⟩)
      obtain ⟨z, w', rfl, E⟩ := E
      rw [e]
      exact ⟨_, rfl, _, rfl, E⟩
    · simp only [hi, decide_true, Bool.true_and]
      rw [if_neg c, if_pos (show nI 0 = 0 from rfl)]
      refine ⟨_, rfl, _, rfl, ?_⟩
      have : ∀ t, rIn (cnd v fl fr d s f m) m i (rOut (cnd v fl fr d s f m) m n r i) t = rOut (cnd v fl fr d s f m) m n r i := by
        intro t
        induction t with
        | zero => rfl
        | succ t ih =>
          unfold rIn
          rw [if_neg, ih]
          intro g
          apply c
          unfold cnd at g
          rw [Bool.and_eq_true] at g
          rw [← Bool.and_assoc]
          exact g.1
      rw [rOut, this]
      exact h) (by
    rintro q ⟨w, rfl, h⟩
    dsimp only [u2, b_X1_giveOnTopOf_1]
    rw [if_pos (nI_le (Nat.le_refl _) (by omega))]
    exact ⟨_, rfl, _, _, rfl, h⟩)
  obtain ⟨z, w', rfl, E⟩ := E
  rw [e]
  exact ⟨w', rfl, E⟩
theorem top_s (hn : n ≤ 10) : (1 : Int32) <<< (nI n &&& 31) = nI (2 ^ n) := i_bit (by omega)
theorem lastI {k : Nat} (hk : k < 2147483647) : nI (k + 1) + (-1) = nI k := by
  rw [← nI_add k 1, Int32.add_assoc]
  rw [show nI 1 + (-1) = (0 : Int32) from by decide, Int32.add_zero]
theorem m1_neg : (nI 0 + (-1 : Int32) < 0) := by decide
theorem giveOut_s (hn : n ≤ 10) (hv : ∀ i, i < n → v i 1 ≤ 1) {ma sz : Nat → Int32} (hl : LK v n d ma sz) {f : Nat} {w : Nat → Int32} {r : Nat → Bool} (hw : XR w r) : ∃ w', f_X1_giveOut (nI (bits (sui v fl fr d s f) n)) (nI (bits (fun i => decide (v i 1 = 0)) n)) (nI n) w ma = some w' ∧ XR w' (rDn (cnd v fl fr d s f) n (2 ^ n) r (2 ^ n)) := by
  have hN := N_le hn
  have h1 : 1 ≤ 2 ^ n := Nat.one_le_two_pow
  unfold f_X1_giveOut
  rw [top_s hn, show nI (2 ^ n) - 1 = nI (2 ^ n - 1) from nIsub (b := 1) h1]
  obtain ⟨q, e, E⟩ := lp_cnt (b := u2 (b_X1_giveOut_1 (nI n) (nI (bits (fun i => decide (v i 1 = 0)) n)) ma (nI (bits (sui v fl fr d s f) n)))) (fun t q => ∃ w, q = (nI (2 ^ n - t) + (-1), w) ∧ XR w (rDn (cnd v fl fr d s f) n (2 ^ n) r t)) (fun q => ∃ z w, q = (z, w) ∧ XR w (rDn (cnd v fl fr d s f) n (2 ^ n) r (2 ^ n))) (2 ^ n) (nI (2 ^ n - 1), w) (by omega) ⟨w, by
      rw [Nat.sub_zero, ← lastI (k := 2 ^ n - 1) (by omega), show 2 ^ n - 1 + 1 = 2 ^ n by omega], hw⟩ (by
    rintro t q ht ⟨w, rfl, h⟩
    obtain ⟨m, hm⟩ : ∃ m, 2 ^ n - t = m + 1 := ⟨2 ^ n - t - 1, by omega⟩
    rw [hm, lastI (by omega)]
    dsimp only [u2, b_X1_giveOut_1]
    rw [if_neg (nI_pos (by omega)), X9_at_s (show m < 1024 by omega) (by omega), bnd_some, h m (by omega)]
    have e1 : 2 ^ n - 1 - t = m := by omega
    have e2 : 2 ^ n - (t + 1) = m := by omega
    rw [e2, rDn, e1]
    rcases Bool.eq_false_or_eq_true (rDn (cnd v fl fr d s f) n (2 ^ n) r t m) with g | g
    · simp only [g, if_true]
      obtain ⟨w', k1, k2⟩ := giveOnTop_s (fl := fl) (fr := fr) (s := s) (f := f) hn hv hl (show m < 2 ^ n by omega) h
      rw [if_neg (show ¬ nI 1 = 0 by decide), i_andnot, k1, bnd_some]
      exact ⟨_, rfl, _, rfl, k2⟩
    · simp only [g, Bool.false_eq_true, if_false]
      rw [if_pos (show nI 0 = 0 from rfl)]
      exact ⟨_, rfl, _, rfl, h⟩) (by
    rintro q ⟨w, rfl, h⟩
    dsimp only [u2, b_X1_giveOut_1]
    rw [Nat.sub_self, if_pos m1_neg]
    exact ⟨_, rfl, _, _, rfl, h⟩)
  obtain ⟨z, w', rfl, E⟩ := E
  rw [e]
  exact ⟨w', rfl, E⟩
end SV
