/-! longs; two loops in step; a year of days -/
theorem L_wide {n : Nat} (h : n < 2147483648) : Int32.toInt64 (nI n) = Int64.ofNat n := by
  apply Int64.toInt.inj
  rw [Int32.toInt_toInt64, nI_toInt h, Int64.toInt_ofNat_of_lt (by omega)]
theorem L_toI {n : Nat} (h : n < 9223372036854775808) : (Int64.ofNat n).toInt = n := Int64.toInt_ofNat_of_lt h
theorem L_div {a b : Nat} (ha : a < 9223372036854775808) (hb : b < 9223372036854775808) (hb0 : 0 < b) : Int64.ofNat a / Int64.ofNat b = Int64.ofNat (a / b) := by
  have h1 : a / b ≤ a := Nat.div_le_self a b
  apply Int64.toInt.inj
  rw [Int64.toInt_div, L_toI ha, L_toI hb, L_toI (by omega), ← Int.ofNat_tdiv]
  generalize a / b = q at h1 ⊢
  rw [Int.bmod_eq_of_le]
  all_goals omega
theorem L_mul (a b : Nat) : Int64.ofNat a * Int64.ofNat b = Int64.ofNat (a * b) := (Int64.ofNat_mul a b).symm
theorem L_add (a b : Nat) : Int64.ofNat a + Int64.ofNat b = Int64.ofNat (a + b) := (Int64.ofNat_add a b).symm
theorem L_sub {a b : Nat} (h : b ≤ a) : Int64.ofNat a - Int64.ofNat b = Int64.ofNat (a - b) := (Int64.ofNat_sub a b h).symm
theorem L_to32 {n : Nat} (h : n < 2147483648) : Int64.toInt32 (Int64.ofNat n) = nI n := by
  apply Int32.toInt.inj
  rw [Int64.toInt_toInt32, L_toI (by omega), nI_toInt h, Int.bmod_eq_of_le]
  all_goals omega
theorem lp_two0 {S1 R1 S2 R2 : Type} {b1 : S1 → Option (S1 ⊕ R1)} {b2 : S2 → Option (S2 ⊕ R2)} (I : Nat → S1 → S2 → Prop) (P : R1 → R2 → Prop) (m : Nat) (hs : ∀ i s1 s2, i < m → I i s1 s2 → ∃ t1 t2, b1 s1 = some (.inl t1) ∧ b2 s2 = some (.inl t2) ∧ I (i + 1) t1 t2) (he : ∀ s1 s2, I m s1 s2 → ∃ r1 r2, b1 s1 = some (.inr r1) ∧ b2 s2 = some (.inr r2) ∧ P r1 r2) : ∀ (k i : Nat) (s1 : S1) (s2 : S2) (n : Nat), i + k = m → I i s1 s2 → k < n → ∃ r1 r2, lp b1 n s1 = some r1 ∧ lp b2 n s2 = some r2 ∧ P r1 r2
  | _, _, _, _, 0, _, _, h => absurd h (by omega)
  | 0, i, s1, s2, n + 1, e, hI, _ => by
    have e : i = m := by omega
    subst e
    obtain ⟨r1, r2, h1, h2, h3⟩ := he s1 s2 hI
    exact ⟨r1, r2, by rw [lp, h1], by rw [lp, h2], h3⟩
  | k + 1, i, s1, s2, n + 1, e, hI, h => by
    obtain ⟨t1, t2, h1, h2, h3⟩ := hs i s1 s2 (by omega) hI
    obtain ⟨r1, r2, g1, g2, g3⟩ := lp_two0 I P m hs he k (i + 1) t1 t2 n (by omega) h3 (by omega)
    exact ⟨r1, r2, by rw [lp, h1]; exact g1, by rw [lp, h2]; exact g2, g3⟩
theorem lp_two {S1 R1 S2 R2 : Type} {b1 : S1 → Option (S1 ⊕ R1)} {b2 : S2 → Option (S2 ⊕ R2)} (I : Nat → S1 → S2 → Prop) (P : R1 → R2 → Prop) (m : Nat) (s1 : S1) (s2 : S2) (hm : m < 1000000) (h0 : I 0 s1 s2) (hs : ∀ i s1 s2, i < m → I i s1 s2 → ∃ t1 t2, b1 s1 = some (.inl t1) ∧ b2 s2 = some (.inl t2) ∧ I (i + 1) t1 t2) (he : ∀ s1 s2, I m s1 s2 → ∃ r1 r2, b1 s1 = some (.inr r1) ∧ b2 s2 = some (.inr r2) ∧ P r1 r2) : ∃ r1 r2, lp b1 FU s1 = some r1 ∧ lp b2 FU s2 = some r2 ∧ P r1 r2 :=
  lp_two0 I P m hs he m 0 s1 s2 FU (Nat.zero_add m) h0 (by unfold FU; omega)
theorem ff_none {p : Nat → Bool} : ∀ {k i : Nat}, (∀ j, i ≤ j → j < i + k → p j = false) → ff p i k = i + k
  | 0, i, _ => rfl
  | k + 1, i, h => by
    rw [ff, if_neg (by rw [h i (Nat.le_refl i) (by omega)]; decide), ff_none (fun j h1 h2 => h j (by omega) (by omega))]
    omega
theorem ff_sat {p : Nat → Bool} : ∀ {k i : Nat}, ff p i k < i + k → p (ff p i k) = true
  | 0, i, h => absurd h (by unfold ff; omega)
  | k + 1, i, h => by
    unfold ff at h ⊢
    cases q : p i with
    | true => simp only [q, if_true]
    | false =>
      simp only [q, Bool.false_eq_true, if_false] at h ⊢
      exact ff_sat (by omega)
def okD (n d : Nat) (v : Nat → Nat → Nat) : Prop := n ≤ 10 ∧ ∀ i, i < n → okC v i d
theorem okD_add {n d k s z w : Nat} {v : Nat → Nat → Nat} (h : okD n d v) (hn : n < 10) (hk : k ≤ 3) (hs : s ≤ 1) (hz : 12 ≤ z ∧ z ≤ 72) (hw : 1 ≤ w ∧ w ≤ 40) : okD (n + 1) d (vAdd v n k s z w d) := by
  refine ⟨by omega, fun i hi => ?_⟩
  unfold okC vAdd
  by_cases q : i = n
  · simp only [q, if_true]
    simp
    omega
  · simp only [q, if_false]
    exact h.2 i (by omega)
theorem okD_del {n d i : Nat} {v : Nat → Nat → Nat} (h : okD n d v) (hi : i < n) : okD (n - 1) d (vDel v i) := by
  refine ⟨by have := h.1; omega, fun j hj => ?_⟩
  unfold okC vDel
  by_cases q : j < i
  · simp only [q, if_true]
    exact h.2 j (by omega)
  · simp only [q, if_false]
    exact h.2 (j + 1) (by omega)
theorem okD_mono {n d e : Nat} {v : Nat → Nat → Nat} (h : okD n d v) (hd : d ≤ e) : okD n e v := ⟨h.1, fun i hi => okC_mono (h.2 i hi) hd⟩
def vDel2 (v : Nat → Nat → Nat) (i j : Nat) : Nat → Nat → Nat := vDel (vDel v (if i < j then j else i)) (if i < j then i else j)
def fjj (v : Nat → Nat → Nat) (n d i : Nat) : Nat := ff (fun j => sAl v i j d) 0 n
def fii (v : Nat → Nat → Nat) (n d : Nat) : Nat := ff (fun i => decide (fjj v n d i < n)) 0 n
theorem sAl_ne {v : Nat → Nat → Nat} {i j d : Nat} (h : sAl v i j d = true) : i ≠ j ∧ v i 1 = 0 := by
  unfold sAl at h
  have h := of_decide_eq_true h
  refine ⟨fun e => ?_, h.1⟩
  have h1 := h.1
  have h2 := h.2.1
  rw [e] at h1
  omega
section Y1
variable {c st : Nat → Int32} {n d : Nat} {v : Nat → Nat → Nat}
theorem X8_send_s (hx : XC c n v) (ok : okD n d v) (hd : d ≤ 2000) (w : Nat) : (fii v n d < n ∧ ∃ c', f_X8_sendFirstPair (nI w) (nI n) (nI d) c = some (c', nI (n - 2), nI (w + 1)) ∧ XC c' (n - 2) (vDel2 v (fii v n d) (fjj v n d (fii v n d)))) ∨ (¬ fii v n d < n ∧ f_X8_sendFirstPair (nI w) (nI n) (nI d) c = some (c, nI n, nI w)) := by
  have hn := ok.1
  have inner : ∀ i, i < n → ∃ r, lp (b_X8_sendFirstPair_2 (nI i) c (nI n) (nI d) (nI w)) FU 0 = some r ∧ ((fjj v n d i < n ∧ ∃ c', r = .inr (c', nI (n - 2), nI (w + 1)) ∧ XC c' (n - 2) (vDel2 v i (fjj v n d i))) ∨ (¬ fjj v n d i < n ∧ ∃ z, r = .inl z)) := by
    intro i hi
    refine lp_find (b := b_X8_sendFirstPair_2 (nI i) c (nI n) (nI d) (nI w)) (fun t s => s = nI t) (fun j => sAl v i j d) (fun t r => (t < n ∧ ∃ c', r = .inr (c', nI (n - 2), nI (w + 1)) ∧ XC c' (n - 2) (vDel2 v i t)) ∨ (¬ t < n ∧ ∃ z, r = .inl z)) n (0 : Int32) (by omega) rfl ?_ ?_ ?_
    · intro t s ht hs hp
      subst hs
      have hp : sAl v i t d = true := hp
      unfold b_X8_sendFirstPair_2
      obtain ⟨c', h1, h2⟩ := X4_removeTwo_s hx hn hi ht (sAl_ne hp).1
      rw [if_neg (nI_ge ht (by omega)), X4_areAlikeOn_s hx hn hi ht (ok.2 i hi) (ok.2 t ht) (Nat.le_refl d) hd, bnd_some, hp, if_neg (show ¬ nI (if true = true then 1 else 0) = 0 by decide), h1, show (1 : Int32) = nI 1 from rfl, nI_add]
      exact ⟨_, rfl, Or.inl ⟨ht, c', rfl, h2⟩⟩
    · intro t s ht hs hp
      subst hs
      have hp : sAl v i t d = false := hp
      unfold b_X8_sendFirstPair_2
      rw [if_neg (nI_ge ht (by omega)), X4_areAlikeOn_s hx hn hi ht (ok.2 i hi) (ok.2 t ht) (Nat.le_refl d) hd, bnd_some, hp, if_pos (show nI (if false = true then 1 else 0) = 0 from rfl)]
      exact ⟨_, rfl, nI_add t 1⟩
    · intro s hs
      subst hs
      unfold b_X8_sendFirstPair_2
      rw [if_pos (nI_le (Nat.le_refl _) (by omega))]
      exact ⟨_, rfl, Or.inr ⟨by omega, _, rfl⟩⟩
  obtain ⟨r, e, E⟩ := lp_find (b := b_X8_sendFirstPair_1 c (nI n) (nI d) (nI w)) (fun t s => s = nI t) (fun i => decide (fjj v n d i < n)) (fun t r => (t < n ∧ ∃ c', r = .inr (c', nI (n - 2), nI (w + 1)) ∧ XC c' (n - 2) (vDel2 v t (fjj v n d t))) ∨ (¬ t < n ∧ ∃ z, r = .inl z)) n (0 : Int32) (by omega) rfl (by
    intro t s ht hs hp
    subst hs
    have hp := of_decide_eq_true hp
    obtain ⟨r, e, E⟩ := inner t ht
    unfold b_X8_sendFirstPair_1
    rw [if_neg (nI_ge ht (by omega)), e]
    rcases E with ⟨_, c', rfl, h⟩ | ⟨h, _⟩
    · exact ⟨_, rfl, Or.inl ⟨ht, c', rfl, h⟩⟩
    · exact absurd hp h) (by
    intro t s ht hs hp
    subst hs
    have hp := of_decide_eq_false hp
    obtain ⟨r, e, E⟩ := inner t ht
    unfold b_X8_sendFirstPair_1
    rw [if_neg (nI_ge ht (by omega)), e]
    rcases E with ⟨h, _⟩ | ⟨_, z, rfl⟩
    · exact absurd h hp
    · exact ⟨_, rfl, nI_add t 1⟩) (by
    intro s hs
    subst hs
    unfold b_X8_sendFirstPair_1
    rw [if_pos (nI_le (Nat.le_refl _) (by omega))]
    exact ⟨_, rfl, Or.inr ⟨by omega, _, rfl⟩⟩)
  unfold f_X8_sendFirstPair
  rw [e]
  rcases E with ⟨h, c', rfl, h2⟩ | ⟨h, z, rfl⟩
  · exact Or.inl ⟨h, c', rfl, h2⟩
  · exact Or.inr ⟨h, rfl⟩
theorem M_firstGo_s (hm : MN st n d v) (ok : okD n d v) (hd : d ≤ 2000) : (fii v n d < n ∧ ∃ s', f_X10_firstGo st = some (1, s') ∧ MN s' (n - 2) d (vDel2 v (fii v n d) (fjj v n d (fii v n d)))) ∨ (¬ fii v n d < n ∧ f_X10_firstGo st = some (0, st)) := by
  have hn := ok.1
  have inner : ∀ i, i < n → ∃ r, lp (b_X10_firstGo_2 (nI i) st) FU 0 = some r ∧ ((fjj v n d i < n ∧ ∃ c', r = .inr (1, c') ∧ MN c' (n - 2) d (vDel2 v i (fjj v n d i))) ∨ (¬ fjj v n d i < n ∧ ∃ z, r = .inl z)) := by
    intro i hi
    by_cases qs : v i 1 = 0
    · refine lp_find (b := b_X10_firstGo_2 (nI i) st) (fun t s => s = nI t) (fun j => sAl v i j d) (fun t r => (t < n ∧ ∃ c', r = .inr (1, c') ∧ MN c' (n - 2) d (vDel2 v i t)) ∨ (¬ t < n ∧ ∃ z, r = .inl z)) n (0 : Int32) (by omega) rfl ?_ ?_ ?_
      · intro t s ht hs hp
        subst hs
        have hp : sAl v i t d = true := hp
        have hne := (sAl_ne hp).1
        unfold b_X10_firstGo_2
        rw [rd1 (f := st) (by omega), bnd_some, hm.2.1, if_neg (nI_ge ht (by omega)), M_sideOf_s hm hn hi, bnd_some, if_pos (show nI (v i 1) = 0 from by rw [qs]; rfl), M_areAlike_s hm hn hi ht (ok.2 i hi) (ok.2 t ht) hd, bnd_some, hp, Bool.true_or, if_neg (show ¬ nI (if true = true then 1 else 0) = 0 by decide)]
        by_cases q : i ≤ t
        · rw [if_pos (nI_le q (by omega))]
          obtain ⟨s1, g1, g2⟩ := M_leaves_s hm hn ht
          obtain ⟨s2, g3, g4⟩ := M_leaves_s g2 (by omega) (show i < n - 1 by omega)
          rw [g1, bnd_some, if_pos (nI_le q (by omega)), g3, bnd_some]
          refine ⟨_, rfl, Or.inl ⟨ht, s2, rfl, ?_⟩⟩
          unfold vDel2
          rw [if_pos (by omega), if_pos (by omega)]
          exact g4
        · rw [if_neg (nI_ge (by omega) (by omega))]
          obtain ⟨s1, g1, g2⟩ := M_leaves_s hm hn hi
          obtain ⟨s2, g3, g4⟩ := M_leaves_s g2 (by omega) (show t < n - 1 by omega)
          rw [g1, bnd_some, if_neg (nI_ge (by omega) (by omega)), g3, bnd_some]
          refine ⟨_, rfl, Or.inl ⟨ht, s2, rfl, ?_⟩⟩
          unfold vDel2
          rw [if_neg (by omega), if_neg (by omega)]
          exact g4
      · intro t s ht hs hp
        subst hs
        have hp : sAl v i t d = false := hp
        have hp2 : sAl v t i d = false := by
          unfold sAl
          simp only [decide_eq_false_iff_not]
          intro z
          have := z.2.1
          omega
        unfold b_X10_firstGo_2
        rw [rd1 (f := st) (by omega), bnd_some, hm.2.1, if_neg (nI_ge ht (by omega)), M_sideOf_s hm hn hi, bnd_some, if_pos (show nI (v i 1) = 0 from by rw [qs]; rfl), M_areAlike_s hm hn hi ht (ok.2 i hi) (ok.2 t ht) hd, bnd_some, hp, hp2, Bool.false_or, if_pos (show nI (if false = true then 1 else 0) = 0 from rfl)]
        exact ⟨_, rfl, nI_add t 1⟩
      · intro s hs
        subst hs
        unfold b_X10_firstGo_2
        rw [rd1 (f := st) (by omega), bnd_some, hm.2.1, if_pos (nI_le (Nat.le_refl _) (by omega))]
        exact ⟨_, rfl, Or.inr ⟨by omega, _, rfl⟩⟩
    · have o1 := (ok.2 i hi).2.1
      have hno : ∀ j, sAl v i j d = false := by
        intro j
        unfold sAl
        simp only [decide_eq_false_iff_not]
        intro z
        exact qs z.1
      have hf : fjj v n d i = n := by
        unfold fjj
        rw [ff_none (fun j _ _ => hno j), Nat.zero_add]
      refine ⟨.inl 0, ?_, Or.inr ⟨by omega, _, rfl⟩⟩
      unfold FU
      rw [lp]
      rw [show b_X10_firstGo_2 (nI i) st 0 = some (.inr (.inl 0)) from by
        unfold b_X10_firstGo_2
        rw [rd1 (f := st) (by omega), bnd_some, hm.2.1, show (0 : Int32) = nI 0 from rfl, if_neg (nI_ge (show 0 < n by omega) (by omega)), M_sideOf_s hm hn hi, bnd_some, if_neg (fun e => qs (nI_inj (by omega) (by omega) e))]]
  obtain ⟨r, e, E⟩ := lp_find (b := b_X10_firstGo_1 st) (fun t s => s = nI t) (fun i => decide (fjj v n d i < n)) (fun t r => (t < n ∧ ∃ c', r = .inr (1, c') ∧ MN c' (n - 2) d (vDel2 v t (fjj v n d t))) ∨ (¬ t < n ∧ ∃ z, r = .inl z)) n (0 : Int32) (by omega) rfl (by
    intro t s ht hs hp
    subst hs
    have hp := of_decide_eq_true hp
    obtain ⟨r, e, E⟩ := inner t ht
    unfold b_X10_firstGo_1
    rw [rd1 (f := st) (by omega), bnd_some, hm.2.1, if_neg (nI_ge ht (by omega)), e]
    rcases E with ⟨_, c', rfl, h⟩ | ⟨h, _⟩
    · exact ⟨_, rfl, Or.inl ⟨ht, c', rfl, h⟩⟩
    · exact absurd hp h) (by
    intro t s ht hs hp
    subst hs
    have hp := of_decide_eq_false hp
    obtain ⟨r, e, E⟩ := inner t ht
    unfold b_X10_firstGo_1
    rw [rd1 (f := st) (by omega), bnd_some, hm.2.1, if_neg (nI_ge ht (by omega)), e]
    rcases E with ⟨h, _⟩ | ⟨_, z, rfl⟩
    · exact absurd h hp
    · exact ⟨_, rfl, nI_add t 1⟩) (by
    intro s hs
    subst hs
    unfold b_X10_firstGo_1
    rw [rd1 (f := st) (by omega), bnd_some, hm.2.1, if_pos (nI_le (Nat.le_refl _) (by omega))]
    exact ⟨_, rfl, Or.inr ⟨by omega, _, rfl⟩⟩)
  unfold f_X10_firstGo
  rw [e]
  rcases E with ⟨h, c', rfl, h2⟩ | ⟨h, z, rfl⟩
  · exact Or.inl ⟨h, c', rfl, h2⟩
  · exact Or.inr ⟨h, rfl⟩
end Y1
theorem fjj_ok {v : Nat → Nat → Nat} {n d : Nat} (h : fii v n d < n) : fjj v n d (fii v n d) < n ∧ fii v n d ≠ fjj v n d (fii v n d) := by
  have h1 : decide (fjj v n d (fii v n d) < n) = true := ff_sat (p := fun i => decide (fjj v n d i < n)) (k := n) (i := 0) (by rw [Nat.zero_add]; exact h)
  have h1 := of_decide_eq_true h1
  refine ⟨h1, ?_⟩
  have h2 : sAl v (fii v n d) (fjj v n d (fii v n d)) d = true := ff_sat (p := fun j => sAl v (fii v n d) j d) (k := n) (i := 0) (by rw [Nat.zero_add]; exact h1)
  exact (sAl_ne h2).1
theorem okD_del2 {v : Nat → Nat → Nat} {n d i j : Nat} (ok : okD n d v) (hi : i < n) (hj : j < n) (hij : i ≠ j) : okD (n - 2) d (vDel2 v i j) := by
  unfold vDel2
  show okD (n - 1 - 1) d _
  by_cases q : i < j
  · rw [if_pos q, if_pos q]
    exact okD_del (okD_del ok hj) (by omega)
  · rw [if_neg q, if_neg q]
    exact okD_del (okD_del ok hi) (by omega)
def drw (z t : Nat) : Nat := (7919 * z + 6151 * t + 1) * (7919 * z + 6151 * t + 1) % 65521 / 4
theorem drw_lt (z t : Nat) : drw z t < 16381 := by unfold drw; omega
theorem draw_s {z t : Nat} (hz : z ≤ 9999) (ht : t < 60) : Int64.toInt32 ((((7919 * (Int32.toInt64 (nI z)) + 6151 * (Int32.toInt64 (nI t))) + 1) * ((7919 * (Int32.toInt64 (nI z)) + 6151 * (Int32.toInt64 (nI t))) + 1) - (((7919 * (Int32.toInt64 (nI z)) + 6151 * (Int32.toInt64 (nI t))) + 1) * ((7919 * (Int32.toInt64 (nI z)) + 6151 * (Int32.toInt64 (nI t))) + 1)) / 65521 * 65521) / 4) = nI (drw z t) := by
  have hv : 7919 * z + 6151 * t + 1 < 100000000 := by omega
  have hd := drw_lt z t
  have e : drw z t = ((7919 * z + 6151 * t + 1) * (7919 * z + 6151 * t + 1) - (7919 * z + 6151 * t + 1) * (7919 * z + 6151 * t + 1) / 65521 * 65521) / 4 := by
    unfold drw
    generalize (7919 * z + 6151 * t + 1) * (7919 * z + 6151 * t + 1) = y
    omega
  rw [L_wide (by omega), L_wide (by omega), show (7919 : Int64) = Int64.ofNat 7919 from rfl, show (6151 : Int64) = Int64.ofNat 6151 from rfl, show (1 : Int64) = Int64.ofNat 1 from rfl, show (65521 : Int64) = Int64.ofNat 65521 from rfl, show (4 : Int64) = Int64.ofNat 4 from rfl, L_mul, L_mul, L_add, L_add, L_mul]
  have hy : (7919 * z + 6151 * t + 1) * (7919 * z + 6151 * t + 1) < 100000000 * 100000000 := Nat.mul_lt_mul_of_lt_of_lt hv hv
  rw [e]
  rw [e] at hd
  generalize (7919 * z + 6151 * t + 1) * (7919 * z + 6151 * t + 1) = y at hy hd ⊢
  rw [L_div (by omega) (by omega) (by omega), L_mul, L_sub (by omega), L_div (by omega) (by omega) (by omega), L_to32 (by omega)]
theorem day_step {c w : Nat → Int32} {n d W t : Nat} {v : Nat → Nat → Nat} (hx : XC c n v) (hm : MN w n d v) (ok : okD n d v) (hd : d ≤ 1999) : ∃ c' n' W' w' v', f_X8_sendFirstPair (nI W) (nI n) (nI d) c = some (c', nI n', nI W') ∧ (bnd (f_X10_firstGo w) <| u2 fun r16 w17 => if r16 = 0 then (bnd (rd 52 w17 0) fun v19 => bnd (wr 52 w17 0 (v19 + 1)) fun a20 => some (.inl ((nI W + 0), (nI t + 1), a20))) else bnd (rd 52 w17 0) fun v21 => bnd (wr 52 w17 0 (v21 + 1)) fun a22 => some (.inl ((nI W + 1), (nI t + 1), a22))) = (some (.inl (nI W', nI (t + 1), w')) : Option ((Int32 × Int32 × (Nat → Int32)) ⊕ (Int32 × Int32 × (Nat → Int32)))) ∧ XC c' n' v' ∧ MN w' n' (d + 1) v' ∧ okD n' (d + 1) v' := by
  have a0 : nI W + 0 = nI W := nI_add W 0
  have a1 : nI W + 1 = nI (W + 1) := nI_add W 1
  have a2 : nI t + 1 = nI (t + 1) := nI_add t 1
  have a3 : nI d + 1 = nI (d + 1) := nI_add d 1
  rcases X8_send_s hx ok (by omega) W with ⟨h, c', h1, h2⟩ | ⟨h, h1⟩
  · rcases M_firstGo_s hm ok (by omega) with ⟨_, s', g1, g2⟩ | ⟨g, _⟩
    · obtain ⟨f1, f2⟩ := fjj_ok h
      rw [h1, g1]
      simp only [bnd_some, u2, zI1, if_false]
      rw [rd0 (f := s') (by omega), bnd_some, g2.1, show ∀ x, wr 52 s' 0 x = _ from fun x => wr_s (k := 0) (by omega) (by omega), bnd_some, a1, a2, a3]
      exact ⟨_, _, _, _, _, rfl, rfl, h2, MN_day g2, okD_mono (okD_del2 ok h f1 f2) (by omega)⟩
    · exact absurd h g
  · rcases M_firstGo_s hm ok (by omega) with ⟨g, _⟩ | ⟨_, g1⟩
    · exact absurd g h
    · rw [h1, g1]
      simp only [bnd_some, u2, eq_self, if_true]
      rw [rd0 (f := w) (by omega), bnd_some, hm.1, show ∀ x, wr 52 w 0 x = _ from fun x => wr_s (k := 0) (by omega) (by omega), bnd_some, a0, a2, a3]
      exact ⟨_, _, _, _, _, rfl, rfl, hx, MN_day hm, okD_mono ok (by omega)⟩
theorem api_year (x1 x2 x3 : Int32) (nw : Nat → Int32) {xc st : Nat → Int32} {xn xd : Int32} (hS : RS xc xn xd st) (dw dn dd : Int32) (dc : Nat → Int32) : ∃ r a b c e nw', f_X9_year x1 x2 x3 xn xd xc dw dn dd dc = some (r, a, b, c, e) ∧ f_X10_year x1 x2 x3 st nw = some (r, nw') := by
  obtain ⟨n, d, v, ok, rfl, rfl, hx, hm⟩ := hS
  have hn := ok.1
  have hd := ok.2.1
  obtain ⟨nw', n1, n2⟩ := M_asItIs_s hm ok.1 nw
  unfold f_X9_year f_X10_year
  rw [M_in_s, M_in_s, M_in_s, show f_X9_within x1 0 9999 = f_X9_within x1 (nI 0) (nI 9999) from rfl, show f_X9_within x2 1 60 = f_X9_within x2 (nI 1) (nI 60) from rfl, show f_X9_within x3 0 1 = f_X9_within x3 (nI 0) (nI 1) from rfl]
  rcases win_c x1 (a := 0) (b := 9999) (by omega) (by omega) with q | ⟨z, z1', z2, rfl, q⟩
  · rw [q]
    simp only [bnd_some, z0, z1, z10, eq_self, if_true, if_false, Bool.false_eq_true]
    exact ⟨_, _, _, _, _, _, rfl, rfl⟩
  rw [q]
  simp only [bnd_some, z0, z1, z10, eq_self, if_true, if_false, Bool.false_eq_true]
  rcases win_c x2 (a := 1) (b := 60) (by omega) (by omega) with q | ⟨m, m1, m2, rfl, q⟩
  · rw [q]
    simp only [bnd_some, z0, z1, z10, eq_self, if_true, if_false, Bool.false_eq_true]
    exact ⟨_, _, _, _, _, _, rfl, rfl⟩
  rw [q]
  simp only [bnd_some, z0, z1, z10, eq_self, if_true, if_false, Bool.false_eq_true]
  rcases win_c x3 (a := 0) (b := 1) (by omega) (by omega) with q | ⟨k, k1, k2, rfl, q⟩
  · rw [q]
    simp only [bnd_some, z0, z1, z10, eq_self, if_true, if_false, Bool.false_eq_true]
    exact ⟨_, _, _, _, _, _, rfl, rfl⟩
  rw [q]
  simp only [bnd_some, z0, z1, z10, eq_self, if_true, if_false, Bool.false_eq_true]
  rw [n1]
  unfold f_X8_live
  obtain ⟨c0, e0, hx0⟩ := X4_copy_s (d := d) dc hx hn
  rw [e0]
  simp only [bnd_some, u3]
  obtain ⟨r1, r2, e1, e2, E⟩ := lp_two (b1 := u5 (b_X8_live_1 (nI z) (nI m))) (b2 := u3 (b_X10_year_1 (nI z) (nI m))) (fun t s1 s2 => ∃ n v W c w, XC c n v ∧ MN w n (d + t) v ∧ okD n (d + t) v ∧ s1 = (nI t, nI W, nI n, nI (d + t), c) ∧ s2 = (nI W, nI t, w)) (fun r1 r2 => ∃ n d v W c w, MN w n d v ∧ r1 = (nI m, nI W, nI n, nI d, c) ∧ r2 = (nI W, nI m, w)) m ((0 : Int32), (0 : Int32), nI n, nI d, c0) ((0 : Int32), (0 : Int32), nw') (by omega) ⟨n, v, 0, c0, nw', hx0, n2, ⟨hn, ok.2.2⟩, rfl, rfl⟩ (by
    rintro t s1 s2 ht ⟨n, v, W, c, w, hx, hm, ok, rfl, rfl⟩
    have hn := ok.1
    dsimp only [u5, u3, b_X8_live_1, b_X10_year_1]
    rw [if_neg (nI_ge ht (by omega)), if_neg (nI_ge ht (by omega)), rd1 (f := w) (by omega)]
    unfold f_X8_drawOf
    simp only [bnd_some]
    rw [draw_s z2 (by omega), hm.2.1]
    have a3 : nI (d + t) + 1 = nI (d + (t + 1)) := nI_add (d + t) 1
    have a4 : nI t + 1 = nI (t + 1) := nI_add t 1
    by_cases q : n = 10
    · subst q
      rw [if_pos (show (10 : Int32) ≤ nI 10 from by decide), if_pos (show (10 : Int32) ≤ nI 10 from by decide)]
      obtain ⟨c', n', W', w', v', h1, h2, h3, h4, h5⟩ := day_step (W := W) (t := t) hx hm ok (by omega)
      rw [h1]
      simp only [bnd_some]
      rw [a4] at h2
      rw [a3, a4]
      exact ⟨_, _, rfl, h2, n', v', W', c', w', h3, h4, h5, rfl, rfl⟩
    · rw [if_neg (show ¬ (10 : Int32) ≤ nI n from nI_ge (b := 10) (by omega) (by omega)), if_neg (show ¬ (10 : Int32) ≤ nI n from nI_ge (b := 10) (by omega) (by omega))]
      have hk := drw_lt z t
      generalize drw z t = k at hk
      have b1 : nI k - nI k / 2 * 2 = nI (k % 2) := nIrem (d := 2) (by omega) (by omega) (by omega)
      have b2 : nI k / 2 = nI (k / 2) := nIdiv (d := 2) (by omega) (by omega) (by omega)
      have b3 : nI k / 32 = nI (k / 32) := nIdiv (d := 32) (by omega) (by omega) (by omega)
      have b4 : nI (k / 2) - nI (k / 2) / 12 * 12 = nI (k / 2 % 12) := nIrem (d := 12) (by omega) (by omega) (by omega)
      have b5 : nI (k / 32) - nI (k / 32) / 5 * 5 = nI (k / 32 % 5) := nIrem (d := 5) (by omega) (by omega) (by omega)
      have b6 : (30 : Int32) + nI (k / 2 % 12) = nI (30 + k / 2 % 12) := nI_add 30 _
      have b7 : (10 : Int32) + nI (k / 32 % 5) = nI (10 + k / 32 % 5) := nI_add 10 _
      rw [b1, b2, b3, b4, b5, b6, b7]
      obtain ⟨c1, f1, f2⟩ := X4_add_s (d := d + t) hx (by omega) 0 (k % 2) (30 + k / 2 % 12) (10 + k / 32 % 5)
      obtain ⟨s1, g1, g2⟩ := M_puts_s hm (by omega) 0 (k % 2) (30 + k / 2 % 12) (10 + k / 32 % 5)
      have ok1 := okD_add ok (by omega) (show 0 ≤ 3 by omega) (show k % 2 ≤ 1 by omega) (show 12 ≤ 30 + k / 2 % 12 ∧ 30 + k / 2 % 12 ≤ 72 by omega) (show 1 ≤ 10 + k / 32 % 5 ∧ 10 + k / 32 % 5 ≤ 40 by omega)
      rw [show f_X4_add 0 (nI (k % 2)) (nI (30 + k / 2 % 12)) (nI (10 + k / 32 % 5)) (nI n) (nI (d + t)) c = _ from f1, show f_X10_puts 0 (nI (k % 2)) (nI (30 + k / 2 % 12)) (nI (10 + k / 32 % 5)) 52 w = _ from g1]
      simp only [bnd_some, u2]
      obtain ⟨c', n', W', w', v', h1, h2, h3, h4, h5⟩ := day_step (W := W) (t := t) f2 g2 ok1 (by omega)
      rw [h1]
      simp only [bnd_some]
      rw [a4] at h2
      rw [a3, a4]
      exact ⟨_, _, rfl, h2, n', v', W', c', w', h3, h4, h5, rfl, rfl⟩) (by
    rintro s1 s2 ⟨n, v, W, c, w, hx, hm, ok, rfl, rfl⟩
    dsimp only [u5, u3, b_X8_live_1, b_X10_year_1]
    rw [if_pos (nI_le (Nat.le_refl _) (by omega)), if_pos (nI_le (Nat.le_refl _) (by omega))]
    exact ⟨_, _, rfl, rfl, n, _, v, W, c, w, hm, rfl, rfl⟩)
  obtain ⟨n', d', v', W, c, w, hm', rfl, rfl⟩ := E
  rw [e1, e2]
  simp only [bnd_some, u5, u4, u3]
  rcases (show k = 0 ∨ k = 1 by omega) with rfl | rfl
  · simp only [bnd_some, z0, z1, z10, eq_self, if_true, if_false, Bool.false_eq_true]
    exact ⟨_, _, _, _, _, _, rfl, rfl⟩
  · simp only [bnd_some, z0, z1, z10, eq_self, if_true, if_false, Bool.false_eq_true]
    rw [rd1 (f := w) (by omega), bnd_some, hm'.2.1]
    exact ⟨_, _, _, _, _, _, rfl, rfl⟩
