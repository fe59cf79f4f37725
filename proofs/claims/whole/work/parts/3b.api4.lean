/-! the first place of a search; sizes go down with the days; walls -/
def ff (p : Nat → Bool) (i : Nat) : Nat → Nat
  | 0 => i
  | k + 1 => if p i then i else ff p (i + 1) k
theorem lp_find0 {S R : Type} {b : S → Option (S ⊕ R)} (I : Nat → S → Prop) (p : Nat → Bool) (P : Nat → R → Prop) (m : Nat) (hs : ∀ i s, i < m → I i s → p i = true → ∃ r, b s = some (.inr r) ∧ P i r) (hc : ∀ i s, i < m → I i s → p i = false → ∃ s', b s = some (.inl s') ∧ I (i + 1) s') (he : ∀ s, I m s → ∃ r, b s = some (.inr r) ∧ P m r) : ∀ (k i : Nat) (s : S) (n : Nat), i + k = m → I i s → k < n → ∃ r, lp b n s = some r ∧ P (ff p i k) r
  | _, _, _, 0, _, _, h => absurd h (by omega)
  | 0, i, s, n + 1, e, hI, _ => by
    have e : i = m := by omega
    subst e
    obtain ⟨r, h1, h2⟩ := he s hI
    exact ⟨r, by rw [lp, h1], h2⟩
  | k + 1, i, s, n + 1, e, hI, h => by
    cases q : p i with
    | true =>
      obtain ⟨r, h1, h2⟩ := hs i s (by omega) hI q
      exact ⟨r, by rw [lp, h1], by rw [ff, if_pos q]; exact h2⟩
    | false =>
      obtain ⟨s', h1, h2⟩ := hc i s (by omega) hI q
      obtain ⟨r, h3, h4⟩ := lp_find0 I p P m hs hc he k (i + 1) s' n (by omega) h2 (by omega)
      exact ⟨r, by rw [lp, h1]; exact h3, by rw [ff, if_neg (by rw [q]; decide)]; exact h4⟩
theorem lp_find {S R : Type} {b : S → Option (S ⊕ R)} (I : Nat → S → Prop) (p : Nat → Bool) (P : Nat → R → Prop) (m : Nat) (s : S) (hm : m < 1000000) (h0 : I 0 s) (hs : ∀ i s, i < m → I i s → p i = true → ∃ r, b s = some (.inr r) ∧ P i r) (hc : ∀ i s, i < m → I i s → p i = false → ∃ s', b s = some (.inl s') ∧ I (i + 1) s') (he : ∀ s, I m s → ∃ r, b s = some (.inr r) ∧ P m r) : ∃ r, lp b FU s = some r ∧ P (ff p 0 m) r :=
  lp_find0 I p P m hs hc he m 0 s FU (Nat.zero_add m) h0 (by unfold FU; omega)
theorem ff_le (p : Nat → Bool) : ∀ k i, ff p i k ≤ i + k
  | 0, i => Nat.le_refl i
  | k + 1, i => by
    unfold ff
    have := ff_le p k (i + 1)
    split <;> omega
theorem zI1 : ((1 : Int32) = 0) = False := eq_false (by decide)
theorem MN_day {st : Nat → Int32} {n d e : Nat} {v : Nat → Nat → Nat} (h : MN st n d v) : MN (fun j => if j = 0 then nI e else st j) n e v := by
  refine ⟨rfl, h.2.1, fun i hi => ?_⟩
  have z := h.2.2 i hi
  have e0 : ¬ (2 + 5 * i) = 0 := by omega
  have e1 : ¬ (2 + 5 * i + 1) = 0 := by omega
  have e2 : ¬ (2 + 5 * i + 2) = 0 := by omega
  have e3 : ¬ (2 + 5 * i + 3) = 0 := by omega
  have e4 : ¬ (2 + 5 * i + 4) = 0 := by omega
  simp only [e0, e1, e2, e3, e4, if_false]
  exact z
theorem sDry_mono (v : Nat → Nat → Nat) (i : Nat) {a b : Nat} (h : a ≤ b) : sDry v i a ≤ sDry v i b := by
  unfold sDry
  split
  · split <;> split <;> omega
  · exact Nat.le_refl 0
theorem sSize_anti (v : Nat → Nat → Nat) (i : Nat) {a b : Nat} (h : a ≤ b) : sSize v i b ≤ sSize v i a := by
  unfold sSize
  have := Nat.div_le_div_right (c := 360) (Nat.mul_le_mul_left (v i 2) (sDry_mono v i h))
  omega
section Q5
variable {xc st : Nat → Int32} {xn xd : Int32}
theorem api_alikeBy (x1 x2 : Int32) (nw : Nat → Int32) (hS : RS xc xn xd st) : ∃ r nw', f_X9_alikeBy x1 x2 xn xd xc = some r ∧ f_X10_alikeBy x1 x2 st nw = some (r, nw') := by
  obtain ⟨n, d, v, ok, rfl, rfl, hx, hm⟩ := hS
  have hn := ok.1
  have hd := ok.2.1
  obtain ⟨nw', n1, n2⟩ := M_asItIs_s hm ok.1 nw
  unfold f_X9_alikeBy f_X10_alikeBy f_X4_isOfSide f_X10_isClog f_X4_holds
  rw [rd1 (f := st) (by omega)]
  simp only [bnd_some, hm.2.1, M_in_s]
  rcases hold_c x1 hn with h | ⟨i, hi, rfl, h⟩
  · rw [h]
    simp only [bnd_some, z0, z1, z10, eq_self, if_true, if_false, Bool.false_eq_true]
    exact ⟨_, _, rfl, rfl⟩
  · rw [h]
    simp only [bnd_some, z0, z1, z10, eq_self, if_true, if_false, Bool.false_eq_true]
    rw [show f_X4_cell (nI i) 1 (nI n) xc = some (nI (v i 1)) from X4_cell_s (w := 1) hx hn hi (by omega)]
    have o := ok.2.2 i hi
    have o1 := o.2.1
    simp only [bnd_some, z0, z1, z10, eq_self, if_true, if_false, Bool.false_eq_true]
    rcases hold_c x2 hn with g | ⟨j, hj, rfl, g⟩
    · rw [g]
      by_cases q : v i 1 = 0
      · rw [if_pos (show nI (v i 1) = 0 from by rw [q]; rfl)]
        simp only [bnd_some, z0, z1, z10, eq_self, if_true, if_false, Bool.false_eq_true, zI1]
        exact ⟨_, _, rfl, rfl⟩
      · rw [if_neg (show ¬ nI (v i 1) = 0 from fun e => q (nI_inj (b := 0) (by omega) (by omega) e))]
        simp only [bnd_some, z0, z1, z10, eq_self, if_true, if_false, Bool.false_eq_true, zI1]
        exact ⟨_, _, rfl, rfl⟩
    · rw [g]
      have p := ok.2.2 j hj
      have p1 := p.2.1
      simp only [bnd_some, z0, z1, z10, eq_self, if_true, if_false, Bool.false_eq_true]
      rw [n1]
      simp only [bnd_some, z0, z1, z10, eq_self, if_true, if_false, Bool.false_eq_true]
      rw [M_sideOf_s n2 hn hi, M_sideOf_s n2 hn hj]
      by_cases q : v i 1 = 0
      · rw [if_pos (show nI (v i 1) = 0 from by rw [q]; rfl)]
        simp only [bnd_some, z0, z1, z10, eq_self, if_true, if_false, Bool.false_eq_true, zI1]
        rw [if_pos (show nI (v i 1) = 0 from by rw [q]; rfl)]
        rw [show f_X4_cell (nI j) 1 (nI n) xc = some (nI (v j 1)) from X4_cell_s (w := 1) hx hn hj (by omega)]
        simp only [bnd_some, z0, z1, z10, eq_self, if_true, if_false, Bool.false_eq_true]
        by_cases q2 : v j 1 = 1
        · rw [if_pos (show nI (v j 1) = 1 from by rw [q2]; rfl), if_pos (show nI (v j 1) = 1 from by rw [q2]; rfl)]
          simp only [bnd_some, z0, z1, z10, eq_self, if_true, if_false, Bool.false_eq_true, zI1]
          obtain ⟨r1, e1, E1⟩ := lp_find (b := b_X9_alikeBy_1 xc (nI n) (nI d) (nI i) (nI j)) (fun t s => s = nI t) (fun t => sAl v i j (d + t)) (fun t r => r = if t < 61 then .inr (nI t) else .inl (nI t)) 61 (0 : Int32) (by omega) rfl (fun t s ht hs hp => by
            subst hs
            unfold b_X9_alikeBy_1
            rw [if_neg (show ¬ (60 : Int32) < nI t from nI_nlt (b := t) (a := 60) (by omega) (by omega)), nI_add, X4_areAlikeOn_s hx hn hi hj o p (by omega) (by omega), bnd_some]
            have hp : sAl v i j (d + t) = true := hp
            rw [hp, if_pos rfl, if_pos ht]
            simp only [bnd_some, z0, z1, z10, eq_self, if_true, if_false, Bool.false_eq_true]
            exact ⟨_, rfl, rfl⟩) (fun t s ht hs hp => by
            subst hs
            unfold b_X9_alikeBy_1
            rw [if_neg (show ¬ (60 : Int32) < nI t from nI_nlt (b := t) (a := 60) (by omega) (by omega)), nI_add, X4_areAlikeOn_s hx hn hi hj o p (by omega) (by omega), bnd_some]
            have hp : sAl v i j (d + t) = false := hp
            rw [hp, if_pos (show nI (if false = true then 1 else 0) = 0 from rfl), show (1 : Int32) = nI 1 from rfl, nI_add]
            exact ⟨_, rfl, rfl⟩) (fun s hs => by
            subst hs
            unfold b_X9_alikeBy_1
            rw [if_pos (by decide)]
            exact ⟨_, rfl, rfl⟩)
          have hM : ∀ t, sAl v i j (d + t) = (sAl v i j (d + t) || sAl v j i (d + t)) := by
            intro t
            have : sAl v j i (d + t) = false := by
              unfold sAl
              simp only [decide_eq_false_iff_not]
              intro z
              have := z.1
              omega
            rw [this, Bool.or_false]
          obtain ⟨r2, e2, E2⟩ := lp_find (b := u2 (b_X10_alikeBy_1 (nI i) (nI j))) (fun t s => s.1 = nI t ∧ MN s.2 n (d + t) v) (fun t => sAl v i j (d + t)) (fun t r => ∃ w, r = if t < 61 then .inr (nI t, w) else .inl (nI t, w)) 61 ((0 : Int32), nw') (by omega) ⟨rfl, n2⟩ (fun t s ht hs hp => by
            obtain ⟨s1, w⟩ := s
            obtain ⟨hs1, hs2⟩ := hs
            dsimp only at hs1 hs2
            subst hs1
            dsimp only [u2, b_X10_alikeBy_1]
            have hp : sAl v i j (d + t) = true := hp
            rw [if_neg (show ¬ (60 : Int32) < nI t from nI_nlt (b := t) (a := 60) (by omega) (by omega)), M_areAlike_s hs2 hn hi hj (okC_mono o (by omega)) (okC_mono p (by omega)) (by omega), bnd_some, ← hM, hp, if_neg (show ¬ nI (if true = true then 1 else 0) = 0 by decide)]
            exact ⟨_, rfl, w, by rw [if_pos ht]⟩) (fun t s ht hs hp => by
            obtain ⟨s1, w⟩ := s
            obtain ⟨hs1, hs2⟩ := hs
            dsimp only at hs1 hs2
            subst hs1
            dsimp only [u2, b_X10_alikeBy_1]
            have hp : sAl v i j (d + t) = false := hp
            rw [if_neg (show ¬ (60 : Int32) < nI t from nI_nlt (b := t) (a := 60) (by omega) (by omega)), M_areAlike_s hs2 hn hi hj (okC_mono o (by omega)) (okC_mono p (by omega)) (by omega), bnd_some, ← hM, hp, if_pos (show nI (if false = true then 1 else 0) = 0 from rfl), rd0 (f := w) (by omega)]
            simp only [bnd_some, z0, z1, z10, eq_self, if_true, if_false, Bool.false_eq_true]
            rw [show wr 52 w 0 (w 0 + 1) = _ from wr_s (k := 0) (by omega) (by omega), hs2.1]
            simp only [bnd_some, z0, z1, z10, eq_self, if_true, if_false, Bool.false_eq_true]
            rw [show (1 : Int32) = nI 1 from rfl, nI_add, nI_add]
            exact ⟨_, rfl, rfl, MN_day hs2⟩) (fun s hs => by
            obtain ⟨s1, w⟩ := s
            obtain ⟨hs1, hs2⟩ := hs
            dsimp only at hs1 hs2
            subst hs1
            dsimp only [u2, b_X10_alikeBy_1]
            rw [if_pos (by decide)]
            exact ⟨_, rfl, _, rfl⟩)
          obtain ⟨w, E2⟩ := E2
          rw [e1, e2, E1, E2]
          by_cases z : ff (fun t => sAl v i j (d + t)) 0 61 < 61
          · rw [if_pos z, if_pos z]
            exact ⟨_, _, rfl, rfl⟩
          · rw [if_neg z, if_neg z]
            exact ⟨_, _, rfl, rfl⟩
        · rw [if_neg (show ¬ nI (v j 1) = 1 from fun e => q2 (nI_inj (b := 1) (by omega) (by omega) e)), if_neg (show ¬ nI (v j 1) = 1 from fun e => q2 (nI_inj (b := 1) (by omega) (by omega) e))]
          simp only [bnd_some, z0, z1, z10, eq_self, if_true, if_false, Bool.false_eq_true, zI1]
          exact ⟨_, _, rfl, rfl⟩
      · rw [if_neg (show ¬ nI (v i 1) = 0 from fun e => q (nI_inj (b := 0) (by omega) (by omega) e))]
        simp only [bnd_some, z0, z1, z10, eq_self, if_true, if_false, Bool.false_eq_true, zI1]
        rw [if_neg (show ¬ nI (v i 1) = 0 from fun e => q (nI_inj (b := 0) (by omega) (by omega) e))]
        exact ⟨_, _, rfl, rfl⟩
theorem api_dry (x1 x2 : Int32) (nw : Nat → Int32) (hS : RS xc xn xd st) : ∃ r nw', f_X9_dry x1 x2 xn xd xc = some r ∧ f_X10_dry x1 x2 st nw = some (r, nw') := by
  obtain ⟨n, d, v, ok, rfl, rfl, hx, hm⟩ := hS
  have hn := ok.1
  have hd := ok.2.1
  obtain ⟨nw', n1, n2⟩ := M_asItIs_s hm ok.1 nw
  unfold f_X9_dry f_X10_dry f_X10_isClog f_X4_holds
  rw [rd1 (f := st) (by omega)]
  simp only [bnd_some, hm.2.1, M_in_s]
  rw [show f_X9_within x2 0 1 = f_X9_within x2 (nI 0) (nI 1) from rfl]
  rcases hold_c x1 hn with h | ⟨i, hi, rfl, h⟩
  · rw [h]
    simp only [bnd_some, z0, z1, z10, eq_self, if_true, if_false, Bool.false_eq_true]
    exact ⟨_, _, rfl, rfl⟩
  · rw [h]
    simp only [bnd_some, z0, z1, z10, eq_self, if_true, if_false, Bool.false_eq_true]
    rcases win_c x2 (a := 0) (b := 1) (by omega) (by omega) with w | ⟨k, k1, k2, rfl, w⟩
    · rw [w]
      simp only [bnd_some, z0, z1, z10, eq_self, if_true, if_false, Bool.false_eq_true]
      exact ⟨_, _, rfl, rfl⟩
    · rw [w]
      simp only [bnd_some, z0, z1, z10, eq_self, if_true, if_false, Bool.false_eq_true]
      have o := ok.2.2 i hi
      have o30 := okC_mono o (show d ≤ d + 30 by omega)
      rw [n1]
      simp only [bnd_some, z0, z1, z10, eq_self, if_true, if_false, Bool.false_eq_true]
      rw [rd0 (f := nw') (by omega), bnd_some, n2.1, show nI d + 30 = nI (d + 30) from nI_add d 30, X4_sizeOn_s hx hn hi o (by omega) (by omega), bnd_some, show wr 52 nw' 0 (nI (d + 30)) = _ from wr_s (k := 0) (by omega) (by omega), bnd_some, M_sizeOf_s (MN_day n2) hn hi o30 (by omega), bnd_some, rd0 (f := st) (by omega), bnd_some, hm.1, show ∀ f, wr 52 f 0 (nI d) = _ from fun f => wr_s (k := 0) (by omega) (by omega), bnd_some]
      have hM : ∀ t, t ≤ 30 → (sSize v i (d + t) = sSize v i (d + 30) ↔ sSize v i (d + t) ≤ sSize v i (d + 30)) := by
        intro t ht
        have := sSize_anti v i (show d + t ≤ d + 30 by omega)
        omega
      have hz := fun t => sSize_le v i t
      have hz2 := o.2.2.2.1
      obtain ⟨r1, e1, E1⟩ := lp_find (b := b_X9_dry_1 (nI (sSize v i (d + 30))) xc (nI n) (nI d) (nI i)) (fun t s => s = nI t) (fun t => decide (sSize v i (d + t) ≤ sSize v i (d + 30))) (fun t r => r = nI t) 30 (0 : Int32) (by omega) rfl (fun t s ht hs hp => by
        subst hs
        unfold b_X9_dry_1
        have hp := (hM t (by omega)).mpr (of_decide_eq_true hp)
        rw [if_neg (show ¬ (30 : Int32) ≤ nI t from nI_ge (b := 30) ht (by omega)), nI_add, X4_sizeOn_s hx hn hi o (by omega) (by omega), bnd_some, hp, if_pos rfl]
        exact ⟨_, rfl, rfl⟩) (fun t s ht hs hp => by
        subst hs
        unfold b_X9_dry_1
        have hp : ¬ sSize v i (d + t) = sSize v i (d + 30) := fun e => of_decide_eq_false hp ((hM t (by omega)).mp e)
        have hz3 := hz (d + t)
        have hz4 := hz (d + 30)
        rw [if_neg (show ¬ (30 : Int32) ≤ nI t from nI_ge (b := 30) ht (by omega)), nI_add, X4_sizeOn_s hx hn hi o (by omega) (by omega), bnd_some, if_neg (fun e => hp (nI_inj (by omega) (by omega) e))]
        exact ⟨_, rfl, nI_add t 1⟩) (fun s hs => by
        subst hs
        unfold b_X9_dry_1
        rw [if_pos (by decide)]
        exact ⟨_, rfl, rfl⟩)
      obtain ⟨r2, e2, E2⟩ := lp_find (b := u2 (b_X10_dry_1 (nI (sSize v i (d + 30))) (nI i))) (fun t s => s.1 = nI t ∧ MN s.2 n (d + t) v) (fun t => decide (sSize v i (d + t) ≤ sSize v i (d + 30))) (fun t r => ∃ w, r = (nI t, w)) 30 ((0 : Int32), (fun j => if j = 0 then nI d else (fun j => if j = 0 then nI (d + 30) else nw' j) j)) (by omega) ⟨rfl, MN_day (MN_day n2)⟩ (fun t s ht hs hp => by
        obtain ⟨s1, w⟩ := s
        obtain ⟨hs1, hs2⟩ := hs
        dsimp only at hs1 hs2
        subst hs1
        dsimp only [u2, b_X10_dry_1]
        have hp := of_decide_eq_true hp
        have hz3 := hz (d + t)
        have hz4 := hz (d + 30)
        rw [M_sizeOf_s hs2 hn hi (okC_mono o (by omega)) (by omega), bnd_some, if_pos (nI_le hp (by omega))]
        exact ⟨_, rfl, _, rfl⟩) (fun t s ht hs hp => by
        obtain ⟨s1, w⟩ := s
        obtain ⟨hs1, hs2⟩ := hs
        dsimp only at hs1 hs2
        subst hs1
        dsimp only [u2, b_X10_dry_1]
        have hp := of_decide_eq_false hp
        have hz3 := hz (d + t)
        have hz4 := hz (d + 30)
        rw [M_sizeOf_s hs2 hn hi (okC_mono o (by omega)) (by omega), bnd_some, if_neg (nI_ge (by omega) (by omega)), rd0 (f := w) (by omega)]
        simp only [bnd_some, z0, z1, z10, eq_self, if_true, if_false, Bool.false_eq_true]
        rw [show wr 52 w 0 (w 0 + 1) = _ from wr_s (k := 0) (by omega) (by omega), hs2.1]
        simp only [bnd_some, z0, z1, z10, eq_self, if_true, if_false, Bool.false_eq_true]
        rw [show (1 : Int32) = nI 1 from rfl, nI_add, nI_add]
        exact ⟨_, rfl, rfl, MN_day hs2⟩) (fun s hs => by
        obtain ⟨s1, w⟩ := s
        obtain ⟨hs1, hs2⟩ := hs
        dsimp only at hs1 hs2
        subst hs1
        dsimp only [u2, b_X10_dry_1]
        have hz4 := hz (d + 30)
        rw [M_sizeOf_s hs2 hn hi (okC_mono o (by omega)) (by omega), bnd_some, if_pos (nI_le (Nat.le_refl _) (by omega))]
        exact ⟨_, rfl, _, rfl⟩)
      obtain ⟨w, E2⟩ := E2
      subst E1
      subst E2
      rw [e1, e2]
      simp only [bnd_some, u2]
      rcases (show k = 0 ∨ k = 1 by omega) with rfl | rfl
      · rw [if_neg (by decide), if_pos (show nI 0 = (0 : Int32) from rfl)]
        exact ⟨_, _, rfl, rfl⟩
      · rw [if_pos (show nI 1 = (1 : Int32) from rfl), if_neg (by decide)]
        exact ⟨_, _, rfl, rfl⟩
end Q5
def agOne (wi wt wk : Nat → Nat) (x j t : Nat) : Bool := decide (wi t = x → wk t = if wt t < j then 0 else 1)
def agB (wi wt wk : Nat → Nat) (x j : Nat) : Nat → Bool
  | 0 => true
  | t + 1 => agB wi wt wk x j t && agOne wi wt wk x j t
theorem agB_no {wi wt wk : Nat → Nat} {x j t : Nat} (h : agB wi wt wk x j t = false) : ∀ k, agB wi wt wk x j (t + k) = false
  | 0 => h
  | k + 1 => by
    rw [show t + (k + 1) = (t + k) + 1 from rfl, agB, agB_no h k, Bool.false_and]
def thB (p : Nat → Bool) : Nat → Nat
  | 0 => 0
  | t + 1 => if p (t + 1) then thB p t ||| 2 ^ (t + 1) else thB p t
section Q6
variable {xc xl xk : Nat → Int32} {mr : Nat → Int32} {h : Nat} {wi wt wk : Nat → Nat}
theorem X7_agrees_s (hh : h ≤ 8) (hj : ∀ j, j < h → wi j ≤ 9 ∧ wt j ≤ 9 ∧ wk j ≤ 1 ∧ xc j = nI (wi j) ∧ xl j = nI (wt j) ∧ xk j = nI (wk j) ∧ mr (3 * j) = nI (wi j) ∧ mr (3 * j + 1) = nI (wt j) ∧ mr (3 * j + 2) = nI (wk j)) {x j : Nat} (hx : x ≤ 9) (hj9 : j ≤ 9) : f_X7_agrees (nI x) (nI j) (nI h) xc xl xk = some (nI (if agB wi wt wk x j h then 1 else 0)) := by
  unfold f_X7_agrees
  obtain ⟨r, e, E⟩ := lp_FU (b := b_X7_agrees_1 xk xc xl (nI h) (nI x) (nI j)) (fun t s => s = nI t ∧ agB wi wt wk x j t = true) (fun r => (agB wi wt wk x j h = false ∧ r = .inr 0) ∨ (agB wi wt wk x j h = true ∧ r = .inl (nI h))) h (0 : Int32) (by omega) ⟨rfl, rfl⟩ (fun t s ht hI => by
    obtain ⟨rfl, hI⟩ := hI
    unfold b_X7_agrees_1
    by_cases q : t < h
    · obtain ⟨a0, a1, a2, a3, a4, a5, a6, a7, a8⟩ := hj t q
      have hn : agB wi wt wk x j (t + 1) = agOne wi wt wk x j t := by rw [agB, hI, Bool.true_and]
      rw [if_neg (nI_ge q (by omega)), X9_at_s (by omega) (by omega), X9_at_s (by omega) (by omega), X9_at_s (by omega) (by omega), a3, a4, a5]
      simp only [bnd_some]
      have hno : agOne wi wt wk x j t = false → agB wi wt wk x j h = false := by
        intro z
        have := agB_no (hn.trans z) (h - (t + 1))
        rw [show t + 1 + (h - (t + 1)) = h by omega] at this
        exact this
      by_cases c1 : wt t < j
      · rw [if_pos (nI_lt c1 (by omega))]
        by_cases c2 : wi t = x
        · rw [if_pos (by rw [c2])]
          by_cases c3 : wk t = 0
          · rw [if_pos (by rw [c3]; rfl)]
            refine Or.inr ⟨q, _, rfl, nI_add t 1, ?_⟩
            rw [hn]
            unfold agOne
            simp [c1, c2, c3]
          · rw [if_neg (show ¬ nI (wk t) = 0 from fun e => c3 (nI_inj (b := 0) (by omega) (by omega) e))]
            refine Or.inl ⟨_, rfl, Or.inl ⟨hno ?_, rfl⟩⟩
            unfold agOne
            simp [c1, c2, c3]
        · rw [if_neg (fun e => c2 (nI_inj (by omega) (by omega) e))]
          refine Or.inr ⟨q, _, rfl, nI_add t 1, ?_⟩
          rw [hn]
          unfold agOne
          simp [c2]
      · rw [if_neg (nI_nlt (by omega) (by omega))]
        by_cases c2 : wi t = x
        · rw [if_pos (by rw [c2])]
          by_cases c3 : wk t = 1
          · rw [if_pos (by rw [c3]; rfl)]
            refine Or.inr ⟨q, _, rfl, nI_add t 1, ?_⟩
            rw [hn]
            unfold agOne
            simp [c1, c2, c3]
          · rw [if_neg (show ¬ nI (wk t) = 1 from fun e => c3 (nI_inj (b := 1) (by omega) (by omega) e))]
            refine Or.inl ⟨_, rfl, Or.inl ⟨hno ?_, rfl⟩⟩
            unfold agOne
            simp [c1, c2, c3]
        · rw [if_neg (fun e => c2 (nI_inj (by omega) (by omega) e))]
          refine Or.inr ⟨q, _, rfl, nI_add t 1, ?_⟩
          rw [hn]
          unfold agOne
          simp [c2]
    · have e : t = h := by omega
      subst e
      rw [if_pos (nI_le (Nat.le_refl _) (by omega))]
      exact Or.inl ⟨_, rfl, Or.inr ⟨hI, rfl⟩⟩)
  rw [e]
  rcases E with ⟨E1, rfl⟩ | ⟨E1, rfl⟩
  · rw [E1]; rfl
  · rw [E1]; rfl
theorem M_thick2_s (hh : h ≤ 8) (hj : ∀ j, j < h → wi j ≤ 9 ∧ wt j ≤ 9 ∧ wk j ≤ 1 ∧ xc j = nI (wi j) ∧ xl j = nI (wt j) ∧ xk j = nI (wk j) ∧ mr (3 * j) = nI (wi j) ∧ mr (3 * j + 1) = nI (wt j) ∧ mr (3 * j + 2) = nI (wk j)) {x j : Nat} (hx : x ≤ 9) (hj9 : j ≤ 9) : lp (u2 (b_X10_thick_2 mr (nI h) (nI j) (nI x))) FU (1, 0) = some (nI (if agB wi wt wk x j h then 1 else 0), nI h) := by
  rw [show ((1 : Int32), (0 : Int32)) = (fun t => (nI (if agB wi wt wk x j t then 1 else 0), nI t)) 0 from rfl]
  rw [lp_seq (b := u2 (b_X10_thick_2 mr (nI h) (nI j) (nI x))) (fun t => (nI (if agB wi wt wk x j t then 1 else 0), nI t)) h (nI (if agB wi wt wk x j h then 1 else 0), nI h) (by omega) ?_ ?_]
  · intro t ht
    obtain ⟨a0, a1, a2, a3, a4, a5, a6, a7, a8⟩ := hj t ht
    dsimp only [u2, b_X10_thick_2]
    rw [if_neg (nI_ge ht (by omega)), show (3 : Int32) * nI t = nI (3 * t) from pk_mul 3 t, show nI (3 * t) + 1 = nI (3 * t + 1) from nI_add _ 1, show nI (3 * t) + 2 = nI (3 * t + 2) from nI_add _ 2, rd_s (by omega) (by omega), rd_s (by omega) (by omega), rd_s (by omega) (by omega), a6, a7, a8, show nI t + 1 = nI (t + 1) from nI_add t 1]
    simp only [bnd_some, agB]
    rcases (Bool.eq_false_or_eq_true (agB wi wt wk x j t)).symm with q | q
    · simp only [q, Bool.false_and, Bool.false_eq_true, if_false]
      simp only [bnd_some, z0, z1, z10, eq_self, if_true, if_false, Bool.false_eq_true]
      split <;> rfl
    · simp only [q, Bool.true_and, if_true]
      simp only [bnd_some, z0, z1, z10, eq_self, if_true, if_false, Bool.false_eq_true]
      by_cases c1 : wt t < j
      · rw [if_pos (nI_lt c1 (by omega))]
        by_cases c2 : wi t = x
        · rw [if_pos (by rw [c2])]
          by_cases c3 : wk t = 1
          · rw [if_pos (by rw [c3]; rfl)]
            have : agOne wi wt wk x j t = false := by
              unfold agOne
              simp [c1, c2, c3]
            rw [this]; rfl
          · rw [if_neg (show ¬ nI (wk t) = 1 from fun e => c3 (nI_inj (b := 1) (by omega) (by omega) e))]
            have c4 : wk t = 0 := by omega
            have : agOne wi wt wk x j t = true := by
              unfold agOne
              simp [c1, c2, c4]
            rw [this]; rfl
        · rw [if_neg (fun e => c2 (nI_inj (by omega) (by omega) e))]
          have : agOne wi wt wk x j t = true := by
            unfold agOne
            simp [c2]
          rw [this]; rfl
      · rw [if_neg (nI_nlt (by omega) (by omega))]
        by_cases c2 : wi t = x
        · rw [if_pos (by rw [c2])]
          by_cases c3 : wk t = 1
          · rw [if_pos (by rw [c3]; rfl)]
            have : agOne wi wt wk x j t = true := by
              unfold agOne
              simp [c1, c2, c3]
            rw [this]; rfl
          · rw [if_neg (show ¬ nI (wk t) = 1 from fun e => c3 (nI_inj (b := 1) (by omega) (by omega) e))]
            have : agOne wi wt wk x j t = false := by
              unfold agOne
              simp [c1, c2, c3]
            rw [this]; rfl
        · rw [if_neg (fun e => c2 (nI_inj (by omega) (by omega) e))]
          have : agOne wi wt wk x j t = true := by
            unfold agOne
            simp [c2]
          rw [this]; rfl
  · dsimp only [u2, b_X10_thick_2]
    rw [if_pos (nI_le (Nat.le_refl _) (by omega))]
end Q6
theorem api_thick (x1 : Int32) {xc xl xk : Nat → Int32} {xs mh : Int32} {mr : Nat → Int32} (hH : RH xc xl xk xs mh mr) : ∃ r, f_X9_thick x1 xs xc xl xk = some r ∧ f_X10_thick x1 mh mr = some r := by
  obtain ⟨h, wi, wt, wk, hh, rfl, rfl, hj⟩ := hH
  unfold f_X9_thick f_X10_thick f_X7_thicknesses
  rw [M_in_s, show f_X9_within x1 0 9 = f_X9_within x1 (nI 0) (nI 9) from rfl]
  rcases win_c x1 (a := 0) (b := 9) (by omega) (by omega) with w | ⟨x, x1, x2, rfl, w⟩
  · rw [w]
    simp only [bnd_some, z0, z1, z10, eq_self, if_true, if_false, Bool.false_eq_true]
    exact ⟨_, rfl, rfl⟩
  · rw [w]
    simp only [bnd_some, z0, z1, z10, eq_self, if_true, if_false, Bool.false_eq_true]
    rw [show ((0 : Int32), (1 : Int32)) = (fun t => (nI (thB (fun j => agB wi wt wk x j h) t), nI (t + 1))) 0 from rfl]
    rw [lp_seq (b := u2 (b_X7_thicknesses_1 xk xc xl (nI h) (nI x))) (fun t => (nI (thB (fun j => agB wi wt wk x j h) t), nI (t + 1))) 9 (nI (thB (fun j => agB wi wt wk x j h) 9), nI 10) (by omega) ?_ ?_, lp_seq (b := u2 (b_X10_thick_1 mr (nI h) (nI x))) (fun t => (nI (thB (fun j => agB wi wt wk x j h) t), nI (t + 1))) 9 (nI (thB (fun j => agB wi wt wk x j h) 9), nI 10) (by omega) ?_ ?_]
    · simp only [bnd_some, u2]
      exact ⟨_, rfl, rfl⟩
    · intro t ht
      dsimp only [u2, b_X10_thick_1]
      rw [if_neg (show ¬ (10 : Int32) ≤ nI (t + 1) from nI_ge (b := 10) (show t + 1 < 10 by omega) (by omega)), M_thick2_s hh hj x2 (by omega), bnd_some]
      dsimp only [u2]
      rw [show (1 : Int32) = nI 1 from rfl, i_bit (by omega), fa_or, show (0 : Int32) = nI 0 from rfl, fa_or, Nat.or_zero, nI_add]
      simp only [thB]
      rcases Bool.eq_false_or_eq_true (agB wi wt wk x (t + 1) h) with q | q
      · simp only [q]
        simp only [bnd_some, z0, z1, z10, eq_self, if_true, if_false, Bool.false_eq_true]
      · simp only [q]
        simp only [bnd_some, z0, z1, z10, eq_self, if_true, if_false, Bool.false_eq_true]
    · dsimp only [u2, b_X10_thick_1]
      rw [if_pos (by decide)]
    · intro t ht
      dsimp only [u2, b_X7_thicknesses_1]
      rw [if_neg (show ¬ (9 : Int32) < nI (t + 1) from nI_nlt (b := t + 1) (a := 9) (by omega) (by omega)), X7_agrees_s hh hj x2 (by omega), bnd_some]
      rw [show (1 : Int32) = nI 1 from rfl, i_bit (by omega), fa_or, nI_add]
      simp only [thB]
      rcases Bool.eq_false_or_eq_true (agB wi wt wk x (t + 1) h) with q | q
      · simp only [q]
        simp only [bnd_some, z0, z1, z10, eq_self, if_true, if_false, Bool.false_eq_true]
      · simp only [q]
        simp only [bnd_some, z0, z1, z10, eq_self, if_true, if_false, Bool.false_eq_true]
    · dsimp only [u2, b_X7_thicknesses_1]
      rw [if_pos (by decide)]
