/-! one call on both sides: feet, whose, sizes, days, walls -/
theorem isSide_c (x : Int32) : f_X9_isSide x = f_X9_within x (nI 0) (nI 1) := by
  unfold f_X9_isSide
  rcases win_c x (a := 0) (b := 1) (by omega) (by omega) with h | ⟨k, h1, h2, rfl, h4⟩
  · rw [h]
    have z0 : ¬ x = 0 := by
      intro e; subst e
      revert h; decide
    have z1 : ¬ x = 1 := by
      intro e; subst e
      revert h; decide
    rw [if_neg z0, if_neg z1]; rfl
  · rw [h4]
    rcases (show k = 0 ∨ k = 1 by omega) with rfl | rfl
    · rfl
    · rfl
theorem api_feet (x1 x2 : Int32) {xl xr mf : Nat → Int32} {xn xs mn ms : Int32} (hW : RW xl xr xn xs mn mf ms) : ∃ r, f_X9_feet x1 x2 xn xl xr = some r ∧ f_X10_feet x1 x2 mn mf = some r := by
  obtain ⟨F, s, fl, fr, hF, hs, rfl, rfl, rfl, rfl, hf⟩ := hW
  unfold f_X9_feet f_X10_feet
  rw [isSide_c, M_in_s, M_in_s, show (0 : Int32) = nI 0 from rfl]
  have hh := hold_c x1 (n := F) (by omega)
  rw [show (0 : Int32) = nI 0 from rfl] at hh
  rcases hh with h | ⟨f, hf1, rfl, h⟩
  · rw [h]
    simp only [bnd_some, z0, z1, z10, eq_self, if_true, if_false, Bool.false_eq_true]
    exact ⟨_, rfl, rfl⟩
  · rw [h]
    simp only [bnd_some, z0, z1, z10, eq_self, if_true, if_false, Bool.false_eq_true]
    rw [show nI 1 = (1 : Int32) from rfl, show nI 0 = (0 : Int32) from rfl, show (0 : Int32) = nI 0 from rfl, show (1 : Int32) = nI 1 from rfl]
    obtain ⟨a0, a1, a2, a3, a4, a5⟩ := hf f hf1
    rcases win_c x2 (a := 0) (b := 1) (by omega) (by omega) with w | ⟨k, k1, k2, rfl, w⟩
    · rw [w]
      simp only [bnd_some, z0, z1, z10, eq_self, if_true, if_false, Bool.false_eq_true]
      exact ⟨_, rfl, rfl⟩
    · rw [w]
      unfold f_X6_foot
      simp only [bnd_some, z0, z1, z10, eq_self, if_true, if_false, Bool.false_eq_true]
      rcases (show k = 0 ∨ k = 1 by omega) with rfl | rfl
      · simp (disch := omega) only [l0, l1, l2, l3, l4, l5, l6, l7, l8, l9, l10, l12, l20, l24, l30, l31, l32, l40, l47, l48, l50, l52, l57, l60, l72, l79, l90, l98, l99, l100, l103, l104, l126, l200, l360, l364, l416, l999, l1000, l1024, nI_add, pk_mul, nIsub, nIdiv, nIrem, nIle, nIlt, nIeq, rd_s, wr_s, bnd_some, u2, u3, u4, u5, u6, u7, if_pos, if_neg, ne_eq, not_false_eq_true, Nat.add_sub_cancel, if_true, if_false, X9_at_s, a2, a4, Nat.add_zero]
        exact ⟨_, rfl, rfl⟩
      · simp (disch := omega) only [l0, l1, l2, l3, l4, l5, l6, l7, l8, l9, l10, l12, l20, l24, l30, l31, l32, l40, l47, l48, l50, l52, l57, l60, l72, l79, l90, l98, l99, l100, l103, l104, l126, l200, l360, l364, l416, l999, l1000, l1024, nI_add, pk_mul, nIsub, nIdiv, nIrem, nIle, nIlt, nIeq, rd_s, wr_s, bnd_some, u2, u3, u4, u5, u6, u7, if_pos, if_neg, ne_eq, not_false_eq_true, Nat.add_sub_cancel, if_true, if_false, X9_at_s, a3, a5]
        exact ⟨_, rfl, rfl⟩
def fitB (fl fr : Nat → Nat) (s f side z : Nat) : Bool := decide ((if side = 0 then fl f else fr f) + s ≤ z ∧ z ≤ (if side = 0 then fl f else fr f) + s + 4)
theorem within_s {a b z : Nat} (ha : a < 2147483648) (hb : b < 2147483648) (hz : z < 2147483648) : f_X9_within (nI z) (nI a) (nI b) = some (nI (if a ≤ z ∧ z ≤ b then 1 else 0)) := by
  unfold f_X9_within
  by_cases q1 : z < a
  · rw [if_pos (nI_lt q1 ha), if_neg (by omega)]; rfl
  · by_cases q2 : b < z
    · rw [if_neg (nI_nlt (by omega) (by omega)), if_pos (nI_lt q2 (by omega)), if_neg (by omega)]; rfl
    · rw [if_neg (nI_nlt (by omega) (by omega)), if_neg (nI_nlt (by omega) (by omega)), if_pos (by omega)]; rfl
section Q3
variable {xl xr mf : Nat → Int32} {F s : Nat} {fl fr : Nat → Nat}
theorem X6_suits_s (hF : F ≤ 5) (hs : s ≤ 6) (hf : ∀ f, f < F → fl f ≤ 72 ∧ fr f ≤ 72 ∧ xl f = nI (fl f) ∧ xr f = nI (fr f) ∧ mf (2 * f) = nI (fl f) ∧ mf (2 * f + 1) = nI (fr f)) {f side z : Nat} (h : f < F) (hside : side ≤ 1) (hz : z < 1000) : f_X6_suits (nI f) (nI side) (nI z) (nI s) xl xr = some (nI (if fitB fl fr s f side z then 1 else 0)) := by
  obtain ⟨a0, a1, a2, a3, a4, a5⟩ := hf f h
  unfold f_X6_suits f_X6_foot fitB
  rcases (show side = 0 ∨ side = 1 by omega) with rfl | rfl
  · simp (disch := omega) only [l0, l1, l2, l3, l4, l5, l6, l7, l8, l9, l10, l12, l20, l24, l30, l31, l32, l40, l47, l48, l50, l52, l57, l60, l72, l79, l90, l98, l99, l100, l103, l104, l126, l200, l360, l364, l416, l999, l1000, l1024, nI_add, pk_mul, nIsub, nIdiv, nIrem, nIle, nIlt, nIeq, rd_s, wr_s, bnd_some, u2, u3, u4, u5, u6, u7, if_pos, if_neg, ne_eq, not_false_eq_true, Nat.add_sub_cancel, if_true, if_false, X9_at_s, a2, within_s]
    simp
  · simp (disch := omega) only [l0, l1, l2, l3, l4, l5, l6, l7, l8, l9, l10, l12, l20, l24, l30, l31, l32, l40, l47, l48, l50, l52, l57, l60, l72, l79, l90, l98, l99, l100, l103, l104, l126, l200, l360, l364, l416, l999, l1000, l1024, nI_add, pk_mul, nIsub, nIdiv, nIrem, nIle, nIlt, nIeq, rd_s, wr_s, bnd_some, u2, u3, u4, u5, u6, u7, if_pos, if_neg, ne_eq, not_false_eq_true, Nat.add_sub_cancel, if_true, if_false, X9_at_s, a3, within_s]
    simp
theorem M_fits_s {st : Nat → Int32} {n d : Nat} {v : Nat → Nat → Nat} (hm : MN st n d v) (ok : okS n d v) (hF : F ≤ 5) (hs : s ≤ 6) (hf : ∀ f, f < F → fl f ≤ 72 ∧ fr f ≤ 72 ∧ xl f = nI (fl f) ∧ xr f = nI (fr f) ∧ mf (2 * f) = nI (fl f) ∧ mf (2 * f + 1) = nI (fr f)) {f side i : Nat} (h : f < F) (hside : side ≤ 1) (hi : i < n) : f_X10_fits (nI i) (nI f) (nI side) (nI s) mf st = some (nI (if v i 1 = side ∧ fitB fl fr s f side (sSize v i d) = true then 1 else 0)) := by
  obtain ⟨a0, a1, a2, a3, a4, a5⟩ := hf f h
  have hn := ok.1
  have hd := ok.2.1
  have o := ok.2.2 i hi
  have o1 := o.2.1
  have o3 := o.2.2.2.1
  have e1 := sSize_le v i d
  unfold f_X10_fits fitB
  rw [M_sideOf_s hm hn hi, M_sizeOf_s hm hn hi o (by omega)]
  simp only [M_in_s]
  rcases (show side = 0 ∨ side = 1 by omega) with rfl | rfl
  · by_cases q : v i 1 = 0
    · simp (disch := omega) only [l0, l1, l2, l3, l4, l5, l6, l7, l8, l9, l10, l12, l20, l24, l30, l31, l32, l40, l47, l48, l50, l52, l57, l60, l72, l79, l90, l98, l99, l100, l103, l104, l126, l200, l360, l364, l416, l999, l1000, l1024, nI_add, pk_mul, nIsub, nIdiv, nIrem, nIle, nIlt, nIeq, rd_s, wr_s, bnd_some, u2, u3, u4, u5, u6, u7, if_pos, if_neg, ne_eq, not_false_eq_true, Nat.add_sub_cancel, if_true, if_false, a4, within_s, Nat.add_zero, q]
      by_cases z : fl f + s ≤ sSize v i d ∧ sSize v i d ≤ fl f + s + 4
      · simp [z, z10]
      · simp [z, z0]
    · simp (disch := omega) only [l0, l1, l2, l3, l4, l5, l6, l7, l8, l9, l10, l12, l20, l24, l30, l31, l32, l40, l47, l48, l50, l52, l57, l60, l72, l79, l90, l98, l99, l100, l103, l104, l126, l200, l360, l364, l416, l999, l1000, l1024, nI_add, pk_mul, nIsub, nIdiv, nIrem, nIle, nIlt, nIeq, rd_s, wr_s, bnd_some, u2, u3, u4, u5, u6, u7, if_pos, if_neg, ne_eq, not_false_eq_true, Nat.add_sub_cancel, if_true, if_false, a4, within_s, Nat.add_zero, q]
      simp
  · by_cases q : v i 1 = 1
    · simp (disch := omega) only [l0, l1, l2, l3, l4, l5, l6, l7, l8, l9, l10, l12, l20, l24, l30, l31, l32, l40, l47, l48, l50, l52, l57, l60, l72, l79, l90, l98, l99, l100, l103, l104, l126, l200, l360, l364, l416, l999, l1000, l1024, nI_add, pk_mul, nIsub, nIdiv, nIrem, nIle, nIlt, nIeq, rd_s, wr_s, bnd_some, u2, u3, u4, u5, u6, u7, if_pos, if_neg, ne_eq, not_false_eq_true, Nat.add_sub_cancel, if_true, if_false, a5, within_s, q]
      by_cases z : fr f + s ≤ sSize v i d ∧ sSize v i d ≤ fr f + s + 4
      · simp [z, z10]
      · simp [z, z0]
    · simp (disch := omega) only [l0, l1, l2, l3, l4, l5, l6, l7, l8, l9, l10, l12, l20, l24, l30, l31, l32, l40, l47, l48, l50, l52, l57, l60, l72, l79, l90, l98, l99, l100, l103, l104, l126, l200, l360, l364, l416, l999, l1000, l1024, nI_add, pk_mul, nIsub, nIdiv, nIrem, nIle, nIlt, nIeq, rd_s, wr_s, bnd_some, u2, u3, u4, u5, u6, u7, if_pos, if_neg, ne_eq, not_false_eq_true, Nat.add_sub_cancel, if_true, if_false, a5, within_s, q]
      simp
end Q3
section Q4
variable {xc st : Nat → Int32} {xn xd : Int32} {xl xr mf : Nat → Int32} {wn ws mn ms : Int32}
theorem api_whose (x1 : Int32) (nw : Nat → Int32) (hS : RS xc xn xd st) (hW : RW xl xr wn ws mn mf ms) : ∃ r nw', f_X9_whose x1 xn xd xc wn ws xl xr = some r ∧ f_X10_whose x1 mn ms mf st nw = some (r, nw') := by
  obtain ⟨n, d, v, ok, rfl, rfl, hx, hm⟩ := hS
  obtain ⟨F, s, fl, fr, hF, hs, rfl, rfl, rfl, rfl, hf⟩ := hW
  have hn := ok.1
  have hd := ok.2.1
  obtain ⟨nw', n1, n2⟩ := M_asItIs_s hm ok.1 nw
  unfold f_X9_whose f_X10_whose f_X10_isClog f_X4_holds
  rw [rd1 (f := st) (by omega)]
  simp only [bnd_some, hm.2.1, M_in_s]
  rcases hold_c x1 hn with h | ⟨i, hi, rfl, h⟩
  · rw [h]
    simp only [bnd_some, z0, z1, z10, eq_self, if_true, if_false, Bool.false_eq_true]
    exact ⟨_, _, rfl, rfl⟩
  · rw [h]
    simp only [bnd_some, z0, z1, z10, eq_self, if_true, if_false, Bool.false_eq_true]
    rw [n1]
    simp only [bnd_some, z0, z1, z10, eq_self, if_true, if_false, Bool.false_eq_true]
    have o := ok.2.2 i hi
    have o1 := o.2.1
    have o3 := o.2.2.2.1
    have e1 := sSize_le v i d
    generalize hp : (fun f => fitB fl fr s f (v i 1) (sSize v i d)) = p
    rw [show ((0 : Int32), (0 : Int32)) = (fun t => (nI (bits p t), nI t)) 0 from rfl]
    rw [lp_seq (b := u2 (b_X9_whose_1 xc (nI n) (nI d) xl (nI F) xr (nI s) (nI i))) (fun t => (nI (bits p t), nI t)) F (nI (bits p F), nI F) (by omega) ?_ ?_, lp_seq (b := u2 (b_X10_whose_1 mf (nI F) (nI s) nw' (nI i))) (fun t => (nI (bits p t), nI t)) F (nI (bits p F), nI F) (by omega) ?_ ?_]
    · exact ⟨_, _, rfl, rfl⟩
    · intro t ht
      dsimp only [u2, b_X10_whose_1]
      rw [if_neg (nI_ge ht (by omega)), M_sideOf_s n2 hn hi, bnd_some, M_fits_s n2 ok hF hs hf ht o1 hi, bnd_some, show (1 : Int32) = nI 1 from rfl, i_bit (by omega), fa_or, show (0 : Int32) = nI 0 from rfl, fa_or, Nat.or_zero, nI_add]
      have e : p t = fitB fl fr s t (v i 1) (sSize v i d) := by rw [← hp]
      rw [← e]
      cases q : p t
      · simp only [Bool.false_eq_true, and_false, if_false]
        simp only [bnd_some, z0, z1, z10, eq_self, if_true, if_false, Bool.false_eq_true]
        simp [bits, q]
      · simp only [and_true, if_true]
        simp only [bnd_some, z0, z1, z10, eq_self, if_true, if_false, Bool.false_eq_true]
        simp [bits, q]
    · dsimp only [u2, b_X10_whose_1]
      rw [if_pos (nI_le (Nat.le_refl _) (by omega))]
    · intro t ht
      dsimp only [u2, b_X9_whose_1]
      rw [if_neg (nI_ge ht (by omega)), show (1 : Int32) = nI 1 from rfl, X4_cell_s hx hn hi (by omega), bnd_some, X4_sizeOn_s hx hn hi o (Nat.le_refl d) (by omega), bnd_some, X6_suits_s hF hs hf ht o1 (by omega), bnd_some, i_bit (by omega), fa_or, nI_add]
      have e : p t = fitB fl fr s t (v i 1) (sSize v i d) := by rw [← hp]
      rw [← e]
      cases q : p t
      · simp only [bnd_some, z0, z1, z10, eq_self, if_true, if_false, Bool.false_eq_true]
        simp [bits, q]
      · simp only [bnd_some, z0, z1, z10, eq_self, if_true, if_false, Bool.false_eq_true]
        simp [bits, q]
    · dsimp only [u2, b_X9_whose_1]
      rw [if_pos (nI_le (Nat.le_refl _) (by omega))]
/-- how many below n have a property -/
def cnt (p : Nat → Bool) : Nat → Nat
  | 0 => 0
  | n + 1 => if p n then cnt p n + 1 else cnt p n
theorem cnt_le (p : Nat → Bool) : ∀ n, cnt p n ≤ n
  | 0 => Nat.le_refl 0
  | n + 1 => by
    have := cnt_le p n
    unfold cnt
    split <;> omega
def szC (v : Nat → Nat → Nat) (d f k : Nat) : Nat → Bool := fun i => decide (v i 0 ≠ 2 ∧ f ≤ sSize v i d ∧ sSize v i d ≤ f + k - 1)
def szs (v : Nat → Nat → Nat) (n d k : Nat) : Nat → Int32 × Int32
  | 0 => (-1, 0)
  | t + 1 => if nI (cnt (szC v d (t + 1) k) n) ≤ (szs v n d k t).1 then szs v n d k t else (nI (cnt (szC v d (t + 1) k) n), nI (t + 1))
theorem X4_unholedFrom_s {c : Nat → Int32} {n d : Nat} {v : Nat → Nat → Nat} (hx : XC c n v) (ok : okS n d v) {f k : Nat} (hf : f ≤ 100) (hf1 : 1 ≤ f) (hk : 1 ≤ k) (hk5 : k ≤ 5) : f_X4_unholedFrom (nI f) (nI k) (nI n) (nI d) c = some (nI (cnt (szC v d f k) n)) := by
  have hn := ok.1
  have hd := ok.2.1
  unfold f_X4_unholedFrom
  rw [show ((0 : Int32), (0 : Int32)) = (fun t => (nI (cnt (szC v d f k) t), nI t)) 0 from rfl]
  rw [lp_seq (b := u2 (b_X4_unholedFrom_1 c (nI n) (nI d) (nI f) (nI k))) (fun t => (nI (cnt (szC v d f k) t), nI t)) n (nI (cnt (szC v d f k) n), nI n) (by omega) ?_ ?_]
  · rfl
  · intro t ht
    have o := ok.2.2 t ht
    have o0 := o.1
    have o3 := o.2.2.2.1
    have e1 := sSize_le v t d
    dsimp only [u2, b_X4_unholedFrom_1]
    rw [if_neg (nI_ge ht (by omega)), show (0 : Int32) = nI 0 from rfl, X4_cell_s hx hn ht (by omega), bnd_some, X4_sizeOn_s hx hn ht o (Nat.le_refl d) (by omega), bnd_some, show (1 : Int32) = nI 1 from rfl, show nI f + nI k - nI 1 = nI (f + k - 1) from by rw [nI_add, nIsub (by omega)], within_s (by omega) (by omega) (by omega), bnd_some, nI_add t 1, nI_add (cnt (szC v d f k) t) 1]
    by_cases q : v t 0 = 2
    · rw [if_pos (by rw [q]; rfl)]
      have : szC v d f k t = false := by unfold szC; simp [q]
      simp [cnt, this]
    · rw [if_neg (show ¬ nI (v t 0) = (2 : Int32) from fun e => q (nI_inj (b := 2) (by omega) (by omega) e))]
      by_cases q2 : f ≤ sSize v t d ∧ sSize v t d ≤ f + k - 1
      · have : szC v d f k t = true := by unfold szC; simp [q]; exact q2
        rw [if_pos q2]
        simp only [bnd_some, z0, z1, z10, eq_self, if_true, if_false, Bool.false_eq_true]
        simp [cnt, this]
      · have : szC v d f k t = false := by unfold szC; simp only [decide_eq_false_iff_not]; exact fun z => q2 z.2
        rw [if_neg q2]
        simp only [bnd_some, z0, z1, z10, eq_self, if_true, if_false, Bool.false_eq_true]
        simp [cnt, this]
  · dsimp only [u2, b_X4_unholedFrom_1]
    rw [if_pos (nI_le (Nat.le_refl _) (by omega))]
theorem M_sizes2_s {st nw : Nat → Int32} {n d : Nat} {v : Nat → Nat → Nat} (hs1 : st 1 = nI n) (hm : MN nw n d v) (ok : okS n d v) {f k : Nat} (hf : f ≤ 100) (hf1 : 1 ≤ f) (hk : 1 ≤ k) (hk5 : k ≤ 5) : lp (u2 (b_X10_sizes_2 (nI f) st nw (nI k))) FU (0, 0) = some (nI (cnt (szC v d f k) n), nI n) := by
  have hn := ok.1
  have hd := ok.2.1
  rw [show ((0 : Int32), (0 : Int32)) = (fun t => (nI (cnt (szC v d f k) t), nI t)) 0 from rfl]
  rw [lp_seq (b := u2 (b_X10_sizes_2 (nI f) st nw (nI k))) (fun t => (nI (cnt (szC v d f k) t), nI t)) n (nI (cnt (szC v d f k) n), nI n) (by omega) ?_ ?_]
  · intro t ht
    have o := ok.2.2 t ht
    have o0 := o.1
    have o3 := o.2.2.2.1
    have e1 := sSize_le v t d
    dsimp only [u2, b_X10_sizes_2]
    rw [rd1 (f := st) (by omega), bnd_some, hs1, if_neg (nI_ge ht (by omega)), M_kindOf_s hm hn ht, bnd_some, M_sizeOf_s hm hn ht o (by omega), bnd_some, M_in_s, show (1 : Int32) = nI 1 from rfl, show nI f + nI k - nI 1 = nI (f + k - 1) from by rw [nI_add, nIsub (by omega)], within_s (by omega) (by omega) (by omega), bnd_some, nI_add t 1, nI_add (cnt (szC v d f k) t) 1, show (0 : Int32) = nI 0 from rfl, nI_add (cnt (szC v d f k) t) 0, Nat.add_zero]
    by_cases q : v t 0 = 2
    · rw [if_pos (by rw [q]; rfl)]
      have : szC v d f k t = false := by unfold szC; simp [q]
      simp [cnt, this]
    · rw [if_neg (show ¬ nI (v t 0) = (2 : Int32) from fun e => q (nI_inj (b := 2) (by omega) (by omega) e))]
      by_cases q2 : f ≤ sSize v t d ∧ sSize v t d ≤ f + k - 1
      · have : szC v d f k t = true := by unfold szC; simp [q]; exact q2
        rw [if_pos q2]
        simp only [bnd_some, z0, z1, z10, eq_self, if_true, if_false, Bool.false_eq_true]
        simp [cnt, this]
      · have : szC v d f k t = false := by unfold szC; simp only [decide_eq_false_iff_not]; exact fun z => q2 z.2
        rw [if_neg q2]
        simp only [bnd_some, z0, z1, z10, eq_self, if_true, if_false, Bool.false_eq_true]
        simp [cnt, this]
  · dsimp only [u2, b_X10_sizes_2]
    rw [rd1 (f := st) (by omega), bnd_some, hs1, if_pos (nI_le (Nat.le_refl _) (by omega))]
theorem api_sizes (x1 x2 : Int32) (nw : Nat → Int32) (hS : RS xc xn xd st) : ∃ r nw', f_X9_sizes x1 x2 xn xd xc = some r ∧ f_X10_sizes x1 x2 st nw = some (r, nw') := by
  obtain ⟨n, d, v, ok, rfl, rfl, hx, hm⟩ := hS
  have hn := ok.1
  obtain ⟨nw', n1, n2⟩ := M_asItIs_s hm ok.1 nw
  unfold f_X9_sizes f_X10_sizes
  rw [M_in_s, M_in_s, show f_X9_within x1 1 5 = f_X9_within x1 (nI 1) (nI 5) from rfl, show f_X9_within x2 0 1 = f_X9_within x2 (nI 0) (nI 1) from rfl]
  rcases win_c x1 (a := 1) (b := 5) (by omega) (by omega) with w | ⟨k, k1, k2, rfl, w⟩
  · rw [w]
    simp only [bnd_some, z0, z1, z10, eq_self, if_true, if_false, Bool.false_eq_true]
    exact ⟨_, _, rfl, rfl⟩
  · rw [w]
    simp only [bnd_some, z0, z1, z10, eq_self, if_true, if_false, Bool.false_eq_true]
    rcases win_c x2 (a := 0) (b := 1) (by omega) (by omega) with w | ⟨j, j1, j2, rfl, w⟩
    · rw [w]
      simp only [bnd_some, z0, z1, z10, eq_self, if_true, if_false, Bool.false_eq_true]
      exact ⟨_, _, rfl, rfl⟩
    · rw [w]
      simp only [bnd_some, z0, z1, z10, eq_self, if_true, if_false, Bool.false_eq_true]
      rw [n1]
      simp only [bnd_some, z0, z1, z10, eq_self, if_true, if_false, Bool.false_eq_true]
      rw [show ((-1 : Int32), (0 : Int32), (1 : Int32)) = (fun t => ((szs v n d k t).1, (szs v n d k t).2, nI (t + 1))) 0 from rfl, show ((0 : Int32), (-1 : Int32), (1 : Int32)) = (fun t => ((szs v n d k t).2, (szs v n d k t).1, nI (t + 1))) 0 from rfl]
      rw [lp_seq (b := u3 (b_X9_sizes_1 xc (nI n) (nI d) (nI k))) (fun t => ((szs v n d k t).1, (szs v n d k t).2, nI (t + 1))) 72 ((szs v n d k 72).1, (szs v n d k 72).2, nI 73) (by omega) ?_ ?_, lp_seq (b := u3 (b_X10_sizes_1 st nw' (nI k))) (fun t => ((szs v n d k t).2, (szs v n d k t).1, nI (t + 1))) 72 ((szs v n d k 72).2, (szs v n d k 72).1, nI 73) (by omega) ?_ ?_]
      · simp only [bnd_some, z0, z1, z10, eq_self, if_true, if_false, Bool.false_eq_true]
        dsimp only [u3]
        by_cases q : nI j = 0
        · rw [if_pos q, if_pos q]
          exact ⟨_, _, rfl, rfl⟩
        · rw [if_neg q, if_neg q]
          exact ⟨_, _, rfl, rfl⟩
      · intro t ht
        dsimp only [u3, b_X10_sizes_1]
        rw [if_neg (show ¬ (72 : Int32) < nI (t + 1) from nI_nlt (b := t + 1) (a := 72) (by omega) (by omega)), M_sizes2_s hm.2.1 n2 ok (by omega) (by omega) k1 k2, bnd_some]
        dsimp only [u2]
        rw [show (1 : Int32) = nI 1 from rfl, nI_add]
        by_cases q : nI (cnt (szC v d (t + 1) k) n) ≤ (szs v n d k t).1
        · rw [if_pos q, if_pos q]
          simp only [szs, if_pos q]
        · rw [if_neg q, if_neg q]
          simp only [szs, if_neg q]
      · dsimp only [u3, b_X10_sizes_1]
        rw [if_pos (show (72 : Int32) < nI (72 + 1) from by decide)]
      · intro t ht
        dsimp only [u3, b_X9_sizes_1]
        rw [if_neg (show ¬ (72 : Int32) < nI (t + 1) from nI_nlt (b := t + 1) (a := 72) (by omega) (by omega)), X4_unholedFrom_s hx ok (by omega) (by omega) k1 k2, bnd_some]
        rw [show (1 : Int32) = nI 1 from rfl, nI_add]
        by_cases q : nI (cnt (szC v d (t + 1) k) n) ≤ (szs v n d k t).1
        · rw [if_pos q]
          simp only [szs, if_pos q]
        · rw [if_neg q]
          simp only [szs, if_neg q]
      · dsimp only [u3, b_X9_sizes_1]
        rw [if_pos (show (72 : Int32) < nI (72 + 1) from by decide)]
end Q4
