/-! which feet can be served, the reference's side -/
section SM
variable {xc st nw : Nat → Int32} {n d F s : Nat} {v : Nat → Nat → Nat} {xl xr mf : Nat → Int32} {fl fr : Nat → Nat}
theorem MR_up {N : Nat} {w : Nat → Int32} {r : Nat → Bool} (h : MR N w r) (k : Nat) : MR N (fun j => if j = k then nI (pc k / 2) else w j) (upR r k) := by
  intro m hm
  unfold upR
  by_cases q : m = k
  · simp [q]
  · simp only [q, if_false, decide_false, Bool.or_false]
    exact h m hm
theorem serveMore_s (hs1 : st 1 = nI n) (hm : MN nw n d v) (ok : okS n d v) (hF : F ≤ 5) (hs : s ≤ 6) (hf : ∀ f, f < F → fl f ≤ 72 ∧ fr f ≤ 72 ∧ xl f = nI (fl f) ∧ xr f = nI (fr f) ∧ mf (2 * f) = nI (fl f) ∧ mf (2 * f + 1) = nI (fr f)) {f : Nat} (hfF : f < F) {m : Nat} (hmN : m < 2 ^ n) {w : Nat → Int32} {r : Nat → Bool} (hw : MR (2 ^ n) w r) (hr : r m = true) : ∃ w', f_X10_serveMore (nI f) (nI m) (nI s) mf st nw w = some w' ∧ MR (2 ^ n) w' (rOut (cnd v fl fr d s f m) m n r n) := by
  have hn := ok.1
  have hd := ok.2.1
  have hN := N_le hn
  unfold f_X10_serveMore
  obtain ⟨q, e, E⟩ := lp_cnt (b := u2 (b_X10_serveMore_1 mf nw st (nI s) (nI f) (nI m))) (fun t q => ∃ w, q = (nI t, w) ∧ MR (2 ^ n) w (rOut (cnd v fl fr d s f m) m n r t)) (fun q => ∃ z w, q = (z, w) ∧ MR (2 ^ n) w (rOut (cnd v fl fr d s f m) m n r n)) n ((0 : Int32), w) (by omega) ⟨w, rfl, hw⟩ (by
    rintro i q hi ⟨w, rfl, h⟩
    have o1 := (ok.2.2 i hi).2.1
    dsimp only [u2, b_X10_serveMore_1]
    rw [rd1 (f := st) (by omega), bnd_some, hs1, if_neg (nI_ge hi (by omega)), show nI i + 1 = nI (i + 1) from nI_add i 1]
    obtain ⟨q, e, E⟩ := lp_cnt (b := u2 (b_X10_serveMore_2 mf (nI i) nw st (nI s) (nI f) (nI m))) (fun t q => ∃ w', q = (nI t, w') ∧ MR (2 ^ n) w' (rIn (cnd v fl fr d s f m) m i (rOut (cnd v fl fr d s f m) m n r i) t)) (fun q => ∃ z w', q = (z, w') ∧ MR (2 ^ n) w' (rIn (cnd v fl fr d s f m) m i (rOut (cnd v fl fr d s f m) m n r i) n)) n ((0 : Int32), w) (by omega) ⟨w, rfl, h⟩ (by
      rintro j q hj ⟨w, rfl, h⟩
      have o2 := (ok.2.2 j hj).2.1
      have p1 : 2 ^ i < 2 ^ n := bit_lt hi
      have p2 : 2 ^ j < 2 ^ n := bit_lt hj
      have p3 : m ||| 2 ^ i ||| 2 ^ j < 2 ^ n := or_lt (or_lt hmN p1) p2
      dsimp only [u2, b_X10_serveMore_2]
      rw [rd1 (f := st) (by omega), bnd_some, hs1, if_neg (nI_ge hj (by omega)), show nI j + 1 = nI (j + 1) from nI_add j 1, M_has_s (by omega) (by omega), bnd_some, M_has_s (by omega) (by omega), show f_X10_fits (nI i) (nI f) 0 (nI s) mf nw = _ from M_fits_s (side := 0) hm ok hF hs hf hfF (by omega) hi, show f_X10_fits (nI j) (nI f) 1 (nI s) mf nw = _ from M_fits_s (side := 1) hm ok hF hs hf hfF (by omega) hj, M_areAlike_s hm hn hi hj (ok.2.2 i hi) (ok.2.2 j hj) (by omega)]
      simp only [bnd_some]
      have no : cnd v fl fr d s f m i j = false → ∃ s', some (Sum.inl (nI (j + 1), w)) = (some (Sum.inl s') : Option ((Int32 × (Nat → Int32)) ⊕ (Int32 × (Nat → Int32)))) ∧ ∃ w', s' = (nI (j + 1), w') ∧ MR (2 ^ n) w' (rIn (cnd v fl fr d s f m) m i (rOut (cnd v fl fr d s f m) m n r i) (j + 1)) := by
        intro g
        refine ⟨_, rfl, w, rfl, ?_⟩
        rw [rIn, if_neg (by rw [g]; decide)]
        exact h
      rcases Bool.eq_false_or_eq_true (m.testBit i) with b1 | b1
      · simp only [b1, if_true]
        rw [if_neg (show ¬ nI 1 = 0 by decide)]
        exact no (by unfold cnd; simp [b1])
      · simp only [b1, Bool.false_eq_true, if_false]
        rw [if_pos (show nI 0 = 0 from rfl)]
        rcases Bool.eq_false_or_eq_true (m.testBit j) with b2 | b2
        · simp only [b2, if_true]
          rw [if_neg (show ¬ nI 1 = 0 by decide)]
          exact no (by unfold cnd; simp [b2])
        · simp only [b2, Bool.false_eq_true, if_false]
          rw [if_pos (show nI 0 = 0 from rfl)]
          by_cases c1 : v i 1 = 0 ∧ fitB fl fr s f 0 (sSize v i d) = true
          · rw [if_pos c1, if_neg (show ¬ nI 1 = 0 by decide)]
            by_cases c2 : v j 1 = 1 ∧ fitB fl fr s f 1 (sSize v j d) = true
            · rw [if_pos c2, if_neg (show ¬ nI 1 = 0 by decide)]
              have hz : sAl v j i d = false := by
                unfold sAl
                simp only [decide_eq_false_iff_not]
                intro z
                have := z.2.1
                omega
              have hC : cnd v fl fr d s f m i j = sAl v i j d := by
                unfold cnd sui
                rw [c1.1, c2.1, b1, b2]
                simp [c1.2, c2.2]
              rcases Bool.eq_false_or_eq_true (sAl v i j d) with g | g
              · simp only [g, Bool.true_or, if_true]
                rw [if_neg (show ¬ nI 1 = 0 by decide), show (1 : Int32) = nI 1 from rfl, i_bit (by omega), i_bit (by omega), fa_or, fa_or, rd_s (show m < 1024 by omega) (by omega), rd_s (show m ||| 2 ^ i ||| 2 ^ j < 1024 by omega) (by omega)]
                simp only [bnd_some]
                have hr2 : rIn (cnd v fl fr d s f m) m i (rOut (cnd v fl fr d s f m) m n r i) j m = true := rIn_mono (rOut_mono hr i) j
                have e1 : w m = nI (pc m / 2) := by rw [h m hmN, if_pos hr2]
                have hij : i ≠ j := by
                  intro z
                  subst z
                  omega
                have e2 : pc (m ||| 2 ^ i ||| 2 ^ j) = pc m + 2 := by
                  rw [pc_or _ (by omega), pc_or b1 (by omega)]
                  rw [tb_or_bit, b2]
                  simp [hij]
                have e3 := pc_le m
                have e4 : (pc m + 2) / 2 = pc m / 2 + 1 := by omega
                have eW : ∀ x, wr 1024 w (nI (m ||| 2 ^ i ||| 2 ^ j)) x = some (fun k => if k = m ||| 2 ^ i ||| 2 ^ j then x else w k) := fun x => wr_s (by omega) (by omega)
                have up := MR_up h (m ||| 2 ^ i ||| 2 ^ j)
                rw [e2, e4] at up
                have hRI : rIn (cnd v fl fr d s f m) m i (rOut (cnd v fl fr d s f m) m n r i) (j + 1) = upR (rIn (cnd v fl fr d s f m) m i (rOut (cnd v fl fr d s f m) m n r i) j) (m ||| 2 ^ i ||| 2 ^ j) := by
                  rw [rIn, if_pos (hC.trans g)]
                rw [e1, nI_add, hRI]
                rcases Bool.eq_false_or_eq_true (rIn (cnd v fl fr d s f m) m i (rOut (cnd v fl fr d s f m) m n r i) j (m ||| 2 ^ i ||| 2 ^ j)) with t | t
                · have e5 : w (m ||| 2 ^ i ||| 2 ^ j) = nI (pc m / 2 + 1) := by rw [h _ p3, if_pos t, e2, e4]
                  rw [e5, if_pos (nI_le (Nat.le_refl _) (by omega)), eW, bnd_some]
                  exact ⟨_, rfl, _, rfl, up⟩
                · have e5 : w (m ||| 2 ^ i ||| 2 ^ j) = -1 := by rw [h _ p3, if_neg (by rw [t]; decide)]
                  rw [e5, if_neg (show ¬ nI (pc m / 2 + 1) ≤ -1 from fun z => nI_pos (show pc m / 2 + 1 < 2147483648 by omega) (Int32.lt_of_le_of_lt z (by decide))), eW, bnd_some]
                  exact ⟨_, rfl, _, rfl, up⟩
              · simp only [g, hz, Bool.or_self, Bool.false_eq_true, if_false]
                rw [if_pos (show nI 0 = 0 from rfl)]
                exact no (by rw [hC]; exact g)
            · rw [if_neg c2, if_pos (show nI 0 = 0 from rfl)]
              apply no
              cases g : cnd v fl fr d s f m i j with
              | false => rfl
              | true =>
                exfalso
                apply c2
                unfold cnd at g
                simp only [Bool.and_eq_true] at g
                have a1 := g.2.1.1
                have a2 := g.2.1.2
                unfold sAl at a1
                have a1 := (of_decide_eq_true a1).2.1
                unfold sui at a2
                rw [a1] at a2
                exact ⟨a1, a2⟩
          · rw [if_neg c1, if_pos (show nI 0 = 0 from rfl)]
            apply no
            cases g : cnd v fl fr d s f m i j with
            | false => rfl
            | true =>
              exfalso
              apply c1
              unfold cnd at g
              simp only [Bool.and_eq_true] at g
              have a1 := of_decide_eq_true g.1.1.1
              have a2 := g.1.1.2
              unfold sui at a2
              rw [a1] at a2
              exact ⟨a1, a2⟩) (by
      rintro q ⟨w, rfl, h⟩
      dsimp only [u2, b_X10_serveMore_2]
      rw [rd1 (f := st) (by omega), bnd_some, hs1, if_pos (nI_le (Nat.le_refl _) (by omega))]
      exact ⟨_, rfl, _, _, rfl, h⟩)
    obtain ⟨z, w', rfl, E⟩ := E
    rw [e]
    exact ⟨_, rfl, _, rfl, E⟩) (by
    rintro q ⟨w, rfl, h⟩
    dsimp only [u2, b_X10_serveMore_1]
    rw [rd1 (f := st) (by omega), bnd_some, hs1, if_pos (nI_le (Nat.le_refl _) (by omega))]
    exact ⟨_, rfl, _, _, rfl, h⟩)
  obtain ⟨z, w', rfl, E⟩ := E
  rw [e]
  exact ⟨w', rfl, E⟩
def mxR (r : Nat → Bool) : Nat → Nat
  | 0 => 0
  | t + 1 => if r t then max (mxR r t) (pc t / 2) else mxR r t
theorem mxR_le (r : Nat → Bool) : ∀ t, mxR r t ≤ 5
  | 0 => Nat.zero_le 5
  | t + 1 => by
    unfold mxR
    have := mxR_le r t
    have := pc_le t
    split <;> omega
theorem fill_s (sets0 : Nat → Int32) : ∃ w0, f_J7_fill_53178 0 1024 sets0 = some w0 ∧ ∀ k, k < 1024 → w0 k = 0 := by
    unfold f_J7_fill_53178
    obtain ⟨q, e, E⟩ := lp_cnt (b := u2 (b_J7_fill_53178_1 1024 0)) (fun t q => ∃ w : Nat → Int32, q = (nI t, w) ∧ ∀ k, k < t → w k = 0) (fun q => ∃ z w, q = (z, w) ∧ ∀ k, k < 1024 → w k = 0) 1024 ((0 : Int32), sets0) (by omega) ⟨sets0, rfl, fun k hk => absurd hk (by omega)⟩ (by
      rintro t q ht ⟨w, rfl, h⟩
      dsimp only [u2, b_J7_fill_53178_1]
      rw [if_neg (nI_ge ht (by omega)), wr_s (show t < 1024 by omega) (by omega), bnd_some, show nI t + 1 = nI (t + 1) from nI_add t 1]
      refine ⟨_, rfl, _, rfl, fun k hk => ?_⟩
      by_cases q : k = t
      · simp [q]
      · simp only [q, if_false]
        exact h k (by omega)) (by
      rintro q ⟨w, rfl, h⟩
      dsimp only [u2, b_J7_fill_53178_1]
      rw [if_pos (nI_le (Nat.le_refl _) (by omega))]
      exact ⟨_, rfl, _, _, rfl, h⟩)
    obtain ⟨z, w0, rfl, hw0⟩ := E
    rw [e]
    exact ⟨w0, rfl, hw0⟩
theorem sui_s (ok : okS n d v) (hF : F ≤ 5) (hs : s ≤ 6) (hf : ∀ f, f < F → fl f ≤ 72 ∧ fr f ≤ 72 ∧ xl f = nI (fl f) ∧ xr f = nI (fr f) ∧ mf (2 * f) = nI (fl f) ∧ mf (2 * f + 1) = nI (fr f)) {ma sz : Nat → Int32} (hl : LK v n d ma sz) {f : Nat} (hfF : f < F) : lp (u2 (b_X1_serve_2 (nI n) (nI f) (nI (bits (fun i => decide (v i 1 = 0)) n)) xl xr (nI s) sz)) FU (0, 0) = some (nI (bits (sui v fl fr d s f) n), nI n) := by
  have hn := ok.1
  have hd := ok.2.1
  have hN := N_le hn
  have hv : ∀ i, i < n → v i 1 ≤ 1 := fun i hi => (ok.2.2 i hi).2.1
  have h1 : 1 ≤ 2 ^ n := Nat.one_le_two_pow
  rw [show ((0 : Int32), (0 : Int32)) = (fun t => (nI (bits (sui v fl fr d s f) t), nI t)) 0 from rfl]
  rw [lp_seq (b := u2 (b_X1_serve_2 (nI n) (nI f) (nI (bits (fun i => decide (v i 1 = 0)) n)) xl xr (nI s) sz)) (fun t => (nI (bits (sui v fl fr d s f) t), nI t)) n (nI (bits (sui v fl fr d s f) n), nI n) (by omega) ?_ ?_]
  · intro t ht
    have o1 := hv t ht
    have o3 := (ok.2.2 t ht).2.2.2.1
    have o4 := sSize_le v t d
    dsimp only [u2, b_X1_serve_2]
    rw [if_neg (nI_ge ht (by omega)), X9_hasBit_s (Nat.lt_of_lt_of_le (bits_10 _ hn) (by omega)) (by omega), bnd_some, tb_bits, X9_at_s (show t < 10 by omega) (by omega), bnd_some, bnd_some, (hl t ht).2, show nI t + 1 = nI (t + 1) from nI_add t 1, show (1 : Int32) <<< (nI t &&& 31) = nI (2 ^ t) from i_bit (by omega), fa_or, show f_X6_suits (nI f) 1 (nI (sSize v t d)) (nI s) xl xr = _ from X6_suits_s (side := 1) hF hs hf hfF (by omega) (by omega), show f_X6_suits (nI f) 0 (nI (sSize v t d)) (nI s) xl xr = _ from X6_suits_s (side := 0) hF hs hf hfF (by omega) (by omega)]
    simp only [ht, decide_true, Bool.true_and, bnd_some, decide_eq_true_eq]
    have hb : bits (sui v fl fr d s f) (t + 1) = if sui v fl fr d s f t then bits (sui v fl fr d s f) t ||| 2 ^ t else bits (sui v fl fr d s f) t := rfl
    by_cases c : v t 1 = 0
    · have hsu : sui v fl fr d s f t = fitB fl fr s f 0 (sSize v t d) := by unfold sui; rw [if_pos c]
      rw [if_pos c, if_neg (show ¬ nI 1 = 0 by decide), hb, hsu]
      rcases Bool.eq_false_or_eq_true (fitB fl fr s f 0 (sSize v t d)) with g | g
      · simp only [g, if_true]
        rw [if_neg (show ¬ nI 1 = 0 by decide)]
      · simp only [g, Bool.false_eq_true, if_false]
        rw [if_pos (show nI 0 = 0 from rfl)]
    · have hsu : sui v fl fr d s f t = fitB fl fr s f 1 (sSize v t d) := by unfold sui; rw [if_neg c]
      rw [if_neg c, if_pos (show nI 0 = 0 from rfl), hb, hsu]
      rcases Bool.eq_false_or_eq_true (fitB fl fr s f 1 (sSize v t d)) with g | g
      · simp only [g, if_true]
        rw [if_neg (show ¬ nI 1 = 0 by decide)]
      · simp only [g, Bool.false_eq_true, if_false]
        rw [if_pos (show nI 0 = 0 from rfl)]
  · dsimp only [u2, b_X1_serve_2]
    rw [if_pos (nI_le (Nat.le_refl _) (by omega))]
theorem mx_s (hn : n ≤ 10) {w2 : Nat → Int32} {R : Nat → Bool} (hw2 : XR w2 R) : lp (u2 (b_X1_serve_3 (nI n) w2)) FU (0, 0) = some (nI (mxR R (2 ^ n)), nI (2 ^ n)) := by
  have hN := N_le hn
  rw [show ((0 : Int32), (0 : Int32)) = (fun t => (nI (mxR R t), nI t)) 0 from rfl]
  rw [lp_seq (b := u2 (b_X1_serve_3 (nI n) w2)) (fun t => (nI (mxR R t), nI t)) (2 ^ n) (nI (mxR R (2 ^ n)), nI (2 ^ n)) (by omega) ?_ ?_]
  · intro t ht
    have m1 := mxR_le R t
    have m2 := pc_le t
    dsimp only [u2, b_X1_serve_3]
    rw [top_s hn, if_neg (nI_ge ht (by omega)), X9_at_s (show t < 1024 by omega) (by omega), bnd_some, hw2 t (by omega), bitC_c t (by omega), bnd_some, show nI t + 1 = nI (t + 1) from nI_add t 1, show nI (pc t) / 2 = nI (pc t / 2) from nIdiv (d := 2) (by omega) (by omega) (by omega), mxR]
    rcases Bool.eq_false_or_eq_true (R t) with g | g
    · simp only [g, if_true]
      rw [if_neg (show ¬ nI 1 = 0 by decide)]
      by_cases c : mxR R t < pc t / 2
      · rw [if_pos (nI_lt c (by omega)), bnd_some, Nat.max_eq_right (by omega)]
      · rw [if_neg (nI_nlt (by omega) (by omega)), bnd_some, Nat.max_eq_left (by omega)]
    · simp only [g, Bool.false_eq_true, if_false]
      rw [if_pos (show nI 0 = 0 from rfl)]
  · dsimp only [u2, b_X1_serve_3]
    rw [top_s hn, if_pos (nI_le (Nat.le_refl _) (by omega))]
theorem r0_s {w0 : Nat → Int32} (hw0 : ∀ k, k < 1024 → w0 k = 0) : ∃ w1, f_X9_put 0 1 1024 w0 = some w1 ∧ XR w1 (fun m => decide (m = 0)) := by
  refine ⟨fun j => if j = 0 then nI 1 else w0 j, X9_put_s (k := 0) (by omega) (by omega), ?_⟩
  intro k hk
  by_cases q : k = 0
  · simp [q]
  · simp only [q, if_false, decide_false, Bool.false_eq_true]
    exact hw0 k hk
theorem X1_serve_s (ok : okS n d v) (hF : F ≤ 5) (hs : s ≤ 6) (hf : ∀ f, f < F → fl f ≤ 72 ∧ fr f ≤ 72 ∧ xl f = nI (fl f) ∧ xr f = nI (fr f) ∧ mf (2 * f) = nI (fl f) ∧ mf (2 * f + 1) = nI (fr f)) {ma sz : Nat → Int32} (hl : LK v n d ma sz) (sets0 : Nat → Int32) : ∃ sets', f_X1_serve (nI (bits (fun i => decide (v i 1 = 0)) n)) (nI n) sets0 ma sz (nI F) (nI s) xl xr = some (nI (mxR (rFt (fun f => cnd v fl fr d s f) n (2 ^ n) F) (2 ^ n)), sets') := by
  have hn := ok.1
  have hd := ok.2.1
  have hN := N_le hn
  have hv : ∀ i, i < n → v i 1 ≤ 1 := fun i hi => (ok.2.2 i hi).2.1
  have h1 : 1 ≤ 2 ^ n := Nat.one_le_two_pow
  obtain ⟨w0, g0, hw0⟩ := fill_s sets0
  obtain ⟨w1, g1, hw1⟩ := r0_s hw0
  unfold f_X1_serve
  rw [g0, bnd_some, g1, bnd_some]
  obtain ⟨q, e, E⟩ := lp_cnt (b := u2 (b_X1_serve_1 (nI n) (nI (bits (fun i => decide (v i 1 = 0)) n)) ma xl (nI F) xr (nI s) sz)) (fun t q => ∃ w, q = (nI t, w) ∧ XR w (rFt (fun f => cnd v fl fr d s f) n (2 ^ n) t)) (fun q => ∃ z w, q = (z, w) ∧ XR w (rFt (fun f => cnd v fl fr d s f) n (2 ^ n) F)) F ((0 : Int32), w1) (by omega) ⟨_, rfl, hw1⟩ (by
    rintro f q hfF ⟨w, rfl, h⟩
    dsimp only [u2, b_X1_serve_1]
    obtain ⟨w', k1, k2⟩ := giveOut_s (fl := fl) (fr := fr) (s := s) (f := f) hn hv hl h
    rw [if_neg (nI_ge hfF (by omega)), sui_s ok hF hs hf hl hfF, bnd_some]
    dsimp only [u2]
    rw [k1, bnd_some, show nI f + 1 = nI (f + 1) from nI_add f 1]
    exact ⟨_, rfl, _, rfl, k2⟩) (by
    rintro q ⟨w, rfl, h⟩
    dsimp only [u2, b_X1_serve_1]
    rw [if_pos (nI_le (Nat.le_refl _) (by omega))]
    exact ⟨_, rfl, _, _, rfl, h⟩)
  obtain ⟨z2, w2, rfl, hw2⟩ := E
  rw [e, bnd_some]
  dsimp only [u2]
  rw [mx_s hn hw2, bnd_some]
  exact ⟨w2, rfl⟩
theorem M_served_s (ok : okS n d v) (hF : F ≤ 5) (hs : s ≤ 6) (hf : ∀ f, f < F → fl f ≤ 72 ∧ fr f ≤ 72 ∧ xl f = nI (fl f) ∧ xr f = nI (fr f) ∧ mf (2 * f) = nI (fl f) ∧ mf (2 * f + 1) = nI (fr f)) (hm : MN st n d v) {nw' : Nat → Int32} (n1 : f_X10_asItIs st nw = some nw') (n2 : MN nw' n d v) (serves : Nat → Int32) : ∃ sv, f_X10_served (nI F) (nI s) mf st nw serves = some (nI (mxR (rFt (fun f => cnd v fl fr d s f) n (2 ^ n) F) (2 ^ n)), nw', sv) := by
  have hn := ok.1
  have hd := ok.2.1
  have hN := N_le hn
  have hv : ∀ i, i < n → v i 1 ≤ 1 := fun i hi => (ok.2.2 i hi).2.1
  have h1 : 1 ≤ 2 ^ n := Nat.one_le_two_pow
  unfold f_X10_served
  rw [n1, bnd_some, rd1 (f := st) (by omega), bnd_some, hm.2.1]
  obtain ⟨q, e, E⟩ := lp_cnt (b := u2 (b_X10_served_1 (nI n))) (fun t q => ∃ w, q = (nI t, w) ∧ ∀ k, k < t → w k = if decide (k = 0) then nI (pc k / 2) else -1) (fun q => ∃ z w, q = (z, w) ∧ MR (2 ^ n) w (rFt (fun f => cnd v fl fr d s f) n (2 ^ n) 0)) (2 ^ n) ((0 : Int32), serves) (by omega) ⟨serves, rfl, fun k hk => absurd hk (by omega)⟩ (by
    rintro t q ht ⟨w, rfl, h⟩
    dsimp only [u2, b_X10_served_1]
    rw [top_s hn, if_neg (nI_ge ht (by omega)), wr_s (show t < 1024 by omega) (by omega), wr_s (show t < 1024 by omega) (by omega), bnd_some, bnd_some, show nI t + 1 = nI (t + 1) from nI_add t 1]
    by_cases c : t = 0
    · subst c
      rw [if_pos (show nI 0 = 0 from rfl)]
      refine ⟨_, rfl, _, rfl, fun k hk => ?_⟩
      have : k = 0 := by omega
      subst this
      simp
      rfl
    · rw [if_neg (show ¬ nI t = 0 from fun e => c (nI_inj (b := 0) (by omega) (by omega) e))]
      refine ⟨_, rfl, _, rfl, fun k hk => ?_⟩
      by_cases q : k = t
      · subst q
        simp [c]
      · simp only [q, if_false]
        exact h k (by omega)) (by
    rintro q ⟨w, rfl, h⟩
    dsimp only [u2, b_X10_served_1]
    rw [top_s hn, if_pos (nI_le (Nat.le_refl _) (by omega))]
    exact ⟨_, rfl, _, _, rfl, h⟩)
  obtain ⟨z0, w0, rfl, hw0⟩ := E
  rw [e]
  simp only [bnd_some, u2]
  obtain ⟨q, e, E⟩ := lp_cnt (b := u2 (b_X10_served_2 mf (nI F) st (nI s) (nI n) nw')) (fun t q => ∃ w, q = (nI t, w) ∧ MR (2 ^ n) w (rFt (fun f => cnd v fl fr d s f) n (2 ^ n) t)) (fun q => ∃ z w, q = (z, w) ∧ MR (2 ^ n) w (rFt (fun f => cnd v fl fr d s f) n (2 ^ n) F)) F ((0 : Int32), w0) (by omega) ⟨_, rfl, hw0⟩ (by
    rintro f q hfF ⟨w, rfl, h⟩
    dsimp only [u2, b_X10_served_2]
    rw [if_neg (nI_ge hfF (by omega)), top_s hn, show nI (2 ^ n) - 1 = nI (2 ^ n - 1) from nIsub (b := 1) h1]
    obtain ⟨q, e, E⟩ := lp_cnt (b := u2 (b_X10_served_3 mf (nI f) st (nI s) nw')) (fun t q => ∃ w, q = (nI (2 ^ n - t) + (-1), w) ∧ MR (2 ^ n) w (rDn (cnd v fl fr d s f) n (2 ^ n) (rFt (fun f => cnd v fl fr d s f) n (2 ^ n) f) t)) (fun q => ∃ z w, q = (z, w) ∧ MR (2 ^ n) w (rDn (cnd v fl fr d s f) n (2 ^ n) (rFt (fun f => cnd v fl fr d s f) n (2 ^ n) f) (2 ^ n))) (2 ^ n) (nI (2 ^ n - 1), w) (by omega) ⟨w, by
        rw [Nat.sub_zero, ← lastI (k := 2 ^ n - 1) (by omega), show 2 ^ n - 1 + 1 = 2 ^ n by omega], h⟩ (by
      rintro t q ht ⟨w, rfl, h⟩
      obtain ⟨m, hmm⟩ : ∃ m, 2 ^ n - t = m + 1 := ⟨2 ^ n - t - 1, by omega⟩
      rw [hmm, lastI (by omega)]
      dsimp only [u2, b_X10_served_3]
      have e1 : 2 ^ n - 1 - t = m := by omega
      have e2 : 2 ^ n - (t + 1) = m := by omega
      have m2 := pc_le m
      rw [if_neg (nI_pos (by omega)), rd_s (show m < 1024 by omega) (by omega), bnd_some, h m (by omega), e2, rDn, e1]
      rcases Bool.eq_false_or_eq_true (rDn (cnd v fl fr d s f) n (2 ^ n) (rFt (fun f => cnd v fl fr d s f) n (2 ^ n) f) t m) with g | g
      · simp only [g, if_true]
        obtain ⟨w', k1, k2⟩ := serveMore_s (st := st) hm.2.1 n2 ok hF hs hf hfF (show m < 2 ^ n by omega) h g
        rw [if_neg (nI_pos (show pc m / 2 < 2147483648 by omega)), k1, bnd_some]
        exact ⟨_, rfl, _, rfl, k2⟩
      · simp only [g, Bool.false_eq_true, if_false]
        rw [if_pos (show (-1 : Int32) < 0 by decide)]
        exact ⟨_, rfl, _, rfl, h⟩) (by
      rintro q ⟨w, rfl, h⟩
      dsimp only [u2, b_X10_served_3]
      rw [Nat.sub_self, if_pos m1_neg]
      exact ⟨_, rfl, _, _, rfl, h⟩)
    obtain ⟨z, w', rfl, E⟩ := E
    rw [e, bnd_some]
    simp only [u2]
    rw [show nI f + 1 = nI (f + 1) from nI_add f 1]
    exact ⟨_, rfl, _, rfl, E⟩) (by
    rintro q ⟨w, rfl, h⟩
    dsimp only [u2, b_X10_served_2]
    rw [if_pos (nI_le (Nat.le_refl _) (by omega))]
    exact ⟨_, rfl, _, _, rfl, h⟩)
  obtain ⟨z2, w2, rfl, hw2⟩ := E
  rw [e]
  simp only [bnd_some, u2]
  generalize hR : rFt (fun f => cnd v fl fr d s f) n (2 ^ n) F = R at hw2
  rw [show ((0 : Int32), (0 : Int32)) = (fun t => (nI (mxR R t), nI t)) 0 from rfl]
  rw [lp_seq (b := u2 (b_X10_served_4 (nI n) w2)) (fun t => (nI (mxR R t), nI t)) (2 ^ n) (nI (mxR R (2 ^ n)), nI (2 ^ n)) (by omega) ?_ ?_]
  · exact ⟨_, rfl⟩
  · intro t ht
    have m1 := mxR_le R t
    have m2 := pc_le t
    dsimp only [u2, b_X10_served_4]
    rw [top_s hn, if_neg (nI_ge ht (by omega)), rd_s (show t < 1024 by omega) (by omega), bnd_some, bnd_some, hw2 t ht, show nI t + 1 = nI (t + 1) from nI_add t 1, mxR]
    rcases Bool.eq_false_or_eq_true (R t) with g | g
    · simp only [g, if_true]
      by_cases c : mxR R t < pc t / 2
      · rw [if_neg (nI_ge c (by omega)), Nat.max_eq_right (by omega)]
      · rw [if_pos (nI_le (by omega) (by omega)), Nat.max_eq_left (by omega)]
    · simp only [g, Bool.false_eq_true, if_false]
      rw [if_pos (show (-1 : Int32) ≤ nI (mxR R t) from Int32.le_of_lt (Int32.lt_of_lt_of_le (show (-1 : Int32) < nI 0 by decide) (nI_le (Nat.zero_le _) (by omega))))]
  · dsimp only [u2, b_X10_served_4]
    rw [top_s hn, if_pos (nI_le (Nat.le_refl _) (by omega))]
theorem api_served (m0 s0 sets0 nw serves : Nat → Int32) {xn xd wn ws mn ms : Int32} (hS : RS xc xn xd st) (hW : RW xl xr wn ws mn mf ms) : ∃ r a b c e g nw' h, f_X9_served xn xd xc wn ws xl xr sets0 m0 s0 = some (r, a, b, c, e, g) ∧ f_X10_served mn ms mf st nw serves = some (r, nw', h) := by
  obtain ⟨n, d, v, ok, rfl, rfl, hx, hm⟩ := hS
  obtain ⟨F, s, fl, fr, hF, hs, rfl, rfl, rfl, rfl, hf⟩ := hW
  have hn := ok.1
  have hd := ok.2.1
  have hN := N_le hn
  have hv : ∀ i, i < n → v i 1 ≤ 1 := fun i hi => (ok.2.2 i hi).2.1
  have h1 : 1 ≤ 2 ^ n := Nat.one_le_two_pow
  obtain ⟨nw', n1, n2⟩ := M_asItIs_s hm ok.1 nw
  obtain ⟨ma, sz, g1, hl⟩ := X1_look_s hx ok m0 s0
  obtain ⟨sets', hX⟩ := X1_serve_s ok hF hs hf hl sets0
  obtain ⟨sv, hM⟩ := M_served_s ok hF hs hf hm n1 n2 serves
  unfold f_X9_served
  rw [g1]
  simp only [bnd_some, u4]
  rw [hX]
  simp only [bnd_some, u2]
  exact ⟨_, _, _, _, _, _, _, _, rfl, hM⟩
end SM
