/-! fault and lay on both sides -/
theorem lp_both0 {S1 R1 S2 R2 : Type} {b1 : S1 → Option (S1 ⊕ R1)} {b2 : S2 → Option (S2 ⊕ R2)} (I : Nat → S1 → S2 → Prop) (P : R1 → R2 → Prop) (m : Nat) (hs : ∀ i s1 s2, i ≤ m → I i s1 s2 → (∃ r1 r2, b1 s1 = some (.inr r1) ∧ b2 s2 = some (.inr r2) ∧ P r1 r2) ∨ (i < m ∧ ∃ t1 t2, b1 s1 = some (.inl t1) ∧ b2 s2 = some (.inl t2) ∧ I (i + 1) t1 t2)) : ∀ (n i : Nat) (s1 : S1) (s2 : S2), i ≤ m → I i s1 s2 → m - i < n → ∃ r1 r2, lp b1 n s1 = some r1 ∧ lp b2 n s2 = some r2 ∧ P r1 r2 := by
  intro n
  induction n with
  | zero =>
    intro i s1 s2 hi hI hn
    omega
  | succ n ih =>
    intro i s1 s2 hi hI hn
    rcases hs i s1 s2 hi hI with ⟨r1, r2, e1, e2, e3⟩ | ⟨hlt, t1, t2, e1, e2, e3⟩
    · exact ⟨r1, r2, by rw [lp, e1], by rw [lp, e2], e3⟩
    · obtain ⟨r1, r2, g1, g2, g3⟩ := ih (i + 1) t1 t2 (by omega) e3 (by omega)
      exact ⟨r1, r2, by rw [lp, e1]; exact g1, by rw [lp, e2]; exact g2, g3⟩
theorem lp_both {S1 R1 S2 R2 : Type} {b1 : S1 → Option (S1 ⊕ R1)} {b2 : S2 → Option (S2 ⊕ R2)} (I : Nat → S1 → S2 → Prop) (P : R1 → R2 → Prop) (m : Nat) (s1 : S1) (s2 : S2) (hm : m < 1000000) (h0 : I 0 s1 s2) (hs : ∀ i s1 s2, i ≤ m → I i s1 s2 → (∃ r1 r2, b1 s1 = some (.inr r1) ∧ b2 s2 = some (.inr r2) ∧ P r1 r2) ∨ (i < m ∧ ∃ t1 t2, b1 s1 = some (.inl t1) ∧ b2 s2 = some (.inl t2) ∧ I (i + 1) t1 t2)) : ∃ r1 r2, lp b1 FU s1 = some r1 ∧ lp b2 FU s2 = some r2 ∧ P r1 r2 :=
  lp_both0 I P m hs FU 0 s1 s2 (Nat.zero_le _) h0 (by unfold FU; omega)
theorem clearTold_s (rr mk : Nat → Int32) : ∃ rr' mk', f_X10_clearTold rr mk = some (rr', 0, 20, 4, mk', 2) ∧ (∀ j, j < 52 → rr' j = 0) ∧ ∀ j, j < 40 → mk' j = 0 := by
  obtain ⟨r1, e1, w1, rfl, h1⟩ := lp_cnt (b := u2 b_X10_clearTold_1) (fun i s => ∃ w, s = (nI i, w) ∧ ∀ j, j < i → w j = 0) (fun r => ∃ w, r = (nI 52, w) ∧ ∀ j, j < 52 → w j = 0) 52 ((0 : Int32), rr) (by omega) ⟨rr, rfl, fun j hj => by omega⟩ (by
    rintro i s hi ⟨w, rfl, hw⟩
    dsimp only [u2, b_X10_clearTold_1]
    rw [if_neg (show ¬ (52 : Int32) ≤ nI i from nI_ge (b := 52) hi (by omega)), wr_s (show i < 52 by omega) (by omega), bnd_some, show nI i + 1 = nI (i + 1) from nI_add i 1]
    refine ⟨_, rfl, _, rfl, fun j hj => ?_⟩
    try dsimp only
    by_cases t : j = i
    · rw [if_pos t]
    · rw [if_neg t]
      exact hw j (by omega)) (by
    rintro s ⟨w, rfl, hw⟩
    dsimp only [u2, b_X10_clearTold_1]
    rw [if_pos (show (52 : Int32) ≤ nI 52 by decide)]
    exact ⟨_, rfl, w, rfl, hw⟩)
  obtain ⟨r2, e2, w2, rfl, h2⟩ := lp_cnt (b := u2 b_X10_clearTold_2) (fun i s => ∃ w, s = (nI i, w) ∧ ∀ j, j < i → w j = 0) (fun r => ∃ w, r = (nI 40, w) ∧ ∀ j, j < 40 → w j = 0) 40 ((0 : Int32), mk) (by omega) ⟨mk, rfl, fun j hj => by omega⟩ (by
    rintro i s hi ⟨w, rfl, hw⟩
    dsimp only [u2, b_X10_clearTold_2]
    rw [if_neg (show ¬ (40 : Int32) ≤ nI i from nI_ge (b := 40) hi (by omega)), wr_s (show i < 40 by omega) (by omega), bnd_some, show nI i + 1 = nI (i + 1) from nI_add i 1]
    refine ⟨_, rfl, _, rfl, fun j hj => ?_⟩
    try dsimp only
    by_cases t : j = i
    · rw [if_pos t]
      decide
    · rw [if_neg t]
      exact hw j (by omega)) (by
    rintro s ⟨w, rfl, hw⟩
    dsimp only [u2, b_X10_clearTold_2]
    rw [if_pos (show (40 : Int32) ≤ nI 40 by decide)]
    exact ⟨_, rfl, w, rfl, hw⟩)
  refine ⟨w1, w2, ?_, h1, h2⟩
  unfold f_X10_clearTold
  rw [e1, bnd_some]
  dsimp only [u2]
  rw [e2, bnd_some]
section IX
variable {T : Nat} {L : Nat → Nat} {tl ml : Nat → Int32}
theorem read_s (h : TX T L tl ml) (t0 : Int32) (xc0 wl0 wr0 w0 m0 rr0 mf0 mk0 : Nat → Int32) : (∃ t' n' c' wn' ws' l' r' gn' gb' gk' w' a' mn' mg' mb' ms' m' rr' mf' mk', f_X3_read t0 xc0 wl0 wr0 w0 (nI T) tl = some (-4, c', n', 0, l', r', wn', ws', gn', gb', gk', w', t') ∧ f_X10_fault (nI T) ml m0 rr0 mf0 mk0 = some (-4, a', m', rr', mn', mf', mg', mb', mk', ms') ∧ RS c' n' 0 rr' ∧ RW l' r' wn' ws' mn' mf' ms' ∧ RG gn' gb' gk' mg' mb' mk') ∨ (∃ b x y, b < T ∧ f_X3_read t0 xc0 wl0 wr0 w0 (nI T) tl = some (nI b, x) ∧ f_X10_fault (nI T) ml m0 rr0 mf0 mk0 = some (nI b, y)) := by
  have hT := h.1
  obtain ⟨rr1, mk1, ec, hr1, hk1⟩ := clearTold_s rr0 mk0
  have hS : RS xc0 0 0 rr1 := ⟨0, 0, fun _ _ => 0, ⟨by omega, by omega, fun i hi => by omega⟩, rfl, rfl, fun i hi => by omega, hr1 0 (by omega), hr1 1 (by omega), fun i hi => by omega⟩
  have hW : RW wl0 wr0 0 2 0 mf0 2 := ⟨0, 2, fun _ => 0, fun _ => 0, by omega, by omega, rfl, rfl, rfl, rfl, fun f hf => by omega⟩
  have hG : RG 20 4 0 20 4 mk1 := ⟨20, 4, 0, by omega, by omega, by omega, by omega, by omega, rfl, rfl, rfl, rfl, rfl, fun j hj => by
    rw [hk1 j hj, Nat.zero_testBit]
    rfl⟩
  unfold f_X3_read f_X10_fault
  rw [ec, bnd_some]
  unfold f_X4_clear f_X6_clear f_X0_clear
  repeat rw [bnd_some]
  dsimp only [u2, u3, u6]
  repeat rw [bnd_some]
  dsimp only [u2, u3, u6]
  repeat rw [bnd_some]
  dsimp only [u2, u3, u6]
  obtain ⟨r1, r2, e1, e2, hP⟩ := lp_both (b1 := u13 (b_X3_read_1 (nI T) tl 0)) (b2 := u9 (b_X10_fault_1 ml (nI T))) (fun i s1 s2 => ∃ b t0 xn xc wn ws wl wr gn gb gk w0 mn mg mb ms m0 rr mf mk, i ≤ b ∧ b ≤ T ∧ s1 = (nI b, nI i, t0, xn, xc, wn, ws, wl, wr, gn, gb, gk, w0) ∧ s2 = (nI b, mn, mg, mb, ms, m0, rr, mf, mk) ∧ RS xc xn 0 rr ∧ RW wl wr wn ws mn mf ms ∧ RG gn gb gk mg mb mk) (fun r1 r2 => (∃ b i t0 xn xc wn ws wl wr gn gb gk w0 a mn mg mb ms m0 rr mf mk, r1 = .inl (b, i, t0, xn, xc, wn, ws, wl, wr, gn, gb, gk, w0) ∧ r2 = .inl (a, mn, mg, mb, ms, m0, rr, mf, mk) ∧ RS xc xn 0 rr ∧ RW wl wr wn ws mn mf ms ∧ RG gn gb gk mg mb mk) ∨ (∃ b x y, b < T ∧ r1 = .inr (nI b, x) ∧ r2 = .inr (nI b, y))) T ((0 : Int32), (0 : Int32), t0, (0 : Int32), xc0, (0 : Int32), (2 : Int32), wl0, wr0, (20 : Int32), (4 : Int32), (0 : Int64), w0) ((0 : Int32), (0 : Int32), (20 : Int32), (4 : Int32), (2 : Int32), m0, rr1, mf0, mk1) (by omega) ⟨0, _, _, _, _, _, _, _, _, _, _, _, _, _, _, _, _, _, _, _, by omega, by omega, rfl, rfl, hS, hW, hG⟩ (by
    rintro i s1 s2 hi ⟨b, t0, xn, xc, wn, ws, wl, wr, gn, gb, gk, w0, mn, mg, mb, ms, m0, rr, mf, mk, hib, hbT, rfl, rfl, hS, hW, hG⟩
    rcases read_step h hbT hib hS hW hG t0 w0 m0 with ⟨b', t', n', c', wn', ws', l', r', gn', gb', gk', w', mn', mg', mb', ms', m', rr', mf', mk', e1, e2, g1, g2, g3, g4, g5, g6⟩ | ⟨g, e1, e2⟩ | ⟨g, x, y, e1, e2⟩
    · exact Or.inr ⟨by omega, _, _, e1, e2, b', _, _, _, _, _, _, _, _, _, _, _, _, _, _, _, _, _, _, _, g1, g2, rfl, rfl, g4, g5, g6⟩
    · exact Or.inl ⟨_, _, e1, e2, Or.inl ⟨_, _, _, _, _, _, _, _, _, _, _, _, _, _, _, _, _, _, _, _, _, _, rfl, rfl, hS, hW, hG⟩⟩
    · exact Or.inl ⟨_, _, e1, e2, Or.inr ⟨b, x, y, g, rfl, rfl⟩⟩)
  rw [e1, e2]
  rcases hP with ⟨b, i, t0, xn, xc, wn, ws, wl, wr, gn, gb, gk, w0, a, mn, mg, mb, ms, m0, rr, mf, mk, rfl, rfl, g4, g5, g6⟩ | ⟨b, x, y, g, rfl, rfl⟩
  · rw [bndE_inl, bndE_inl]
    exact Or.inl ⟨_, _, _, _, _, _, _, _, _, _, _, _, _, _, _, _, _, _, _, _, rfl, rfl, g4, g5, g6⟩
  · rw [bndE_inr, bndE_inr]
    exact Or.inr ⟨b, x, y, g, rfl, rfl⟩
end IX
theorem RT_TX {xl ml : Nat → Int32} {xn mn : Int32} (hT : RT xl xn ml mn) : ∃ T L, TX T L xl ml ∧ xn = nI T ∧ mn = nI T := by
  obtain ⟨T, L, h1, h2, h3, h4⟩ := hT
  exact ⟨T, L, ⟨h1, fun j hj => by
    have := h4 j hj
    exact ⟨this.1, this.2.1, this.2.2.1, this.2.2.2⟩⟩, h2, h3⟩
theorem api_fault {xl ml : Nat → Int32} {xn mn : Int32} (hT : RT xl xn ml mn) (t0 : Int32) (xc0 wl0 wr0 w0 m0 rr0 mf0 mk0 : Nat → Int32) : ∃ r x y, f_X9_fault xn xl t0 xc0 wl0 wr0 w0 = some (r, x) ∧ f_X10_fault mn ml m0 rr0 mf0 mk0 = some (r, y) := by
  obtain ⟨T, L, h, rfl, rfl⟩ := RT_TX hT
  unfold f_X9_fault
  rcases read_s h t0 xc0 wl0 wr0 w0 m0 rr0 mf0 mk0 with ⟨t', n', c', wn', ws', l', r', gn', gb', gk', w', a', mn', mg', mb', ms', m', rr', mf', mk', e1, e2, _⟩ | ⟨b, x, y, hb, e1, e2⟩
  · rw [e1, e2, bnd_some]
    exact ⟨_, _, _, rfl, rfl⟩
  · rw [e1, e2, bnd_some]
    obtain ⟨x1, x2, x3, x4, x5, x6, x7, x8, x9, x10, x11, x12⟩ := x
    exact ⟨_, _, _, rfl, rfl⟩
theorem RS_cp {c n d rr c' s' : _} (h : RS c n d rr) (hc : ∀ j, j < 50 → c' j = c j) (hs : ∀ j, j < 52 → s' j = rr j) : RS c' n d s' := by
  obtain ⟨n, d, v, ok, rfl, rfl, hx, hm⟩ := h
  have hn := ok.1
  refine ⟨n, d, v, ok, rfl, rfl, fun i hi w hw => ?_, ?_, ?_, fun i hi => ?_⟩
  · rw [hc _ (by omega)]
    exact hx i hi w hw
  · rw [hs _ (by omega)]
    exact hm.1
  · rw [hs _ (by omega)]
    exact hm.2.1
  · rw [hs _ (by omega), hs _ (by omega), hs _ (by omega), hs _ (by omega), hs _ (by omega)]
    exact hm.2.2 i hi
theorem RW_cp {xl xr xl' xr' mf mf' : Nat → Int32} {xn xs mn ms : Int32} (h : RW xl xr xn xs mn mf ms) (h1 : ∀ j, j < 5 → xl' j = xl j) (h2 : ∀ j, j < 5 → xr' j = xr j) (h3 : ∀ j, j < 10 → mf' j = mf j) : RW xl' xr' xn xs mn mf' ms := by
  obtain ⟨F, s, fl, fr, hF, hs, e1, e2, e3, e4, hf⟩ := h
  refine ⟨F, s, fl, fr, hF, hs, e1, e2, e3, e4, fun f hfF => ?_⟩
  rw [h1 _ (by omega), h2 _ (by omega), h3 _ (by omega), h3 _ (by omega)]
  exact hf f hfF
theorem settle_s {mk : Nat → Int32} {xl xb gl gb : Int32} {xk : Int64} (hG : RG xl xb xk gl gb mk) (ks : Nat → Int32) : ∃ w, lp (u2 (b_X10_settles_1 mk)) FU (0, ks) = some (nI 40, w) ∧ ∀ j, j < 40 → w j = mk j := by
  obtain ⟨LL, B, K, hL1, hL2, hB1, hB2, hK, rfl, rfl, rfl, rfl, rfl, hk⟩ := hG
  obtain ⟨r1, e1, w1, rfl, h1⟩ := lp_cnt (b := u2 (b_X10_settles_1 mk)) (fun i s => ∃ w, s = (nI i, w) ∧ ∀ j, j < i → w j = mk j) (fun r => ∃ w, r = (nI 40, w) ∧ ∀ j, j < 40 → w j = mk j) 40 ((0 : Int32), ks) (by omega) ⟨ks, rfl, fun j hj => by omega⟩ (by
    rintro i s hi ⟨w, rfl, hw⟩
    dsimp only [u2, b_X10_settles_1]
    rw [if_neg (show ¬ (40 : Int32) ≤ nI i from nI_ge (b := 40) hi (by omega)), rd_s (show i < 40 by omega) (by omega), bnd_some, wr_s (show i < 40 by omega) (by omega), bnd_some, show nI i + 1 = nI (i + 1) from nI_add i 1]
    refine ⟨_, rfl, _, rfl, fun j hj => ?_⟩
    try dsimp only
    by_cases t : j = i
    · rw [if_pos t, t, hk i hi]
      cases K.testBit i
      · decide
      · decide
    · rw [if_neg t]
      exact hw j (by omega)) (by
    rintro s ⟨w, rfl, hw⟩
    dsimp only [u2, b_X10_settles_1]
    rw [if_pos (show (40 : Int32) ≤ nI 40 by decide)]
    exact ⟨_, rfl, w, rfl, hw⟩)
  exact ⟨w1, e1, h1⟩
theorem RG_cp {xl xb gl gb : Int32} {xk : Int64} {mk mk' : Nat → Int32} (hG : RG xl xb xk gl gb mk) (h : ∀ j, j < 40 → mk' j = mk j) : RG xl xb xk gl gb mk' := by
  obtain ⟨LL, B, K, hL1, hL2, hB1, hB2, hK, e1, e2, e3, e4, e5, hk⟩ := hG
  exact ⟨LL, B, K, hL1, hL2, hB1, hB2, hK, e1, e2, e3, e4, e5, fun j hj => by rw [h j hj]; exact hk j hj⟩
theorem RA_0 {N : Nat} {xh : Int32} {pp : Nat → Nat} {CC : Nat → Nat → Int32} {CK CY : Nat → Int32} {ma : Int32} {was : Nat → Int32} (hA : RA N xh pp CC CK CY ma was) : RA N 0 pp CC CK CY 0 was := by
  obtain ⟨a, sn, sd, sv, ha, _, _, okp, hxp, hmp⟩ := hA
  exact ⟨0, sn, sd, sv, Nat.zero_le _, rfl, rfl, fun j hj => by omega, ⟨hxp.1, hxp.2.1, fun j hj => by omega⟩, fun j hj => by omega⟩
theorem api_lay {xc st : Nat → Int32} {xn xd : Int32} (hS : RS xc xn xd st) {wl wr mf : Nat → Int32} {wn ws mn ms : Int32} (hW : RW wl wr wn ws mn mf ms) {gn gb mg mb : Int32} {gk : Int64} {mk : Nat → Int32} (hG : RG gn gb gk mg mb mk) {hc hl hk : Nat → Int32} {hs mh : Int32} {mr : Nat → Int32} (hH : RH hc hl hk hs mh mr) {ah ma : Int32} {ap : Nat → Nat} {aC : Nat → Nat → Int32} {aK aY was : Nat → Int32} (hA : RA 8 ah ap aC aK aY ma was) {kh mq : Int32} {kp : Nat → Nat} {kC : Nat → Nat → Int32} {kK kY kept : Nat → Int32} (hQ : RA 2 kh kp kC kK kY mq kept) {tl ml : Nat → Int32} {tn mt : Int32} (hT : RT tl tn ml mt) (t0 : Int32) (xc0 wl0 wr0 w0 m0 rr0 mf0 mk0 : Nat → Int32) : ∃ r x1 x2 x3 x4 x5 x6 x7 x8 x9 x10 x11 x12 c' n' d' l' r' wn' ws' gn' gb' gk' hs' ah' kh' mn' mf' mg' mb' mk' ms' st' ma' mq' mh' y, f_X9_lay tn tl t0 xc0 wl0 wr0 w0 xn xd xc wn ws wl wr gn gb gk hs ah kh = some (r, x1, x2, x3, x4, x5, x6, x7, x8, x9, x10, x11, x12, c', n', d', l', r', wn', ws', gn', gb', gk', hs', ah', kh') ∧ f_X10_lay mn mg mb ms ma mq mh mt mf mk st ml m0 rr0 mf0 mk0 = some (r, mn', mf', mg', mb', mk', ms', st', ma', mq', mh', y) ∧ RS c' n' d' st' ∧ RW l' r' wn' ws' mn' mf' ms' ∧ RG gn' gb' gk' mg' mb' mk' ∧ RH hc hl hk hs' mh' mr ∧ RA 8 ah' ap aC aK aY ma' was ∧ RA 2 kh' kp kC kK kY mq' kept := by
  obtain ⟨T, L, h, rfl, rfl⟩ := RT_TX hT
  have hTT := h.1
  unfold f_X9_lay f_X9_layText f_X10_lay
  rcases read_s h t0 xc0 wl0 wr0 w0 m0 rr0 mf0 mk0 with ⟨t', n', c', wn', ws', l', r', gn', gb', gk', w', a', mn', mg', mb', ms', m', rr', mf', mk', e1, e2, hS', hW', hG'⟩ | ⟨b, x, y, hb, e1, e2⟩
  · rw [e1, e2, bnd_some, bnd_some]
    dsimp only [u13, u10]
    rw [if_pos rfl, if_pos rfl, rd1 (f := rr') (by omega), bnd_some]
    have hS0 := hS'
    obtain ⟨n, d, v, ok, rfl, hd, hx, hm⟩ := hS'
    have hn := ok.1
    rw [hm.2.1]
    by_cases q : n = 0
    · subst q
      rw [if_pos (show nI 0 = 0 from rfl), if_pos (show nI 0 = 0 from rfl), bnd_some]
      dsimp only [u26]
      rw [if_pos rfl]
      exact ⟨_, _, _, _, _, _, _, _, _, _, _, _, _, _, _, _, _, _, _, _, _, _, _, _, _, _, _, _, _, _, _, _, _, _, _, _, _, rfl, rfl, hS, hW, hG, hH, hA, hQ⟩
    · have q2 : ¬ nI n = 0 := fun e => q (nI_inj (b := 0) (by omega) (by omega) e)
      rw [if_neg q2, if_neg q2]
      unfold f_X4_copy f_X6_copy f_X0_copy f_X2_clear_8 f_X2_clear_2 f_X10_settles
      obtain ⟨f1, g1, g2⟩ := M_copies_s (a := 0) (b := 0) (m := 52) (n1 := 52) (n3 := 52) (f := st) (g := rr') (by omega) (by omega) (by omega) (by omega)
      obtain ⟨f2, g3, g4⟩ := M_copies_s (a := 0) (b := 0) (m := 10) (n1 := 10) (n3 := 10) (f := mf) (g := mf') (by omega) (by omega) (by omega) (by omega)
      obtain ⟨kw, g5, g6⟩ := settle_s hG' mk
      have c1 : f_X9_copyRow 50 50 c' xc = _ := X9_copyRow_s (by omega)
      have c2 : f_X9_copyRow 5 5 l' wl = _ := X9_copyRow_s (by omega)
      have c3 : f_X9_copyRow 5 5 r' wr = _ := X9_copyRow_s (by omega)
      rw [c1, c2, c3, show f_X10_copies 0 0 52 52 52 st rr' = _ from g1, show f_X10_copies 0 0 10 10 10 mf mf' = _ from g3, g5]
      repeat rw [bnd_some]
      try dsimp only [u2, u3, u4, u10, u26]
      repeat rw [bnd_some]
      try dsimp only [u2, u3, u4, u10, u26]
      repeat rw [bnd_some]
      try dsimp only [u2, u3, u4, u10, u26]
      repeat rw [bnd_some]
      try dsimp only [u2, u3, u4, u10, u26]
      repeat rw [bnd_some]
      try dsimp only [u2, u3, u4, u10, u26]
      rw [if_neg (show ¬ (1 : Int32) = 0 by decide), rd1 (f := f1) (by omega), bnd_some, g2 1, if_pos (by omega), show 0 + (1 - 0) = 1 from rfl, hm.2.1]
      refine ⟨_, _, _, _, _, _, _, _, _, _, _, _, _, _, _, _, _, _, _, _, _, _, _, _, _, _, _, _, _, _, _, _, _, _, _, _, _, rfl, rfl, RS_cp hS0 ?_ ?_, RW_cp hW' ?_ ?_ ?_, RG_cp hG' g6, ?_, RA_0 hA, RA_0 hQ⟩
      · intro j hj
        try dsimp only
        rw [if_pos hj]
      · intro j hj
        rw [g2, if_pos (by omega), show 0 + (j - 0) = j by omega]
      · intro j hj
        try dsimp only
        rw [if_pos hj]
      · intro j hj
        try dsimp only
        rw [if_pos hj]
      · intro j hj
        rw [g4, if_pos (by omega), show 0 + (j - 0) = j by omega]
      · obtain ⟨hh, wi, wt, wk, hhh, _, _, hj⟩ := hH
        exact ⟨0, wi, wt, wk, by omega, rfl, rfl, fun j hj => by omega⟩
  · have nb : ¬ nI b = (-4 : Int32) := fun e => by
      have := nI_pos (show b < 2147483648 by omega)
      rw [e] at this
      exact this (by decide)
    rw [e1, e2, bnd_some, bnd_some]
    obtain ⟨x1, x2, x3, x4, x5, x6, x7, x8, x9, x10, x11, x12⟩ := x
    obtain ⟨y1, y2, y3, y4, y5, y6, y7, y8, y9⟩ := y
    dsimp only [u13, u10]
    rw [if_neg nb, if_neg nb, bnd_some]
    dsimp only [u26]
    rw [if_pos rfl]
    exact ⟨_, _, _, _, _, _, _, _, _, _, _, _, _, _, _, _, _, _, _, _, _, _, _, _, _, _, _, _, _, _, _, _, _, _, _, _, _, rfl, rfl, hS, hW, hG, hH, hA, hQ⟩
