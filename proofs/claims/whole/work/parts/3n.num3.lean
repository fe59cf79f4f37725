/-! reading a text: all numbers of an item on both sides -/
section NV
variable {T : Nat} {L : Nat → Nat} {tl ml : Nat → Int32}
def endsAt (T : Nat) (L : Nat → Nat) (a c : Nat) : Prop := (∀ i, i < c - 1 → okN T L a i) ∧ enN T L a (c - 1)
theorem X3_nums_s (h : TX T L tl ml) {a : Nat} (ha : a ≤ 300) (t0 : Int32) (w0 : Nat → Int32) : (∃ c w, 1 ≤ c ∧ c ≤ 4 ∧ endsAt T L a c ∧ f_X3_readNumbers (nI a) t0 w0 (nI T) tl = some (nI (plc T L a c), w, nI c) ∧ ∀ k, k < c → w k = nI (nVal T L (plc T L a k))) ∨ ((∀ c, 1 ≤ c → c ≤ 4 → ¬ endsAt T L a c) ∧ ∃ w t, f_X3_readNumbers (nI a) t0 w0 (nI T) tl = some (-1, w, t)) := by
  have hp : ∀ i, i ≤ 4 → plc T L a i < 1000 := fun i hi => by
    have := plc_le (T := T) (L := L) a i
    omega
  unfold f_X3_readNumbers
  obtain ⟨r, e, E⟩ := lp_FU (b := u4 (b_X3_readNumbers_1 (nI T) tl)) (fun i s => ∃ w t, s = (nI (plc T L a i), nI i, t, w) ∧ (∀ k, k < i → okN T L a k ∧ w k = nI (nVal T L (plc T L a k)))) (fun r => (∃ c w, 1 ≤ c ∧ c ≤ 4 ∧ endsAt T L a c ∧ r = .inr (nI (plc T L a c), w, nI c) ∧ ∀ k, k < c → w k = nI (nVal T L (plc T L a k))) ∨ ((∀ c, 1 ≤ c → c ≤ 4 → ¬ endsAt T L a c) ∧ ((∃ w t, r = .inr (-1, w, t)) ∨ ∃ x y z w, r = .inl (x, y, z, w)))) 4 (nI a, (0 : Int32), t0, w0) (by omega) ⟨w0, t0, rfl, fun k hk => absurd hk (by omega)⟩ (by
    rintro i s hi ⟨w, t, rfl, hk⟩
    by_cases hi4 : i < 4
    · have st := X3_step h (hp i hi) hi4 t w
      dsimp only [u4]
      rw [st]
      have upd : fig T L (plc T L a i) = true → ∀ k, k < i + 1 → (fun k => if k = i then nI (nVal T L (plc T L a i)) else w k) k = nI (nVal T L (plc T L a k)) := by
        intro _ k hk2
        by_cases c : k = i
        · subst c
          simp
        · simp only [c, if_false]
          exact (hk k (by omega)).2
      have bad : ¬ okN T L a i → ¬ enN T L a i → ∀ c, 1 ≤ c → c ≤ 4 → ¬ endsAt T L a c := by
        intro n1 n2 c c1 c2 ⟨g1, g2⟩
        by_cases q : c - 1 < i
        · have := (hk (c - 1) q).1
          unfold okN at this
          unfold enN at g2
          omega
        · by_cases q2 : c - 1 = i
          · rw [q2] at g2
            exact n2 g2
          · exact n1 (g1 i (by omega))
      by_cases q : fig T L (plc T L a i) = true
      · rw [if_pos q]
        by_cases c1 : sepI T L (plc T L a i) = 59
        · rw [if_pos c1]
          exact Or.inl ⟨_, rfl, Or.inl ⟨i + 1, _, by omega, by omega, ⟨fun k hk2 => (hk k (by omega)).1, ⟨q, c1⟩⟩, rfl, upd q⟩⟩
        · rw [if_neg c1]
          by_cases c2 : sepI T L (plc T L a i) = 44
          · rw [if_pos c2]
            refine Or.inr ⟨hi4, _, rfl, _, _, rfl, fun k hk2 => ⟨?_, upd q k hk2⟩⟩
            by_cases c : k = i
            · subst c
              exact ⟨q, c2⟩
            · exact (hk k (by omega)).1
          · rw [if_neg c2]
            exact Or.inl ⟨_, rfl, Or.inr ⟨bad (fun z => c2 z.2) (fun z => c1 z.2), Or.inl ⟨_, _, rfl⟩⟩⟩
      · rw [if_neg q]
        exact Or.inl ⟨_, rfl, Or.inr ⟨bad (fun z => q z.1) (fun z => q z.1), Or.inl ⟨_, _, rfl⟩⟩⟩
    · have e4 : i = 4 := by omega
      subst e4
      dsimp only [u4, b_X3_readNumbers_1]
      rw [if_pos (show (4 : Int32) ≤ nI 4 by decide)]
      refine Or.inl ⟨_, rfl, Or.inr ⟨fun c c1 c2 g => ?_, Or.inr ⟨_, _, _, _, rfl⟩⟩⟩
      have g1 := (hk (c - 1) (by omega)).1
      have g2 := g.2
      unfold okN at g1
      unfold enN at g2
      omega)
  rw [e]
  rcases E with ⟨c, w, c1, c2, c3, rfl, c4⟩ | ⟨n1, ⟨w, t, rfl⟩ | ⟨x, y, z, w, rfl⟩⟩
  · exact Or.inl ⟨c, w, c1, c2, c3, rfl, c4⟩
  · exact Or.inr ⟨n1, w, t, rfl⟩
  · exact Or.inr ⟨n1, w, z, rfl⟩
/-- one number on the reference's side -/
theorem M_step (h : TX T L tl ml) {p i c : Nat} (hp : p < 1000) (hi : i < c) (hc : c ≤ 4) (w : Nat → Int32) : (fig T L p = true ∧ sepI T L p = (if i + 1 = c then 59 else 44) ∧ ∃ w', b_X10_readNumbers_1 ml (nI T) (nI c) (nI i) (nI p) w = some (.inl (nI (i + 1), nI (nEnd T L p + 1), w')) ∧ ∀ k, w' k = if k = i then nI (nVal T L p) else w k) ∨ (¬ (fig T L p = true ∧ sepI T L p = (if i + 1 = c then 59 else 44)) ∧ ∃ z w', b_X10_readNumbers_1 ml (nI T) (nI c) (nI i) (nI p) w = some (.inr (.inr (0, z, w')))) := by
  have hlt : ∀ j, j < T → 32 ≤ L j ∧ L j ≤ 126 := fun j hj => ⟨(h.2 j hj).1, (h.2 j hj).2.1⟩
  unfold b_X10_readNumbers_1
  rw [if_neg (nI_ge hi (by omega)), M_letter_s h (show p < 100000 by omega), bnd_some, M_figure_s h, bnd_some, show nI p + 1 = nI (p + 1) from nI_add p 1, show nI (p + 1) + 1 = nI (p + 2) from nI_add (p + 1) 1, show nI (p + 2) + 1 = nI (p + 3) from nI_add (p + 2) 1, show nI i + 1 = nI (i + 1) from nI_add i 1, show nI c - 1 = nI (c - 1) from nIsub (b := 1) (by omega)]
  by_cases q : fig T L p = true
  · have f1 := fig_lt q
    rw [if_pos q, if_neg (show ¬ nI 1 = 0 by decide), bnd_some, if_pos f1.1, show nI (L p) - 48 = nI (L p - 48) from nIsub (b := 48) (by omega), wr_s (show i < 4 by omega) (by omega), bnd_some, M_letter_s h (show p + 1 < 100000 by omega), bnd_some, M_figure_s h, bnd_some]
    have fin : ∀ (E : Nat) (w' : Nat → Int32), E = nEnd T L p → (∀ k, w' k = if k = i then nI (nVal T L p) else w k) → (fig T L p = true ∧ sepI T L p = (if i + 1 = c then 59 else 44) ∧ ∃ w'', (if nI (c - 1) ≤ nI i then (if (if E < T then nI (L E) else -1) = 59 then some (.inl (nI (i + 1), nI (E + 1), w')) else some (.inr (.inr (0, nI E, w')))) else if (if E < T then nI (L E) else -1) = 44 then some (.inl (nI (i + 1), nI (E + 1), w')) else some (.inr (.inr (0, nI E, w'))) : Option ((Int32 × Int32 × (Nat → Int32)) ⊕ ((Int32 × Int32 × (Nat → Int32)) ⊕ (Int32 × Int32 × (Nat → Int32))))) = some (.inl (nI (i + 1), nI (nEnd T L p + 1), w'')) ∧ ∀ k, w'' k = if k = i then nI (nVal T L p) else w k) ∨ (¬ (fig T L p = true ∧ sepI T L p = (if i + 1 = c then 59 else 44)) ∧ ∃ z w'', (if nI (c - 1) ≤ nI i then (if (if E < T then nI (L E) else -1) = 59 then some (.inl (nI (i + 1), nI (E + 1), w')) else some (.inr (.inr (0, nI E, w')))) else if (if E < T then nI (L E) else -1) = 44 then some (.inl (nI (i + 1), nI (E + 1), w')) else some (.inr (.inr (0, nI E, w'))) : Option ((Int32 × Int32 × (Nat → Int32)) ⊕ ((Int32 × Int32 × (Nat → Int32)) ⊕ (Int32 × Int32 × (Nat → Int32))))) = some (.inr (.inr (0, z, w'')))) := by
      intro E w' hE hw
      subst hE
      have key : ∀ y, y = 59 ∨ y = 44 → ((if nEnd T L p < T then nI (L (nEnd T L p)) else (-1 : Int32)) = nI y ↔ sepI T L p = y) := by
        intro y hy
        unfold sepI
        by_cases t : nEnd T L p < T
        · have := hlt _ t
          rw [if_pos t, if_pos t]
          exact nIeq (by omega) (by omega)
        · rw [if_neg t, if_neg t]
          constructor
          · intro z
            rcases hy with rfl | rfl
            · exact absurd z (by decide)
            · exact absurd z (by decide)
          · intro z
            omega
      by_cases hl : i + 1 = c
      · rw [if_pos hl, if_pos (nI_le (show c - 1 ≤ i by omega) (by omega))]
        by_cases s : sepI T L p = 59
        · rw [if_pos (show _ = (59 : Int32) from (key 59 (Or.inl rfl)).mpr s)]
          exact Or.inl ⟨q, s, w', rfl, hw⟩
        · rw [if_neg (show ¬ _ = (59 : Int32) from fun z => s ((key 59 (Or.inl rfl)).mp z))]
          exact Or.inr ⟨fun z => s z.2, _, _, rfl⟩
      · rw [if_neg hl, if_neg (nI_ge (show i < c - 1 by omega) (by omega))]
        by_cases s : sepI T L p = 44
        · rw [if_pos (show _ = (44 : Int32) from (key 44 (Or.inr rfl)).mpr s)]
          exact Or.inl ⟨q, s, w', rfl, hw⟩
        · rw [if_neg (show ¬ _ = (44 : Int32) from fun z => s ((key 44 (Or.inr rfl)).mp z))]
          exact Or.inr ⟨fun z => s z.2, _, _, rfl⟩
    by_cases q2 : fig T L (p + 1) = true
    · have f2 := fig_lt q2
      have eV : nVal T L p = (L p - 48) * 10 + (L (p + 1) - 48) := by unfold nVal; rw [if_pos q2]
      have eE : nEnd T L p = p + 2 := by unfold nEnd; rw [if_pos q2]
      rw [if_pos q2, if_neg (show ¬ nI 1 = 0 by decide), rd_s (show i < 4 by omega) (by omega), bnd_some, if_pos f2.1, bnd_some]
      simp only [if_true]
      rw [show (10 : Int32) * nI (L p - 48) = nI (10 * (L p - 48)) from pk_mul 10 _, nI_add, show nI (10 * (L p - 48) + L (p + 1)) - 48 = nI (10 * (L p - 48) + L (p + 1) - 48) from nIsub (b := 48) (by omega), wr_s (show i < 4 by omega) (by omega), bnd_some, M_letter_s h (show p + 2 < 100000 by omega), bnd_some]
      refine fin (p + 2) _ eE.symm (fun k => ?_)
      by_cases c : k = i
      · simp only [c, if_true]
        rw [eV]
        congr 1
        omega
      · simp only [c, if_false]
    · have eV : nVal T L p = L p - 48 := by unfold nVal; rw [if_neg q2]
      have eE : nEnd T L p = p + 1 := by unfold nEnd; rw [if_neg q2]
      rw [if_neg q2, if_pos (show nI 0 = 0 from rfl), bnd_some]
      refine fin (p + 1) _ eE.symm (fun k => ?_)
      rw [eV]
  · rw [if_neg q, if_pos (show nI 0 = 0 from rfl)]
    exact Or.inr ⟨fun z => q z.1, _, _, rfl⟩
theorem M_nums_s (h : TX T L tl ml) {a c : Nat} (ha : a ≤ 300) (hc1 : 1 ≤ c) (hc : c ≤ 4) (w0 : Nat → Int32) : (endsAt T L a c ∧ ∃ w, f_X10_readNumbers (nI c) (nI T) (nI a) ml w0 = some (1, nI (plc T L a c), w) ∧ ∀ k, k < c → w k = nI (nVal T L (plc T L a k))) ∨ (¬ endsAt T L a c ∧ ∃ z w, f_X10_readNumbers (nI c) (nI T) (nI a) ml w0 = some (0, z, w)) := by
  have hp : ∀ i, i ≤ 4 → plc T L a i < 1000 := fun i hi => by
    have := plc_le (T := T) (L := L) a i
    omega
  unfold f_X10_readNumbers
  obtain ⟨r, e, E⟩ := lp_FU (b := u3 (b_X10_readNumbers_1 ml (nI T) (nI c))) (fun i s => ∃ w, s = (nI i, nI (plc T L a i), w) ∧ ∀ k, k < i → fig T L (plc T L a k) = true ∧ sepI T L (plc T L a k) = (if k + 1 = c then 59 else 44) ∧ w k = nI (nVal T L (plc T L a k))) (fun r => (endsAt T L a c ∧ ∃ w, r = .inl (nI c, nI (plc T L a c), w) ∧ ∀ k, k < c → w k = nI (nVal T L (plc T L a k))) ∨ (¬ endsAt T L a c ∧ ∃ z w, r = .inr (0, z, w))) c ((0 : Int32), nI a, w0) (by omega) ⟨w0, rfl, fun k hk => absurd hk (by omega)⟩ (by
    rintro i s hi ⟨w, rfl, hk⟩
    by_cases hic : i < c
    · rcases M_step h (hp i (by omega)) hic hc w with ⟨g1, g2, w', g3, g4⟩ | ⟨g1, z, w', g3⟩
      · refine Or.inr ⟨hic, _, g3, w', rfl, fun k hk2 => ?_⟩
        by_cases t : k = i
        · subst t
          refine ⟨g1, g2, ?_⟩
          rw [g4, if_pos rfl]
        · rw [g4, if_neg t]
          exact hk k (by omega)
      · refine Or.inl ⟨_, g3, Or.inr ⟨fun ⟨e1, e2⟩ => g1 ?_, _, _, rfl⟩⟩
        by_cases t : i + 1 = c
        · rw [if_pos t]
          have : c - 1 = i := by omega
          rw [this] at e2
          exact e2
        · rw [if_neg t]
          exact e1 i (by omega)
    · have ec : i = c := by omega
      subst ec
      dsimp only [u3, b_X10_readNumbers_1]
      rw [if_pos (nI_le (Nat.le_refl _) (by omega))]
      refine Or.inl ⟨_, rfl, Or.inl ⟨⟨fun k hk2 => ?_, ?_⟩, w, rfl, fun k hk2 => (hk k hk2).2.2⟩⟩
      · have := hk k (by omega)
        rw [if_neg (by omega)] at this
        exact ⟨this.1, this.2.1⟩
      · have := hk (i - 1) (by omega)
        rw [if_pos (by omega)] at this
        exact ⟨this.1, this.2.1⟩)
  rw [e]
  rcases E with ⟨c3, w, rfl, c4⟩ | ⟨n1, z, w, rfl⟩
  · exact Or.inl ⟨c3, w, rfl, c4⟩
  · exact Or.inr ⟨n1, z, w, rfl⟩
theorem ends_uniq {a c c' : Nat} (hc : 1 ≤ c) (hc' : 1 ≤ c') (h : endsAt T L a c) (h' : endsAt T L a c') : c = c' := by
  obtain ⟨h1, h2⟩ := h
  obtain ⟨g1, g2⟩ := h'
  rcases Nat.lt_trichotomy c c' with t | t | t
  · have := g1 (c - 1) (by omega)
    unfold okN at this
    unfold enN at h2
    omega
  · exact t
  · have := h1 (c' - 1) (by omega)
    unfold okN at this
    unfold enN at g2
    omega
end NV
