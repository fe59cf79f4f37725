/-! shelves one upon the other -/
def XPil (N : Nat) (pp : Nat → Nat) (CC : Nat → Nat → Int32) (CK CY : Nat → Int32) (a : Nat) (sn sd : Nat → Nat) (sv : Nat → Nat → Nat → Nat) : Prop := (∀ j, j < N → pp j < N) ∧ (∀ i j, i < N → j < N → pp i = pp j → i = j) ∧ ∀ j, j < a → CK (pp j) = nI (sn j) ∧ CY (pp j) = nI (sd j) ∧ XC (CC (pp j)) (sn j) (sv j)
def MPil (was : Nat → Int32) (a : Nat) (sn sd : Nat → Nat) (sv : Nat → Nat → Nat → Nat) : Prop := ∀ j, j < a → MN (fun k => was (52 * j + k)) (sn j) (sd j) (sv j)
def okP (a : Nat) (sn sd : Nat → Nat) (sv : Nat → Nat → Nat → Nat) : Prop := ∀ j, j < a → okS (sn j) (sd j) (sv j)
def psh {α : Type} (N a : Nat) (s : Nat → α) (x : α) : Nat → α := fun j => if a < N then (if j = a then x else s j) else (if j = N - 1 then x else s (j + 1))
def pshN (N a : Nat) : Nat := if a < N then a + 1 else N
theorem okP_psh {N a n d : Nat} {sn sd : Nat → Nat} {sv : Nat → Nat → Nat → Nat} {v : Nat → Nat → Nat} (hN : 0 < N) (ha : a ≤ N) (h : okP a sn sd sv) (hs : okS n d v) : okP (pshN N a) (psh N a sn n) (psh N a sd d) (psh N a sv v) := by
  intro j hj
  unfold pshN at hj
  unfold psh
  by_cases q : a < N
  · rw [if_pos q] at hj
    rw [if_pos q, if_pos q, if_pos q]
    by_cases z : j = a
    · rw [if_pos z, if_pos z, if_pos z]; exact hs
    · rw [if_neg z, if_neg z, if_neg z]; exact h j (by omega)
  · rw [if_neg q] at hj
    rw [if_neg q, if_neg q, if_neg q]
    by_cases z : j = N - 1
    · rw [if_pos z, if_pos z, if_pos z]; exact hs
    · rw [if_neg z, if_neg z, if_neg z]; exact h (j + 1) (by omega)
section P1
variable {pp : Nat → Nat} {CC : Nat → Nat → Int32} {CK CY : Nat → Int32} {a n d : Nat} {sn sd : Nat → Nat} {sv : Nat → Nat → Nat → Nat} {c : Nat → Int32} {v : Nat → Nat → Nat}
theorem pil_top {N : Nat} {c' : Nat → Int32} (h : XPil N pp CC CK CY a sn sd sv) (ha : a < N) (hc : XC c' n v) : XPil N pp (va_up CC (pp a) c') (va_up CK (pp a) (nI n)) (va_up CY (pp a) (nI d)) (a + 1) (psh N a sn n) (psh N a sd d) (psh N a sv v) := by
  obtain ⟨h1, h2, h3⟩ := h
  refine ⟨h1, h2, fun j hj => ?_⟩
  unfold va_up psh
  by_cases z : j = a
  · subst z
    simp only [if_true, if_pos ha]
    exact ⟨trivial, trivial, hc⟩
  · have z2 : ¬ pp j = pp a := fun e => z (h2 j a (by omega) ha e)
    rw [if_neg z2, if_neg z2, if_neg z2, if_pos ha, if_pos ha, if_pos ha, if_neg z, if_neg z, if_neg z]
    exact h3 j (by omega)
theorem pil_rot {N : Nat} {p' : Nat → Nat} (h : XPil N pp CC CK CY N sn sd sv) (hN : 0 < N) (hp : ∀ j, j < N → p' j = if j = N - 1 then pp 0 else pp (j + 1)) : XPil N p' CC CK CY (N - 1) (fun j => sn (j + 1)) (fun j => sd (j + 1)) (fun j => sv (j + 1)) := by
  obtain ⟨h1, h2, h3⟩ := h
  refine ⟨fun j hj => ?_, fun i j hi hj e => ?_, fun j hj => ?_⟩
  · rw [hp j hj]
    split
    · exact h1 0 hN
    · exact h1 _ (by omega)
  · rw [hp i hi, hp j hj] at e
    by_cases z1 : i = N - 1 <;> by_cases z2 : j = N - 1
    · omega
    · rw [if_pos z1, if_neg z2] at e
      have := h2 0 (j + 1) hN (by omega) e
      omega
    · rw [if_neg z1, if_pos z2] at e
      have := h2 (i + 1) 0 (by omega) hN e
      omega
    · rw [if_neg z1, if_neg z2] at e
      have := h2 (i + 1) (j + 1) (by omega) (by omega) e
      omega
  · rw [hp j (by omega), if_neg (by omega)]
    exact h3 (j + 1) (by omega)
theorem X2_drop_8 (hb : ∀ j, j < 8 → pp j < 8) : ∃ p', f_X2_dropLowest_8 (nI 8) pp = some (p', nI (8 - 1)) ∧ ∀ j, j < 8 → p' j = if j = 8 - 1 then pp 0 else pp (j + 1) := by
  obtain ⟨r, h1, h2⟩ := lp_FU (b := u2 b_X2_dropLowest_8_1) (fun t s => s.1 = nI (1 + t) ∧ ∀ j, s.2 j = if j < t then pp (j + 1) else pp j) (fun r => ∀ j, r.2 j = if j < 8 - 1 then pp (j + 1) else pp j) (8 - 1) (nI 1, pp) (by omega) ⟨rfl, fun j => by rw [if_neg (by omega)]⟩ (by
    intro t s ht ⟨e1, e2⟩
    obtain ⟨x, f⟩ := s
    dsimp only at e1 e2
    subst e1
    show (∃ r, b_X2_dropLowest_8_1 (nI (1 + t)) f = some (.inr r) ∧ _) ∨ (_ ∧ ∃ s', b_X2_dropLowest_8_1 (nI (1 + t)) f = some (.inl s') ∧ _)
    have e3 : f (1 + t) = pp (1 + t) := by rw [e2, if_neg (by omega)]
    unfold b_X2_dropLowest_8_1
    by_cases q : t < 8 - 1
    · refine Or.inr ⟨q, ?_⟩
      rw [show (8 : Int32) = nI 8 from rfl, if_neg (nI_ge (by omega) (by omega)), rdp_s (by omega) (by omega) (by rw [e3]; exact hb _ (by omega)), bnd_some, l1, nIsub (by omega), wrp_s (by omega) (by omega), bnd_some, nI_add]
      refine ⟨_, rfl, rfl, fun j => ?_⟩
      try dsimp only
      by_cases z : j = 1 + t - 1
      · rw [if_pos z, if_pos (by omega), e3]
        congr 1; omega
      · rw [if_neg z, e2]
        by_cases z2 : j < t
        · rw [if_pos z2, if_pos (by omega)]
        · rw [if_neg z2, if_neg (by omega)]
    · have : t = 8 - 1 := by omega
      subst this
      refine Or.inl ?_
      rw [show (8 : Int32) = nI 8 from rfl, if_pos (nI_le (by omega) (by omega))]
      exact ⟨_, rfl, e2⟩)
  obtain ⟨x, f⟩ := r
  dsimp only at h2
  unfold f_X2_dropLowest_8
  rw [l0, rdp_s (by omega) (by omega) (hb 0 (by omega)), bnd_some, l1, h1, bnd_some]
  dsimp only [u2]
  rw [show (8 : Int32) = nI 8 from rfl, nIsub (by omega), wrp_s (by omega) (by omega), bnd_some]
  refine ⟨_, rfl, fun j hj => ?_⟩
  by_cases z : j = 8 - 1
  · rw [if_pos z, if_pos z]
  · rw [if_neg z, if_neg z, h2, if_pos (by omega)]
theorem X2_full_8 (ha : a ≤ 8) : f_X2_isFull_8 (nI a) = some (nI (if a < 8 then 0 else 1)) := by
  unfold f_X2_isFull_8
  by_cases q : a < 8
  · rw [if_pos (show nI a < (8 : Int32) from nI_lt (b := 8) q (by omega)), if_pos q]; rfl
  · rw [if_neg (show ¬ nI a < (8 : Int32) from fun z => q ((nIlt (b := 8) (by omega) (by omega)).mp z)), if_neg q]; rfl
theorem X2_push_8 (h : XPil 8 pp CC CK CY a sn sd sv) (ha : a ≤ 8) (hc : XC c n v) (hn : n ≤ 10) : ∃ p' C' K' Y', f_X2_push_8 (nI a) pp CC CK CY (nI n) (nI d) c = some (p', C', K', Y', nI (pshN 8 a)) ∧ XPil 8 p' C' K' Y' (pshN 8 a) (psh 8 a sn n) (psh 8 a sd d) (psh 8 a sv v) := by
  unfold f_X2_push_8
  rw [X2_full_8 ha]
  by_cases q : a < 8
  · obtain ⟨c', a1, a2⟩ := X4_copy_s (d := d) (CC (pp a)) hc hn
    rw [if_pos q, bnd_some, if_pos (show nI 0 = (0 : Int32) from rfl), if_neg (show ¬ nI a < (0 : Int32) from nI_pos (by omega)), if_neg (show ¬ (8 : Int32) ≤ nI a from nI_ge (b := 8) q (by omega)), rdp_s (by omega) (by omega) (h.1 a q)]
    simp only [bnd_some]
    rw [a1, bnd_some]
    unfold pshN
    rw [if_pos q, l1, nI_add]
    exact ⟨_, _, _, _, rfl, pil_top h q a2⟩
  · have e : a = 8 := by omega
    subst e
    obtain ⟨p', b1, b2⟩ := X2_drop_8 (pp := pp) h.1
    have h4 := pil_rot h (by omega) b2
    obtain ⟨c', a1, a2⟩ := X4_copy_s (d := d) (CC (p' (8 - 1))) hc hn
    rw [if_neg q, bnd_some, if_neg (show ¬ nI 1 = (0 : Int32) from by decide), b1, bnd_some]
    dsimp only [u2]
    rw [if_neg (show ¬ nI (8 - 1) < (0 : Int32) from nI_pos (by omega)), if_neg (show ¬ (8 : Int32) ≤ nI (8 - 1) from nI_ge (b := 8) (by omega) (by omega)), rdp_s (by omega) (by omega) (h4.1 _ (by omega))]
    simp only [bnd_some]
    rw [a1, bnd_some]
    have h5 := pil_top (n := n) (d := d) h4 (by omega) a2
    rw [l1, nI_add]
    refine ⟨_, _, _, _, rfl, ?_⟩
    obtain ⟨g1, g2, g3⟩ := h5
    refine ⟨g1, g2, fun j hj => ?_⟩
    have g := g3 j (by unfold pshN at hj; simpa using hj)
    unfold psh at g ⊢
    simpa using g
theorem X2_pop_8 (h : XPil 8 pp CC CK CY a sn sd sv) (ha : a ≤ 8) (h0 : 0 < a) (hn : sn (a - 1) ≤ 10) (k y : Int32) : ∃ c', f_X2_popInto_8 (nI a) pp CC CK CY k y c = some (1, nI (a - 1), c', nI (sn (a - 1)), nI (sd (a - 1))) ∧ XC c' (sn (a - 1)) (sv (a - 1)) := by
  obtain ⟨h1, h2, h3⟩ := h
  obtain ⟨e1, e2, e3⟩ := h3 (a - 1) (by omega)
  obtain ⟨c', a1, a2⟩ := X4_copy_s (d := sd (a - 1)) c e3 hn
  unfold f_X2_popInto_8
  rw [if_neg (show ¬ nI a ≤ (0 : Int32) from nI_nle h0 (by omega)), if_pos (show nI a ≤ (8 : Int32) from nI_le (b := 8) ha (by omega)), l1, nIsub (by omega), rdp_s (by omega) (by omega) (h1 _ (by omega)), bnd_some, e1, e2, a1, bnd_some]
  exact ⟨c', rfl, a2⟩
theorem X2_pop0_8 (k y : Int32) : f_X2_popInto_8 (nI 0) pp CC CK CY k y c = some (0, nI 0, c, k, y) := by
  unfold f_X2_popInto_8
  rw [if_pos (show nI 0 ≤ (0 : Int32) from nI_le (a := 0) (b := 0) (Nat.le_refl _) (by omega))]
  try rfl
theorem X2_drop_2 (hb : ∀ j, j < 2 → pp j < 2) : ∃ p', f_X2_dropLowest_2 (nI 2) pp = some (p', nI (2 - 1)) ∧ ∀ j, j < 2 → p' j = if j = 2 - 1 then pp 0 else pp (j + 1) := by
  obtain ⟨r, h1, h2⟩ := lp_FU (b := u2 b_X2_dropLowest_2_1) (fun t s => s.1 = nI (1 + t) ∧ ∀ j, s.2 j = if j < t then pp (j + 1) else pp j) (fun r => ∀ j, r.2 j = if j < 2 - 1 then pp (j + 1) else pp j) (2 - 1) (nI 1, pp) (by omega) ⟨rfl, fun j => by rw [if_neg (by omega)]⟩ (by
    intro t s ht ⟨e1, e2⟩
    obtain ⟨x, f⟩ := s
    dsimp only at e1 e2
    subst e1
    show (∃ r, b_X2_dropLowest_2_1 (nI (1 + t)) f = some (.inr r) ∧ _) ∨ (_ ∧ ∃ s', b_X2_dropLowest_2_1 (nI (1 + t)) f = some (.inl s') ∧ _)
    have e3 : f (1 + t) = pp (1 + t) := by rw [e2, if_neg (by omega)]
    unfold b_X2_dropLowest_2_1
    by_cases q : t < 2 - 1
    · refine Or.inr ⟨q, ?_⟩
      rw [show (2 : Int32) = nI 2 from rfl, if_neg (nI_ge (by omega) (by omega)), rdp_s (by omega) (by omega) (by rw [e3]; exact hb _ (by omega)), bnd_some, l1, nIsub (by omega), wrp_s (by omega) (by omega), bnd_some, nI_add]
      refine ⟨_, rfl, rfl, fun j => ?_⟩
      try dsimp only
      by_cases z : j = 1 + t - 1
      · rw [if_pos z, if_pos (by omega), e3]
        congr 1; omega
      · rw [if_neg z, e2]
        by_cases z2 : j < t
        · rw [if_pos z2, if_pos (by omega)]
        · rw [if_neg z2, if_neg (by omega)]
    · have : t = 2 - 1 := by omega
      subst this
      refine Or.inl ?_
      rw [show (2 : Int32) = nI 2 from rfl, if_pos (nI_le (by omega) (by omega))]
      exact ⟨_, rfl, e2⟩)
  obtain ⟨x, f⟩ := r
  dsimp only at h2
  unfold f_X2_dropLowest_2
  rw [l0, rdp_s (by omega) (by omega) (hb 0 (by omega)), bnd_some, l1, h1, bnd_some]
  dsimp only [u2]
  rw [show (2 : Int32) = nI 2 from rfl, nIsub (by omega), wrp_s (by omega) (by omega), bnd_some]
  refine ⟨_, rfl, fun j hj => ?_⟩
  by_cases z : j = 2 - 1
  · rw [if_pos z, if_pos z]
  · rw [if_neg z, if_neg z, h2, if_pos (by omega)]
theorem X2_full_2 (ha : a ≤ 2) : f_X2_isFull_2 (nI a) = some (nI (if a < 2 then 0 else 1)) := by
  unfold f_X2_isFull_2
  by_cases q : a < 2
  · rw [if_pos (show nI a < (2 : Int32) from nI_lt (b := 2) q (by omega)), if_pos q]; rfl
  · rw [if_neg (show ¬ nI a < (2 : Int32) from fun z => q ((nIlt (b := 2) (by omega) (by omega)).mp z)), if_neg q]; rfl
theorem X2_push_2 (h : XPil 2 pp CC CK CY a sn sd sv) (ha : a ≤ 2) (hc : XC c n v) (hn : n ≤ 10) : ∃ p' C' K' Y', f_X2_push_2 (nI a) pp CC CK CY (nI n) (nI d) c = some (p', C', K', Y', nI (pshN 2 a)) ∧ XPil 2 p' C' K' Y' (pshN 2 a) (psh 2 a sn n) (psh 2 a sd d) (psh 2 a sv v) := by
  unfold f_X2_push_2
  rw [X2_full_2 ha]
  by_cases q : a < 2
  · obtain ⟨c', a1, a2⟩ := X4_copy_s (d := d) (CC (pp a)) hc hn
    rw [if_pos q, bnd_some, if_pos (show nI 0 = (0 : Int32) from rfl), if_neg (show ¬ nI a < (0 : Int32) from nI_pos (by omega)), if_neg (show ¬ (2 : Int32) ≤ nI a from nI_ge (b := 2) q (by omega)), rdp_s (by omega) (by omega) (h.1 a q)]
    simp only [bnd_some]
    rw [a1, bnd_some]
    unfold pshN
    rw [if_pos q, l1, nI_add]
    exact ⟨_, _, _, _, rfl, pil_top h q a2⟩
  · have e : a = 2 := by omega
    subst e
    obtain ⟨p', b1, b2⟩ := X2_drop_2 (pp := pp) h.1
    have h4 := pil_rot h (by omega) b2
    obtain ⟨c', a1, a2⟩ := X4_copy_s (d := d) (CC (p' (2 - 1))) hc hn
    rw [if_neg q, bnd_some, if_neg (show ¬ nI 1 = (0 : Int32) from by decide), b1, bnd_some]
    dsimp only [u2]
    rw [if_neg (show ¬ nI (2 - 1) < (0 : Int32) from nI_pos (by omega)), if_neg (show ¬ (2 : Int32) ≤ nI (2 - 1) from nI_ge (b := 2) (by omega) (by omega)), rdp_s (by omega) (by omega) (h4.1 _ (by omega))]
    simp only [bnd_some]
    rw [a1, bnd_some]
    have h5 := pil_top (n := n) (d := d) h4 (by omega) a2
    rw [l1, nI_add]
    refine ⟨_, _, _, _, rfl, ?_⟩
    obtain ⟨g1, g2, g3⟩ := h5
    refine ⟨g1, g2, fun j hj => ?_⟩
    have g := g3 j (by unfold pshN at hj; simpa using hj)
    unfold psh at g ⊢
    simpa using g
theorem X2_pop_2 (h : XPil 2 pp CC CK CY a sn sd sv) (ha : a ≤ 2) (h0 : 0 < a) (hn : sn (a - 1) ≤ 10) (k y : Int32) : ∃ c', f_X2_popInto_2 (nI a) pp CC CK CY k y c = some (1, nI (a - 1), c', nI (sn (a - 1)), nI (sd (a - 1))) ∧ XC c' (sn (a - 1)) (sv (a - 1)) := by
  obtain ⟨h1, h2, h3⟩ := h
  obtain ⟨e1, e2, e3⟩ := h3 (a - 1) (by omega)
  obtain ⟨c', a1, a2⟩ := X4_copy_s (d := sd (a - 1)) c e3 hn
  unfold f_X2_popInto_2
  rw [if_neg (show ¬ nI a ≤ (0 : Int32) from nI_nle h0 (by omega)), if_pos (show nI a ≤ (2 : Int32) from nI_le (b := 2) ha (by omega)), l1, nIsub (by omega), rdp_s (by omega) (by omega) (h1 _ (by omega)), bnd_some, e1, e2, a1, bnd_some]
  exact ⟨c', rfl, a2⟩
theorem X2_pop0_2 (k y : Int32) : f_X2_popInto_2 (nI 0) pp CC CK CY k y c = some (0, nI 0, c, k, y) := by
  unfold f_X2_popInto_2
  rw [if_pos (show nI 0 ≤ (0 : Int32) from nI_le (a := 0) (b := 0) (Nat.le_refl _) (by omega))]
  try rfl
end P1
