/-! a boolean that a loop carries stays 0 or 1 -/
theorem lp_pres {S R : Type} {b : S → Option (S ⊕ R)} (I : S → Prop) (P : R → Prop) (hn : ∀ s s', I s → b s = some (.inl s') → I s') (he : ∀ s r, I s → b s = some (.inr r) → P r) : ∀ (n : Nat) (s : S) (r : R), I s → lp b n s = some r → P r
  | 0, _, _, _, h => by cases h
  | n + 1, s, r, hI, h => by
    obtain ⟨y, h1, h2⟩ := lp_h h
    cases y with
    | inl s' => exact lp_pres I P hn he n s' r (hn s s' hI h1) h2
    | inr r' =>
      cases h2
      exact he s _ hI h1
theorem bz_step {block x1 : Int32} {knot : Nat → Int32} {j k : Int32} {y : (Int32 × Int32) ⊕ (Int32 × Int32)} (hj : j = 0 ∨ j = 1) (h : b_X10_isClear_1 block knot x1 j k = some y) : (∀ s, y = .inl s → s.1 = 0 ∨ s.1 = 1) ∧ ∀ s, y = .inr s → s.1 = 0 ∨ s.1 = 1 := by
  unfold b_X10_isClear_1 at h
  split at h
  · cases h
    exact ⟨fun s e => (by cases e), fun s e => by cases e; exact hj⟩
  · split at h
    · cases h
      exact ⟨fun s e => (by cases e; exact Or.inl rfl), fun s e => by cases e⟩
    · split at h
      · obtain ⟨v, -, h⟩ := bnd_h h
        split at h
        · cases h
          exact ⟨fun s e => (by cases e; exact Or.inr rfl), fun s e => by cases e⟩
        · cases h
          exact ⟨fun s e => (by cases e; exact Or.inl rfl), fun s e => by cases e⟩
      · obtain ⟨v, -, h⟩ := bnd_h h
        split at h
        · cases h
          exact ⟨fun s e => (by cases e; exact Or.inr rfl), fun s e => by cases e⟩
        · cases h
          exact ⟨fun s e => (by cases e; exact Or.inl rfl), fun s e => by cases e⟩
theorem bz_X10_isClear {x1 log_ block : Int32} {knot : Nat → Int32} {r : Int32} (h : f_X10_isClear x1 log_ block knot = some r) : narrow .boolean (.int r) = .int r := by
  have key : r = 0 ∨ r = 1 := by
    unfold f_X10_isClear at h
    split at h
    · obtain ⟨⟨j, k⟩, h1, h⟩ := bnd_h h
      cases h
      exact lp_pres (b := u2 (b_X10_isClear_1 block knot x1)) (fun s => s.1 = 0 ∨ s.1 = 1) (fun s => s.1 = 0 ∨ s.1 = 1) (fun s s' hI h => (bz_step hI h).1 _ rfl) (fun s s' hI h => (bz_step hI h).2 _ rfl) FU (0, 0) (j, k) (Or.inl rfl) h1
    · obtain ⟨⟨j, k⟩, h1, h⟩ := bnd_h h
      cases h
      exact lp_pres (b := u2 (b_X10_isClear_1 block knot x1)) (fun s => s.1 = 0 ∨ s.1 = 1) (fun s => s.1 = 0 ∨ s.1 = 1) (fun s s' hI h => (bz_step hI h).1 _ rfl) (fun s s' hI h => (bz_step hI h).2 _ rfl) FU (1, 0) (j, k) (Or.inr rfl) h1
  rcases key with rfl | rfl <;> rfl
