/-! plain facts of numbers and loops -/
theorem l0 : (0 : Int32) = nI 0 := rfl
theorem l1 : (1 : Int32) = nI 1 := rfl
theorem l2 : (2 : Int32) = nI 2 := rfl
theorem l3 : (3 : Int32) = nI 3 := rfl
theorem l4 : (4 : Int32) = nI 4 := rfl
theorem l5 : (5 : Int32) = nI 5 := rfl
theorem l6 : (6 : Int32) = nI 6 := rfl
theorem l7 : (7 : Int32) = nI 7 := rfl
theorem l8 : (8 : Int32) = nI 8 := rfl
theorem l9 : (9 : Int32) = nI 9 := rfl
theorem l10 : (10 : Int32) = nI 10 := rfl
theorem l12 : (12 : Int32) = nI 12 := rfl
theorem l20 : (20 : Int32) = nI 20 := rfl
theorem l24 : (24 : Int32) = nI 24 := rfl
theorem l30 : (30 : Int32) = nI 30 := rfl
theorem l31 : (31 : Int32) = nI 31 := rfl
theorem l32 : (32 : Int32) = nI 32 := rfl
theorem l40 : (40 : Int32) = nI 40 := rfl
theorem l47 : (47 : Int32) = nI 47 := rfl
theorem l48 : (48 : Int32) = nI 48 := rfl
theorem l50 : (50 : Int32) = nI 50 := rfl
theorem l52 : (52 : Int32) = nI 52 := rfl
theorem l57 : (57 : Int32) = nI 57 := rfl
theorem l60 : (60 : Int32) = nI 60 := rfl
theorem l72 : (72 : Int32) = nI 72 := rfl
theorem l79 : (79 : Int32) = nI 79 := rfl
theorem l90 : (90 : Int32) = nI 90 := rfl
theorem l98 : (98 : Int32) = nI 98 := rfl
theorem l99 : (99 : Int32) = nI 99 := rfl
theorem l100 : (100 : Int32) = nI 100 := rfl
theorem l103 : (103 : Int32) = nI 103 := rfl
theorem l104 : (104 : Int32) = nI 104 := rfl
theorem l126 : (126 : Int32) = nI 126 := rfl
theorem l200 : (200 : Int32) = nI 200 := rfl
theorem l360 : (360 : Int32) = nI 360 := rfl
theorem l364 : (364 : Int32) = nI 364 := rfl
theorem l416 : (416 : Int32) = nI 416 := rfl
theorem l999 : (999 : Int32) = nI 999 := rfl
theorem l1000 : (1000 : Int32) = nI 1000 := rfl
theorem l1024 : (1024 : Int32) = nI 1024 := rfl
theorem nIlt {a b : Nat} (ha : a < 2147483648) (hb : b < 2147483648) : nI a < nI b ↔ a < b := nI_ltI ha hb
theorem nIle {a b : Nat} (ha : a < 2147483648) (hb : b < 2147483648) : nI a ≤ nI b ↔ a ≤ b := nI_leI ha hb
theorem nIeq {a b : Nat} (ha : a < 2147483648) (hb : b < 2147483648) : nI a = nI b ↔ a = b := nI_eq ha hb
theorem nIsub {a b : Nat} (h : b ≤ a) : nI a - nI b = nI (a - b) := pk_sub h
theorem nIdiv {a d : Nat} (ha : a < 2147483648) (h0 : 0 < d) (hd : d < 2147483648) : nI a / nI d = nI (a / d) := pk_div ha h0 hd
theorem nIrem {a d : Nat} (ha : a < 2147483648) (h0 : 0 < d) (hd : d < 2147483648) : nI a - nI a / nI d * nI d = nI (a % d) := pk_rem ha h0 hd
theorem nIcl {a : Nat} (ha : a < 2147483648) : (nI a).toNatClampNeg = a := nI_clamp ha
theorem nI_inj {a b : Nat} (ha : a < 2147483648) (hb : b < 2147483648) (h : nI a = nI b) : a = b := (nI_eq ha hb).mp h
theorem rd_s {α : Type} {n k : Nat} {f : Nat → α} (h : k < n) (hk : k < 2147483648) : rd n f (nI k) = some (f k) := by
  have h1 : ¬ (nI k < 0 ∨ n ≤ (nI k).toNatClampNeg) := by
    rw [nIcl hk]
    intro q
    rcases q with q | q
    · exact nI_pos hk q
    · omega
  unfold rd
  rw [if_neg h1, nIcl hk]
theorem wr_s {α : Type} {n k : Nat} {f : Nat → α} {x : α} (h : k < n) (hk : k < 2147483648) : wr n f (nI k) x = some (fun j => if j = k then x else f j) := by
  have h1 : ¬ (nI k < 0 ∨ n ≤ (nI k).toNatClampNeg) := by
    rw [nIcl hk]
    intro q
    rcases q with q | q
    · exact nI_pos hk q
    · omega
  unfold wr
  rw [if_neg h1, nIcl hk]
theorem rdp_s {N k : Nat} {p : Nat → Nat} (h : k < N) (hk : k < 2147483648) (hp : p k < N) : rdp N p (nI k) = some (p k) := by
  have h1 : ¬ (nI k < 0 ∨ N ≤ (nI k).toNatClampNeg ∨ N ≤ p (nI k).toNatClampNeg) := by
    rw [nIcl hk]
    intro q
    rcases q with q | q | q
    · exact nI_pos hk q
    · omega
    · omega
  unfold rdp
  rw [if_neg h1, nIcl hk]
theorem wrp_s {N k v : Nat} {p : Nat → Nat} (h : k < N) (hk : k < 2147483648) : wrp N p (nI k) v = some (fun j => if j = k then v else p j) := by
  have h1 : ¬ (nI k < 0 ∨ N ≤ (nI k).toNatClampNeg) := by
    rw [nIcl hk]
    intro q
    rcases q with q | q
    · exact nI_pos hk q
    · omega
  unfold wrp
  rw [if_neg h1, nIcl hk]
theorem acp_s {n0 n1 n : Nat} {f g : Nat → Int32} (h0 : n ≤ n0) (h1 : n ≤ n1) (hn : n < 2147483648) : acp n0 n1 f g 0 0 (nI n) = some (fun j => if j < n then f j else g j) := by
  have z : (0 : Int32).toNatClampNeg = 0 := rfl
  have hc : ¬ (0 : Int32) < 0 ∧ ¬ (0 : Int32) < 0 ∧ ¬ nI n < 0 ∧ (0 : Int32).toNatClampNeg + (nI n).toNatClampNeg ≤ n0 ∧ (0 : Int32).toNatClampNeg + (nI n).toNatClampNeg ≤ n1 := by
    rw [nIcl hn, z]
    exact ⟨by decide, by decide, nI_pos hn, by omega, by omega⟩
  unfold acp
  rw [if_pos hc, nIcl hn, z]
  congr 1
  funext j
  unfold va_cpy
  by_cases q : j < n
  · rw [if_pos ⟨Nat.zero_le _, by omega⟩, if_pos q, Nat.sub_zero, Nat.zero_add]
  · rw [if_neg (fun z => q (by omega)), if_neg q]
/-- any int that lies between two small ones -/
theorem i_of {x : Int32} {a b : Nat} (hb : b < 2147483648) (h1 : nI a ≤ x) (h2 : x ≤ nI b) (ha : a < 2147483648) : ∃ k : Nat, a ≤ k ∧ k ≤ b ∧ x = nI k := by
  have h0 : ¬ x < 0 := by
    intro q
    have := Int32.lt_iff_toInt_lt.mp q
    have h3 := Int32.le_iff_toInt_le.mp h1
    rw [nI_toInt ha] at h3
    simp at this
    omega
  obtain ⟨k, hk, rfl⟩ := nI_of h0
  exact ⟨k, (nIle ha hk).mp h1, (nIle hk hb).mp h2, rfl⟩
theorem i_lt {x y : Int32} (h : ¬ x < y) : y ≤ x := Int32.not_lt.mp h
theorem i_le {x y : Int32} (h : ¬ x ≤ y) : y < x := Int32.not_le.mp h
/-! loops -/
theorem lp_ge {S R : Type} {b : S → Option (S ⊕ R)} : ∀ {n : Nat} {s : S} {r : R}, lp b n s = some r → ∀ k, lp b (n + k) s = some r
  | 0, _, _, h, _ => by cases h
  | n + 1, s, r, h, k => by
    obtain ⟨y, h1, h2⟩ := lp_h h
    rw [show n + 1 + k = (n + k) + 1 by omega, lp, h1]
    cases y with
    | inl s' => exact lp_ge h2 k
    | inr r' => exact h2
/-- a loop by an invariant: each of at most m steps goes on, or comes to an end with P -/
theorem lp_inv {S R : Type} {b : S → Option (S ⊕ R)} (I : Nat → S → Prop) (P : R → Prop) (m : Nat) (hs : ∀ i s, i ≤ m → I i s → (∃ r, b s = some (.inr r) ∧ P r) ∨ (i < m ∧ ∃ s', b s = some (.inl s') ∧ I (i + 1) s')) : ∀ (i : Nat) (s : S), i ≤ m → I i s → ∀ n, m - i < n → ∃ r, lp b n s = some r ∧ P r := by
  intro i s hi hI n hn
  induction n generalizing i s with
  | zero => omega
  | succ n ih =>
    rcases hs i s hi hI with ⟨r, h1, h2⟩ | ⟨hlt, s', h1, h2⟩
    · exact ⟨r, by rw [lp, h1], h2⟩
    · obtain ⟨r, h3, h4⟩ := ih (i + 1) s' (by omega) h2 (by omega)
      exact ⟨r, by rw [lp, h1]; exact h3, h4⟩
theorem lp_FU {S R : Type} {b : S → Option (S ⊕ R)} (I : Nat → S → Prop) (P : R → Prop) (m : Nat) (s : S) (hm : m < 1000000) (h0 : I 0 s) (hs : ∀ i s, i ≤ m → I i s → (∃ r, b s = some (.inr r) ∧ P r) ∨ (i < m ∧ ∃ s', b s = some (.inl s') ∧ I (i + 1) s')) : ∃ r, lp b FU s = some r ∧ P r :=
  lp_inv I P m hs 0 s (Nat.zero_le _) h0 FU (by unfold FU; omega)
/-- a counting loop whose states are known: g 0, g 1, .. g m, then the end r -/
theorem lp_seq {S R : Type} {b : S → Option (S ⊕ R)} (g : Nat → S) (m : Nat) (r : R) (hm : m < 1000000) (hs : ∀ i, i < m → b (g i) = some (.inl (g (i + 1)))) (he : b (g m) = some (.inr r)) : lp b FU (g 0) = some r := by
  obtain ⟨r', h1, h2⟩ := lp_FU (b := b) (fun i s => s = g i) (fun z => z = r) m (g 0) hm rfl (fun i s hi h => by
    subst h
    by_cases q : i < m
    · exact Or.inr ⟨q, _, hs i q, rfl⟩
    · have : i = m := by omega
      subst this
      exact Or.inl ⟨r, he, rfl⟩)
  rw [h1, h2]
theorem bndE_inl {S Q T : Type} (s : S) (k : S → Option T) (j : Q → Option T) : bndE (some (.inl s)) k j = k s := rfl
theorem bndE_inr {S Q T : Type} (q : Q) (k : S → Option T) (j : Q → Option T) : bndE (some (.inr q)) k j = j q := rfl
