/-! own base: partial functions as the picture of a method, and short rows over the kit's -/
def bnd {α β : Type} (o : Option α) (k : α → Option β) : Option β := match o with
  | none => none
  | some a => k a
theorem bnd_h {α β : Type} {o : Option α} {k : α → Option β} {u : β} (h : bnd o k = some u) : ∃ a, o = some a ∧ k a = some u := by
  cases o with
  | none => cases h
  | some a => exact ⟨a, rfl, h⟩
theorem bnd_some {α β : Type} (a : α) (k : α → Option β) : bnd (some a) k = k a := rfl
theorem bnd_none {α β : Type} (k : α → Option β) : bnd none k = none := rfl
abbrev u2 {A1 A2 R : Type} (k : A1 → A2 → R) (q : A1 × A2) : R := k q.1 q.2
abbrev u3 {A1 A2 A3 R : Type} (k : A1 → A2 → A3 → R) (q : A1 × A2 × A3) : R := k q.1 q.2.1 q.2.2
abbrev u4 {A1 A2 A3 A4 R : Type} (k : A1 → A2 → A3 → A4 → R) (q : A1 × A2 × A3 × A4) : R := k q.1 q.2.1 q.2.2.1 q.2.2.2
abbrev u5 {A1 A2 A3 A4 A5 R : Type} (k : A1 → A2 → A3 → A4 → A5 → R) (q : A1 × A2 × A3 × A4 × A5) : R := k q.1 q.2.1 q.2.2.1 q.2.2.2.1 q.2.2.2.2
abbrev u6 {A1 A2 A3 A4 A5 A6 R : Type} (k : A1 → A2 → A3 → A4 → A5 → A6 → R) (q : A1 × A2 × A3 × A4 × A5 × A6) : R := k q.1 q.2.1 q.2.2.1 q.2.2.2.1 q.2.2.2.2.1 q.2.2.2.2.2
abbrev u7 {A1 A2 A3 A4 A5 A6 A7 R : Type} (k : A1 → A2 → A3 → A4 → A5 → A6 → A7 → R) (q : A1 × A2 × A3 × A4 × A5 × A6 × A7) : R := k q.1 q.2.1 q.2.2.1 q.2.2.2.1 q.2.2.2.2.1 q.2.2.2.2.2.1 q.2.2.2.2.2.2
abbrev u8 {A1 A2 A3 A4 A5 A6 A7 A8 R : Type} (k : A1 → A2 → A3 → A4 → A5 → A6 → A7 → A8 → R) (q : A1 × A2 × A3 × A4 × A5 × A6 × A7 × A8) : R := k q.1 q.2.1 q.2.2.1 q.2.2.2.1 q.2.2.2.2.1 q.2.2.2.2.2.1 q.2.2.2.2.2.2.1 q.2.2.2.2.2.2.2
abbrev u9 {A1 A2 A3 A4 A5 A6 A7 A8 A9 R : Type} (k : A1 → A2 → A3 → A4 → A5 → A6 → A7 → A8 → A9 → R) (q : A1 × A2 × A3 × A4 × A5 × A6 × A7 × A8 × A9) : R := k q.1 q.2.1 q.2.2.1 q.2.2.2.1 q.2.2.2.2.1 q.2.2.2.2.2.1 q.2.2.2.2.2.2.1 q.2.2.2.2.2.2.2.1 q.2.2.2.2.2.2.2.2
abbrev u10 {A1 A2 A3 A4 A5 A6 A7 A8 A9 A10 R : Type} (k : A1 → A2 → A3 → A4 → A5 → A6 → A7 → A8 → A9 → A10 → R) (q : A1 × A2 × A3 × A4 × A5 × A6 × A7 × A8 × A9 × A10) : R := k q.1 q.2.1 q.2.2.1 q.2.2.2.1 q.2.2.2.2.1 q.2.2.2.2.2.1 q.2.2.2.2.2.2.1 q.2.2.2.2.2.2.2.1 q.2.2.2.2.2.2.2.2.1 q.2.2.2.2.2.2.2.2.2
abbrev u11 {A1 A2 A3 A4 A5 A6 A7 A8 A9 A10 A11 R : Type} (k : A1 → A2 → A3 → A4 → A5 → A6 → A7 → A8 → A9 → A10 → A11 → R) (q : A1 × A2 × A3 × A4 × A5 × A6 × A7 × A8 × A9 × A10 × A11) : R := k q.1 q.2.1 q.2.2.1 q.2.2.2.1 q.2.2.2.2.1 q.2.2.2.2.2.1 q.2.2.2.2.2.2.1 q.2.2.2.2.2.2.2.1 q.2.2.2.2.2.2.2.2.1 q.2.2.2.2.2.2.2.2.2.1 q.2.2.2.2.2.2.2.2.2.2
abbrev u12 {A1 A2 A3 A4 A5 A6 A7 A8 A9 A10 A11 A12 R : Type} (k : A1 → A2 → A3 → A4 → A5 → A6 → A7 → A8 → A9 → A10 → A11 → A12 → R) (q : A1 × A2 × A3 × A4 × A5 × A6 × A7 × A8 × A9 × A10 × A11 × A12) : R := k q.1 q.2.1 q.2.2.1 q.2.2.2.1 q.2.2.2.2.1 q.2.2.2.2.2.1 q.2.2.2.2.2.2.1 q.2.2.2.2.2.2.2.1 q.2.2.2.2.2.2.2.2.1 q.2.2.2.2.2.2.2.2.2.1 q.2.2.2.2.2.2.2.2.2.2.1 q.2.2.2.2.2.2.2.2.2.2.2
abbrev u13 {A1 A2 A3 A4 A5 A6 A7 A8 A9 A10 A11 A12 A13 R : Type} (k : A1 → A2 → A3 → A4 → A5 → A6 → A7 → A8 → A9 → A10 → A11 → A12 → A13 → R) (q : A1 × A2 × A3 × A4 × A5 × A6 × A7 × A8 × A9 × A10 × A11 × A12 × A13) : R := k q.1 q.2.1 q.2.2.1 q.2.2.2.1 q.2.2.2.2.1 q.2.2.2.2.2.1 q.2.2.2.2.2.2.1 q.2.2.2.2.2.2.2.1 q.2.2.2.2.2.2.2.2.1 q.2.2.2.2.2.2.2.2.2.1 q.2.2.2.2.2.2.2.2.2.2.1 q.2.2.2.2.2.2.2.2.2.2.2.1 q.2.2.2.2.2.2.2.2.2.2.2.2
abbrev u14 {A1 A2 A3 A4 A5 A6 A7 A8 A9 A10 A11 A12 A13 A14 R : Type} (k : A1 → A2 → A3 → A4 → A5 → A6 → A7 → A8 → A9 → A10 → A11 → A12 → A13 → A14 → R) (q : A1 × A2 × A3 × A4 × A5 × A6 × A7 × A8 × A9 × A10 × A11 × A12 × A13 × A14) : R := k q.1 q.2.1 q.2.2.1 q.2.2.2.1 q.2.2.2.2.1 q.2.2.2.2.2.1 q.2.2.2.2.2.2.1 q.2.2.2.2.2.2.2.1 q.2.2.2.2.2.2.2.2.1 q.2.2.2.2.2.2.2.2.2.1 q.2.2.2.2.2.2.2.2.2.2.1 q.2.2.2.2.2.2.2.2.2.2.2.1 q.2.2.2.2.2.2.2.2.2.2.2.2.1 q.2.2.2.2.2.2.2.2.2.2.2.2.2
abbrev u15 {A1 A2 A3 A4 A5 A6 A7 A8 A9 A10 A11 A12 A13 A14 A15 R : Type} (k : A1 → A2 → A3 → A4 → A5 → A6 → A7 → A8 → A9 → A10 → A11 → A12 → A13 → A14 → A15 → R) (q : A1 × A2 × A3 × A4 × A5 × A6 × A7 × A8 × A9 × A10 × A11 × A12 × A13 × A14 × A15) : R := k q.1 q.2.1 q.2.2.1 q.2.2.2.1 q.2.2.2.2.1 q.2.2.2.2.2.1 q.2.2.2.2.2.2.1 q.2.2.2.2.2.2.2.1 q.2.2.2.2.2.2.2.2.1 q.2.2.2.2.2.2.2.2.2.1 q.2.2.2.2.2.2.2.2.2.2.1 q.2.2.2.2.2.2.2.2.2.2.2.1 q.2.2.2.2.2.2.2.2.2.2.2.2.1 q.2.2.2.2.2.2.2.2.2.2.2.2.2.1 q.2.2.2.2.2.2.2.2.2.2.2.2.2.2
abbrev u16 {A1 A2 A3 A4 A5 A6 A7 A8 A9 A10 A11 A12 A13 A14 A15 A16 R : Type} (k : A1 → A2 → A3 → A4 → A5 → A6 → A7 → A8 → A9 → A10 → A11 → A12 → A13 → A14 → A15 → A16 → R) (q : A1 × A2 × A3 × A4 × A5 × A6 × A7 × A8 × A9 × A10 × A11 × A12 × A13 × A14 × A15 × A16) : R := k q.1 q.2.1 q.2.2.1 q.2.2.2.1 q.2.2.2.2.1 q.2.2.2.2.2.1 q.2.2.2.2.2.2.1 q.2.2.2.2.2.2.2.1 q.2.2.2.2.2.2.2.2.1 q.2.2.2.2.2.2.2.2.2.1 q.2.2.2.2.2.2.2.2.2.2.1 q.2.2.2.2.2.2.2.2.2.2.2.1 q.2.2.2.2.2.2.2.2.2.2.2.2.1 q.2.2.2.2.2.2.2.2.2.2.2.2.2.1 q.2.2.2.2.2.2.2.2.2.2.2.2.2.2.1 q.2.2.2.2.2.2.2.2.2.2.2.2.2.2.2
abbrev u17 {A1 A2 A3 A4 A5 A6 A7 A8 A9 A10 A11 A12 A13 A14 A15 A16 A17 R : Type} (k : A1 → A2 → A3 → A4 → A5 → A6 → A7 → A8 → A9 → A10 → A11 → A12 → A13 → A14 → A15 → A16 → A17 → R) (q : A1 × A2 × A3 × A4 × A5 × A6 × A7 × A8 × A9 × A10 × A11 × A12 × A13 × A14 × A15 × A16 × A17) : R := k q.1 q.2.1 q.2.2.1 q.2.2.2.1 q.2.2.2.2.1 q.2.2.2.2.2.1 q.2.2.2.2.2.2.1 q.2.2.2.2.2.2.2.1 q.2.2.2.2.2.2.2.2.1 q.2.2.2.2.2.2.2.2.2.1 q.2.2.2.2.2.2.2.2.2.2.1 q.2.2.2.2.2.2.2.2.2.2.2.1 q.2.2.2.2.2.2.2.2.2.2.2.2.1 q.2.2.2.2.2.2.2.2.2.2.2.2.2.1 q.2.2.2.2.2.2.2.2.2.2.2.2.2.2.1 q.2.2.2.2.2.2.2.2.2.2.2.2.2.2.2.1 q.2.2.2.2.2.2.2.2.2.2.2.2.2.2.2.2
abbrev u18 {A1 A2 A3 A4 A5 A6 A7 A8 A9 A10 A11 A12 A13 A14 A15 A16 A17 A18 R : Type} (k : A1 → A2 → A3 → A4 → A5 → A6 → A7 → A8 → A9 → A10 → A11 → A12 → A13 → A14 → A15 → A16 → A17 → A18 → R) (q : A1 × A2 × A3 × A4 × A5 × A6 × A7 × A8 × A9 × A10 × A11 × A12 × A13 × A14 × A15 × A16 × A17 × A18) : R := k q.1 q.2.1 q.2.2.1 q.2.2.2.1 q.2.2.2.2.1 q.2.2.2.2.2.1 q.2.2.2.2.2.2.1 q.2.2.2.2.2.2.2.1 q.2.2.2.2.2.2.2.2.1 q.2.2.2.2.2.2.2.2.2.1 q.2.2.2.2.2.2.2.2.2.2.1 q.2.2.2.2.2.2.2.2.2.2.2.1 q.2.2.2.2.2.2.2.2.2.2.2.2.1 q.2.2.2.2.2.2.2.2.2.2.2.2.2.1 q.2.2.2.2.2.2.2.2.2.2.2.2.2.2.1 q.2.2.2.2.2.2.2.2.2.2.2.2.2.2.2.1 q.2.2.2.2.2.2.2.2.2.2.2.2.2.2.2.2.1 q.2.2.2.2.2.2.2.2.2.2.2.2.2.2.2.2.2
abbrev u19 {A1 A2 A3 A4 A5 A6 A7 A8 A9 A10 A11 A12 A13 A14 A15 A16 A17 A18 A19 R : Type} (k : A1 → A2 → A3 → A4 → A5 → A6 → A7 → A8 → A9 → A10 → A11 → A12 → A13 → A14 → A15 → A16 → A17 → A18 → A19 → R) (q : A1 × A2 × A3 × A4 × A5 × A6 × A7 × A8 × A9 × A10 × A11 × A12 × A13 × A14 × A15 × A16 × A17 × A18 × A19) : R := k q.1 q.2.1 q.2.2.1 q.2.2.2.1 q.2.2.2.2.1 q.2.2.2.2.2.1 q.2.2.2.2.2.2.1 q.2.2.2.2.2.2.2.1 q.2.2.2.2.2.2.2.2.1 q.2.2.2.2.2.2.2.2.2.1 q.2.2.2.2.2.2.2.2.2.2.1 q.2.2.2.2.2.2.2.2.2.2.2.1 q.2.2.2.2.2.2.2.2.2.2.2.2.1 q.2.2.2.2.2.2.2.2.2.2.2.2.2.1 q.2.2.2.2.2.2.2.2.2.2.2.2.2.2.1 q.2.2.2.2.2.2.2.2.2.2.2.2.2.2.2.1 q.2.2.2.2.2.2.2.2.2.2.2.2.2.2.2.2.1 q.2.2.2.2.2.2.2.2.2.2.2.2.2.2.2.2.2.1 q.2.2.2.2.2.2.2.2.2.2.2.2.2.2.2.2.2.2
abbrev u20 {A1 A2 A3 A4 A5 A6 A7 A8 A9 A10 A11 A12 A13 A14 A15 A16 A17 A18 A19 A20 R : Type} (k : A1 → A2 → A3 → A4 → A5 → A6 → A7 → A8 → A9 → A10 → A11 → A12 → A13 → A14 → A15 → A16 → A17 → A18 → A19 → A20 → R) (q : A1 × A2 × A3 × A4 × A5 × A6 × A7 × A8 × A9 × A10 × A11 × A12 × A13 × A14 × A15 × A16 × A17 × A18 × A19 × A20) : R := k q.1 q.2.1 q.2.2.1 q.2.2.2.1 q.2.2.2.2.1 q.2.2.2.2.2.1 q.2.2.2.2.2.2.1 q.2.2.2.2.2.2.2.1 q.2.2.2.2.2.2.2.2.1 q.2.2.2.2.2.2.2.2.2.1 q.2.2.2.2.2.2.2.2.2.2.1 q.2.2.2.2.2.2.2.2.2.2.2.1 q.2.2.2.2.2.2.2.2.2.2.2.2.1 q.2.2.2.2.2.2.2.2.2.2.2.2.2.1 q.2.2.2.2.2.2.2.2.2.2.2.2.2.2.1 q.2.2.2.2.2.2.2.2.2.2.2.2.2.2.2.1 q.2.2.2.2.2.2.2.2.2.2.2.2.2.2.2.2.1 q.2.2.2.2.2.2.2.2.2.2.2.2.2.2.2.2.2.1 q.2.2.2.2.2.2.2.2.2.2.2.2.2.2.2.2.2.2.1 q.2.2.2.2.2.2.2.2.2.2.2.2.2.2.2.2.2.2.2
abbrev u21 {A1 A2 A3 A4 A5 A6 A7 A8 A9 A10 A11 A12 A13 A14 A15 A16 A17 A18 A19 A20 A21 R : Type} (k : A1 → A2 → A3 → A4 → A5 → A6 → A7 → A8 → A9 → A10 → A11 → A12 → A13 → A14 → A15 → A16 → A17 → A18 → A19 → A20 → A21 → R) (q : A1 × A2 × A3 × A4 × A5 × A6 × A7 × A8 × A9 × A10 × A11 × A12 × A13 × A14 × A15 × A16 × A17 × A18 × A19 × A20 × A21) : R := k q.1 q.2.1 q.2.2.1 q.2.2.2.1 q.2.2.2.2.1 q.2.2.2.2.2.1 q.2.2.2.2.2.2.1 q.2.2.2.2.2.2.2.1 q.2.2.2.2.2.2.2.2.1 q.2.2.2.2.2.2.2.2.2.1 q.2.2.2.2.2.2.2.2.2.2.1 q.2.2.2.2.2.2.2.2.2.2.2.1 q.2.2.2.2.2.2.2.2.2.2.2.2.1 q.2.2.2.2.2.2.2.2.2.2.2.2.2.1 q.2.2.2.2.2.2.2.2.2.2.2.2.2.2.1 q.2.2.2.2.2.2.2.2.2.2.2.2.2.2.2.1 q.2.2.2.2.2.2.2.2.2.2.2.2.2.2.2.2.1 q.2.2.2.2.2.2.2.2.2.2.2.2.2.2.2.2.2.1 q.2.2.2.2.2.2.2.2.2.2.2.2.2.2.2.2.2.2.1 q.2.2.2.2.2.2.2.2.2.2.2.2.2.2.2.2.2.2.2.1 q.2.2.2.2.2.2.2.2.2.2.2.2.2.2.2.2.2.2.2.2
abbrev u22 {A1 A2 A3 A4 A5 A6 A7 A8 A9 A10 A11 A12 A13 A14 A15 A16 A17 A18 A19 A20 A21 A22 R : Type} (k : A1 → A2 → A3 → A4 → A5 → A6 → A7 → A8 → A9 → A10 → A11 → A12 → A13 → A14 → A15 → A16 → A17 → A18 → A19 → A20 → A21 → A22 → R) (q : A1 × A2 × A3 × A4 × A5 × A6 × A7 × A8 × A9 × A10 × A11 × A12 × A13 × A14 × A15 × A16 × A17 × A18 × A19 × A20 × A21 × A22) : R := k q.1 q.2.1 q.2.2.1 q.2.2.2.1 q.2.2.2.2.1 q.2.2.2.2.2.1 q.2.2.2.2.2.2.1 q.2.2.2.2.2.2.2.1 q.2.2.2.2.2.2.2.2.1 q.2.2.2.2.2.2.2.2.2.1 q.2.2.2.2.2.2.2.2.2.2.1 q.2.2.2.2.2.2.2.2.2.2.2.1 q.2.2.2.2.2.2.2.2.2.2.2.2.1 q.2.2.2.2.2.2.2.2.2.2.2.2.2.1 q.2.2.2.2.2.2.2.2.2.2.2.2.2.2.1 q.2.2.2.2.2.2.2.2.2.2.2.2.2.2.2.1 q.2.2.2.2.2.2.2.2.2.2.2.2.2.2.2.2.1 q.2.2.2.2.2.2.2.2.2.2.2.2.2.2.2.2.2.1 q.2.2.2.2.2.2.2.2.2.2.2.2.2.2.2.2.2.2.1 q.2.2.2.2.2.2.2.2.2.2.2.2.2.2.2.2.2.2.2.1 q.2.2.2.2.2.2.2.2.2.2.2.2.2.2.2.2.2.2.2.2.1 q.2.2.2.2.2.2.2.2.2.2.2.2.2.2.2.2.2.2.2.2.2
abbrev u23 {A1 A2 A3 A4 A5 A6 A7 A8 A9 A10 A11 A12 A13 A14 A15 A16 A17 A18 A19 A20 A21 A22 A23 R : Type} (k : A1 → A2 → A3 → A4 → A5 → A6 → A7 → A8 → A9 → A10 → A11 → A12 → A13 → A14 → A15 → A16 → A17 → A18 → A19 → A20 → A21 → A22 → A23 → R) (q : A1 × A2 × A3 × A4 × A5 × A6 × A7 × A8 × A9 × A10 × A11 × A12 × A13 × A14 × A15 × A16 × A17 × A18 × A19 × A20 × A21 × A22 × A23) : R := k q.1 q.2.1 q.2.2.1 q.2.2.2.1 q.2.2.2.2.1 q.2.2.2.2.2.1 q.2.2.2.2.2.2.1 q.2.2.2.2.2.2.2.1 q.2.2.2.2.2.2.2.2.1 q.2.2.2.2.2.2.2.2.2.1 q.2.2.2.2.2.2.2.2.2.2.1 q.2.2.2.2.2.2.2.2.2.2.2.1 q.2.2.2.2.2.2.2.2.2.2.2.2.1 q.2.2.2.2.2.2.2.2.2.2.2.2.2.1 q.2.2.2.2.2.2.2.2.2.2.2.2.2.2.1 q.2.2.2.2.2.2.2.2.2.2.2.2.2.2.2.1 q.2.2.2.2.2.2.2.2.2.2.2.2.2.2.2.2.1 q.2.2.2.2.2.2.2.2.2.2.2.2.2.2.2.2.2.1 q.2.2.2.2.2.2.2.2.2.2.2.2.2.2.2.2.2.2.1 q.2.2.2.2.2.2.2.2.2.2.2.2.2.2.2.2.2.2.2.1 q.2.2.2.2.2.2.2.2.2.2.2.2.2.2.2.2.2.2.2.2.1 q.2.2.2.2.2.2.2.2.2.2.2.2.2.2.2.2.2.2.2.2.2.1 q.2.2.2.2.2.2.2.2.2.2.2.2.2.2.2.2.2.2.2.2.2.2
abbrev u24 {A1 A2 A3 A4 A5 A6 A7 A8 A9 A10 A11 A12 A13 A14 A15 A16 A17 A18 A19 A20 A21 A22 A23 A24 R : Type} (k : A1 → A2 → A3 → A4 → A5 → A6 → A7 → A8 → A9 → A10 → A11 → A12 → A13 → A14 → A15 → A16 → A17 → A18 → A19 → A20 → A21 → A22 → A23 → A24 → R) (q : A1 × A2 × A3 × A4 × A5 × A6 × A7 × A8 × A9 × A10 × A11 × A12 × A13 × A14 × A15 × A16 × A17 × A18 × A19 × A20 × A21 × A22 × A23 × A24) : R := k q.1 q.2.1 q.2.2.1 q.2.2.2.1 q.2.2.2.2.1 q.2.2.2.2.2.1 q.2.2.2.2.2.2.1 q.2.2.2.2.2.2.2.1 q.2.2.2.2.2.2.2.2.1 q.2.2.2.2.2.2.2.2.2.1 q.2.2.2.2.2.2.2.2.2.2.1 q.2.2.2.2.2.2.2.2.2.2.2.1 q.2.2.2.2.2.2.2.2.2.2.2.2.1 q.2.2.2.2.2.2.2.2.2.2.2.2.2.1 q.2.2.2.2.2.2.2.2.2.2.2.2.2.2.1 q.2.2.2.2.2.2.2.2.2.2.2.2.2.2.2.1 q.2.2.2.2.2.2.2.2.2.2.2.2.2.2.2.2.1 q.2.2.2.2.2.2.2.2.2.2.2.2.2.2.2.2.2.1 q.2.2.2.2.2.2.2.2.2.2.2.2.2.2.2.2.2.2.1 q.2.2.2.2.2.2.2.2.2.2.2.2.2.2.2.2.2.2.2.1 q.2.2.2.2.2.2.2.2.2.2.2.2.2.2.2.2.2.2.2.2.1 q.2.2.2.2.2.2.2.2.2.2.2.2.2.2.2.2.2.2.2.2.2.1 q.2.2.2.2.2.2.2.2.2.2.2.2.2.2.2.2.2.2.2.2.2.2.1 q.2.2.2.2.2.2.2.2.2.2.2.2.2.2.2.2.2.2.2.2.2.2.2
abbrev u25 {A1 A2 A3 A4 A5 A6 A7 A8 A9 A10 A11 A12 A13 A14 A15 A16 A17 A18 A19 A20 A21 A22 A23 A24 A25 R : Type} (k : A1 → A2 → A3 → A4 → A5 → A6 → A7 → A8 → A9 → A10 → A11 → A12 → A13 → A14 → A15 → A16 → A17 → A18 → A19 → A20 → A21 → A22 → A23 → A24 → A25 → R) (q : A1 × A2 × A3 × A4 × A5 × A6 × A7 × A8 × A9 × A10 × A11 × A12 × A13 × A14 × A15 × A16 × A17 × A18 × A19 × A20 × A21 × A22 × A23 × A24 × A25) : R := k q.1 q.2.1 q.2.2.1 q.2.2.2.1 q.2.2.2.2.1 q.2.2.2.2.2.1 q.2.2.2.2.2.2.1 q.2.2.2.2.2.2.2.1 q.2.2.2.2.2.2.2.2.1 q.2.2.2.2.2.2.2.2.2.1 q.2.2.2.2.2.2.2.2.2.2.1 q.2.2.2.2.2.2.2.2.2.2.2.1 q.2.2.2.2.2.2.2.2.2.2.2.2.1 q.2.2.2.2.2.2.2.2.2.2.2.2.2.1 q.2.2.2.2.2.2.2.2.2.2.2.2.2.2.1 q.2.2.2.2.2.2.2.2.2.2.2.2.2.2.2.1 q.2.2.2.2.2.2.2.2.2.2.2.2.2.2.2.2.1 q.2.2.2.2.2.2.2.2.2.2.2.2.2.2.2.2.2.1 q.2.2.2.2.2.2.2.2.2.2.2.2.2.2.2.2.2.2.1 q.2.2.2.2.2.2.2.2.2.2.2.2.2.2.2.2.2.2.2.1 q.2.2.2.2.2.2.2.2.2.2.2.2.2.2.2.2.2.2.2.2.1 q.2.2.2.2.2.2.2.2.2.2.2.2.2.2.2.2.2.2.2.2.2.1 q.2.2.2.2.2.2.2.2.2.2.2.2.2.2.2.2.2.2.2.2.2.2.1 q.2.2.2.2.2.2.2.2.2.2.2.2.2.2.2.2.2.2.2.2.2.2.2.1 q.2.2.2.2.2.2.2.2.2.2.2.2.2.2.2.2.2.2.2.2.2.2.2.2
abbrev u26 {A1 A2 A3 A4 A5 A6 A7 A8 A9 A10 A11 A12 A13 A14 A15 A16 A17 A18 A19 A20 A21 A22 A23 A24 A25 A26 R : Type} (k : A1 → A2 → A3 → A4 → A5 → A6 → A7 → A8 → A9 → A10 → A11 → A12 → A13 → A14 → A15 → A16 → A17 → A18 → A19 → A20 → A21 → A22 → A23 → A24 → A25 → A26 → R) (q : A1 × A2 × A3 × A4 × A5 × A6 × A7 × A8 × A9 × A10 × A11 × A12 × A13 × A14 × A15 × A16 × A17 × A18 × A19 × A20 × A21 × A22 × A23 × A24 × A25 × A26) : R := k q.1 q.2.1 q.2.2.1 q.2.2.2.1 q.2.2.2.2.1 q.2.2.2.2.2.1 q.2.2.2.2.2.2.1 q.2.2.2.2.2.2.2.1 q.2.2.2.2.2.2.2.2.1 q.2.2.2.2.2.2.2.2.2.1 q.2.2.2.2.2.2.2.2.2.2.1 q.2.2.2.2.2.2.2.2.2.2.2.1 q.2.2.2.2.2.2.2.2.2.2.2.2.1 q.2.2.2.2.2.2.2.2.2.2.2.2.2.1 q.2.2.2.2.2.2.2.2.2.2.2.2.2.2.1 q.2.2.2.2.2.2.2.2.2.2.2.2.2.2.2.1 q.2.2.2.2.2.2.2.2.2.2.2.2.2.2.2.2.1 q.2.2.2.2.2.2.2.2.2.2.2.2.2.2.2.2.2.1 q.2.2.2.2.2.2.2.2.2.2.2.2.2.2.2.2.2.2.1 q.2.2.2.2.2.2.2.2.2.2.2.2.2.2.2.2.2.2.2.1 q.2.2.2.2.2.2.2.2.2.2.2.2.2.2.2.2.2.2.2.2.1 q.2.2.2.2.2.2.2.2.2.2.2.2.2.2.2.2.2.2.2.2.2.1 q.2.2.2.2.2.2.2.2.2.2.2.2.2.2.2.2.2.2.2.2.2.2.1 q.2.2.2.2.2.2.2.2.2.2.2.2.2.2.2.2.2.2.2.2.2.2.2.1 q.2.2.2.2.2.2.2.2.2.2.2.2.2.2.2.2.2.2.2.2.2.2.2.2.1 q.2.2.2.2.2.2.2.2.2.2.2.2.2.2.2.2.2.2.2.2.2.2.2.2.2
abbrev u27 {A1 A2 A3 A4 A5 A6 A7 A8 A9 A10 A11 A12 A13 A14 A15 A16 A17 A18 A19 A20 A21 A22 A23 A24 A25 A26 A27 R : Type} (k : A1 → A2 → A3 → A4 → A5 → A6 → A7 → A8 → A9 → A10 → A11 → A12 → A13 → A14 → A15 → A16 → A17 → A18 → A19 → A20 → A21 → A22 → A23 → A24 → A25 → A26 → A27 → R) (q : A1 × A2 × A3 × A4 × A5 × A6 × A7 × A8 × A9 × A10 × A11 × A12 × A13 × A14 × A15 × A16 × A17 × A18 × A19 × A20 × A21 × A22 × A23 × A24 × A25 × A26 × A27) : R := k q.1 q.2.1 q.2.2.1 q.2.2.2.1 q.2.2.2.2.1 q.2.2.2.2.2.1 q.2.2.2.2.2.2.1 q.2.2.2.2.2.2.2.1 q.2.2.2.2.2.2.2.2.1 q.2.2.2.2.2.2.2.2.2.1 q.2.2.2.2.2.2.2.2.2.2.1 q.2.2.2.2.2.2.2.2.2.2.2.1 q.2.2.2.2.2.2.2.2.2.2.2.2.1 q.2.2.2.2.2.2.2.2.2.2.2.2.2.1 q.2.2.2.2.2.2.2.2.2.2.2.2.2.2.1 q.2.2.2.2.2.2.2.2.2.2.2.2.2.2.2.1 q.2.2.2.2.2.2.2.2.2.2.2.2.2.2.2.2.1 q.2.2.2.2.2.2.2.2.2.2.2.2.2.2.2.2.2.1 q.2.2.2.2.2.2.2.2.2.2.2.2.2.2.2.2.2.2.1 q.2.2.2.2.2.2.2.2.2.2.2.2.2.2.2.2.2.2.2.1 q.2.2.2.2.2.2.2.2.2.2.2.2.2.2.2.2.2.2.2.2.1 q.2.2.2.2.2.2.2.2.2.2.2.2.2.2.2.2.2.2.2.2.2.1 q.2.2.2.2.2.2.2.2.2.2.2.2.2.2.2.2.2.2.2.2.2.2.1 q.2.2.2.2.2.2.2.2.2.2.2.2.2.2.2.2.2.2.2.2.2.2.2.1 q.2.2.2.2.2.2.2.2.2.2.2.2.2.2.2.2.2.2.2.2.2.2.2.2.1 q.2.2.2.2.2.2.2.2.2.2.2.2.2.2.2.2.2.2.2.2.2.2.2.2.2.1 q.2.2.2.2.2.2.2.2.2.2.2.2.2.2.2.2.2.2.2.2.2.2.2.2.2.2
abbrev u28 {A1 A2 A3 A4 A5 A6 A7 A8 A9 A10 A11 A12 A13 A14 A15 A16 A17 A18 A19 A20 A21 A22 A23 A24 A25 A26 A27 A28 R : Type} (k : A1 → A2 → A3 → A4 → A5 → A6 → A7 → A8 → A9 → A10 → A11 → A12 → A13 → A14 → A15 → A16 → A17 → A18 → A19 → A20 → A21 → A22 → A23 → A24 → A25 → A26 → A27 → A28 → R) (q : A1 × A2 × A3 × A4 × A5 × A6 × A7 × A8 × A9 × A10 × A11 × A12 × A13 × A14 × A15 × A16 × A17 × A18 × A19 × A20 × A21 × A22 × A23 × A24 × A25 × A26 × A27 × A28) : R := k q.1 q.2.1 q.2.2.1 q.2.2.2.1 q.2.2.2.2.1 q.2.2.2.2.2.1 q.2.2.2.2.2.2.1 q.2.2.2.2.2.2.2.1 q.2.2.2.2.2.2.2.2.1 q.2.2.2.2.2.2.2.2.2.1 q.2.2.2.2.2.2.2.2.2.2.1 q.2.2.2.2.2.2.2.2.2.2.2.1 q.2.2.2.2.2.2.2.2.2.2.2.2.1 q.2.2.2.2.2.2.2.2.2.2.2.2.2.1 q.2.2.2.2.2.2.2.2.2.2.2.2.2.2.1 q.2.2.2.2.2.2.2.2.2.2.2.2.2.2.2.1 q.2.2.2.2.2.2.2.2.2.2.2.2.2.2.2.2.1 q.2.2.2.2.2.2.2.2.2.2.2.2.2.2.2.2.2.1 q.2.2.2.2.2.2.2.2.2.2.2.2.2.2.2.2.2.2.1 q.2.2.2.2.2.2.2.2.2.2.2.2.2.2.2.2.2.2.2.1 q.2.2.2.2.2.2.2.2.2.2.2.2.2.2.2.2.2.2.2.2.1 q.2.2.2.2.2.2.2.2.2.2.2.2.2.2.2.2.2.2.2.2.2.1 q.2.2.2.2.2.2.2.2.2.2.2.2.2.2.2.2.2.2.2.2.2.2.1 q.2.2.2.2.2.2.2.2.2.2.2.2.2.2.2.2.2.2.2.2.2.2.2.1 q.2.2.2.2.2.2.2.2.2.2.2.2.2.2.2.2.2.2.2.2.2.2.2.2.1 q.2.2.2.2.2.2.2.2.2.2.2.2.2.2.2.2.2.2.2.2.2.2.2.2.2.1 q.2.2.2.2.2.2.2.2.2.2.2.2.2.2.2.2.2.2.2.2.2.2.2.2.2.2.1 q.2.2.2.2.2.2.2.2.2.2.2.2.2.2.2.2.2.2.2.2.2.2.2.2.2.2.2
abbrev u29 {A1 A2 A3 A4 A5 A6 A7 A8 A9 A10 A11 A12 A13 A14 A15 A16 A17 A18 A19 A20 A21 A22 A23 A24 A25 A26 A27 A28 A29 R : Type} (k : A1 → A2 → A3 → A4 → A5 → A6 → A7 → A8 → A9 → A10 → A11 → A12 → A13 → A14 → A15 → A16 → A17 → A18 → A19 → A20 → A21 → A22 → A23 → A24 → A25 → A26 → A27 → A28 → A29 → R) (q : A1 × A2 × A3 × A4 × A5 × A6 × A7 × A8 × A9 × A10 × A11 × A12 × A13 × A14 × A15 × A16 × A17 × A18 × A19 × A20 × A21 × A22 × A23 × A24 × A25 × A26 × A27 × A28 × A29) : R := k q.1 q.2.1 q.2.2.1 q.2.2.2.1 q.2.2.2.2.1 q.2.2.2.2.2.1 q.2.2.2.2.2.2.1 q.2.2.2.2.2.2.2.1 q.2.2.2.2.2.2.2.2.1 q.2.2.2.2.2.2.2.2.2.1 q.2.2.2.2.2.2.2.2.2.2.1 q.2.2.2.2.2.2.2.2.2.2.2.1 q.2.2.2.2.2.2.2.2.2.2.2.2.1 q.2.2.2.2.2.2.2.2.2.2.2.2.2.1 q.2.2.2.2.2.2.2.2.2.2.2.2.2.2.1 q.2.2.2.2.2.2.2.2.2.2.2.2.2.2.2.1 q.2.2.2.2.2.2.2.2.2.2.2.2.2.2.2.2.1 q.2.2.2.2.2.2.2.2.2.2.2.2.2.2.2.2.2.1 q.2.2.2.2.2.2.2.2.2.2.2.2.2.2.2.2.2.2.1 q.2.2.2.2.2.2.2.2.2.2.2.2.2.2.2.2.2.2.2.1 q.2.2.2.2.2.2.2.2.2.2.2.2.2.2.2.2.2.2.2.2.1 q.2.2.2.2.2.2.2.2.2.2.2.2.2.2.2.2.2.2.2.2.2.1 q.2.2.2.2.2.2.2.2.2.2.2.2.2.2.2.2.2.2.2.2.2.2.1 q.2.2.2.2.2.2.2.2.2.2.2.2.2.2.2.2.2.2.2.2.2.2.2.1 q.2.2.2.2.2.2.2.2.2.2.2.2.2.2.2.2.2.2.2.2.2.2.2.2.1 q.2.2.2.2.2.2.2.2.2.2.2.2.2.2.2.2.2.2.2.2.2.2.2.2.2.1 q.2.2.2.2.2.2.2.2.2.2.2.2.2.2.2.2.2.2.2.2.2.2.2.2.2.2.1 q.2.2.2.2.2.2.2.2.2.2.2.2.2.2.2.2.2.2.2.2.2.2.2.2.2.2.2.1 q.2.2.2.2.2.2.2.2.2.2.2.2.2.2.2.2.2.2.2.2.2.2.2.2.2.2.2.2
theorem if_t {α : Type} {c : Prop} [Decidable c] {A B r : α} (h1 : c) (h : (if c then A else B) = r) : A = r := by rw [if_pos h1] at h; exact h
theorem if_f {α : Type} {c : Prop} [Decidable c] {A B r : α} (h1 : ¬ c) (h : (if c then A else B) = r) : B = r := by rw [if_neg h1] at h; exact h
/-- a loop: the body gives a new state, or the end -/
def lp {S R : Type} (b : S → Option (S ⊕ R)) : Nat → S → Option R
  | 0, _ => none
  | n + 1, s => match b s with
    | none => none
    | some (.inl s') => lp b n s'
    | some (.inr r) => some r
def lz {S R : Type} (b : S → Option (S ⊕ R)) (n : Nat) (y : S ⊕ R) : Option R := match y with
  | .inl s => lp b n s
  | .inr r => some r
theorem lp_0 {S R : Type} {b : S → Option (S ⊕ R)} {s : S} {r : R} (h : lp b 0 s = some r) : False := by cases h
theorem lp_h {S R : Type} {b : S → Option (S ⊕ R)} {n : Nat} {s : S} {r : R} (h : lp b (n + 1) s = some r) : ∃ y, b s = some y ∧ lz b n y = some r := by
  have e : lp b (n + 1) s = bnd (b s) (lz b n) := by
    rw [lp]
    cases hb : b s with
    | none => rfl
    | some y => cases y <;> rfl
  rw [e] at h
  exact bnd_h h
theorem lp_n {S R : Type} {b : S → Option (S ⊕ R)} {n : Nat} {s' : S} {y : S ⊕ R} {r : R} (h : some (Sum.inl s') = some y) (hz : lz b n y = some r) : lp b n s' = some r := by cases h; exact hz
theorem lp_e {S R : Type} {b : S → Option (S ⊕ R)} {n : Nat} {r' : R} {y : S ⊕ R} {r : R} (h : some (Sum.inr r') = some y) (hz : lz b n y = some r) : r' = r := by cases h; exact Option.some.inj hz
def bndE {S Q T : Type} (o : Option (S ⊕ Q)) (k : S → Option T) (j : Q → Option T) : Option T := match o with
  | none => none
  | some (.inl s) => k s
  | some (.inr q) => j q
theorem bndE_h {S Q T : Type} {o : Option (S ⊕ Q)} {k : S → Option T} {j : Q → Option T} {u : T} (h : bndE o k j = some u) : ∃ z, o = some z ∧ (∀ s, z = .inl s → k s = some u) ∧ (∀ q, z = .inr q → j q = some u) := by
  match o, h with
  | none, h => cases h
  | some (.inl s), h => exact ⟨_, rfl, fun s' e => by cases e; exact h, fun q e => by cases e⟩
  | some (.inr q), h => exact ⟨_, rfl, fun s' e => (by cases e), fun q' e => by cases e; exact h⟩
/-- the fuel of every loop -/
def FU : Nat := 1000000
def rd {α : Type} (n : Nat) (f : Nat → α) (i : Int32) : Option α := if i < 0 ∨ n ≤ i.toNatClampNeg then none else some (f i.toNatClampNeg)
def wr {α : Type} (n : Nat) (f : Nat → α) (i : Int32) (x : α) : Option (Nat → α) := if i < 0 ∨ n ≤ i.toNatClampNeg then none else some (fun j => if j = i.toNatClampNeg then x else f j)
theorem rd_h {α β : Type} {n : Nat} {f : Nat → α} {i : Int32} {k : α → Option β} {u : β} (h : bnd (rd n f i) k = some u) : vp_in i n ∧ ∀ v, v = f i.toNatClampNeg → k v = some u := by
  unfold rd at h
  by_cases c : i < 0 ∨ n ≤ i.toNatClampNeg
  · rw [if_pos c] at h; cases h
  · rw [if_neg c] at h; exact ⟨c, fun v e => by rw [e]; exact h⟩
theorem wr_h {β : Type} {n : Nat} {f : Nat → Int32} {i x : Int32} {k : (Nat → Int32) → Option β} {u : β} (h : bnd (wr n f i x) k = some u) : vp_in i n ∧ ∀ f', f' = upd f i.toNatClampNeg x → k f' = some u := by
  unfold wr at h
  by_cases c : i < 0 ∨ n ≤ i.toNatClampNeg
  · rw [if_pos c] at h; cases h
  · rw [if_neg c] at h; exact ⟨c, fun f' e => by rw [e]; exact h⟩
theorem nm_h {α β : Type} {x v : α} {k : α → Option β} {u : β} (e : v = x) (h : bnd (some x) k = some u) : k v = some u := by rw [e]; exact h
def dvI (x y : Int32) : Option Int32 := if y = 0 then none else some (x / y)
def rmI (x y : Int32) : Option Int32 := if y = 0 then none else some (x - x / y * y)
def dvL (x y : Int64) : Option Int64 := if y = 0 then none else some (x / y)
theorem dvI_h {β : Type} {x y : Int32} {k : Int32 → Option β} {u : β} (h : bnd (dvI x y) k = some u) : ¬ y = 0 ∧ ∀ v, v = x / y → k v = some u := by
  unfold dvI at h
  by_cases c : y = 0
  · rw [if_pos c] at h; cases h
  · rw [if_neg c] at h; exact ⟨c, fun v e => by rw [e]; exact h⟩
theorem rmI_h {β : Type} {x y : Int32} {k : Int32 → Option β} {u : β} (h : bnd (rmI x y) k = some u) : ¬ y = 0 ∧ ∀ v, v = x - x / y * y → k v = some u := by
  unfold rmI at h
  by_cases c : y = 0
  · rw [if_pos c] at h; cases h
  · rw [if_neg c] at h; exact ⟨c, fun v e => by rw [e]; exact h⟩
theorem dvL_h {β : Type} {x y : Int64} {k : Int64 → Option β} {u : β} (h : bnd (dvL x y) k = some u) : ¬ y = 0 ∧ ∀ v, v = x / y → k v = some u := by
  unfold dvL at h
  by_cases c : y = 0
  · rw [if_pos c] at h; cases h
  · rw [if_neg c] at h; exact ⟨c, fun v e => by rw [e]; exact h⟩
def acp (n0 n1 : Nat) (f g : Nat → Int32) (sp dp n : Int32) : Option (Nat → Int32) := if ¬ sp < 0 ∧ ¬ dp < 0 ∧ ¬ n < 0 ∧ sp.toNatClampNeg + n.toNatClampNeg ≤ n0 ∧ dp.toNatClampNeg + n.toNatClampNeg ≤ n1 then some (va_cpy f g sp.toNatClampNeg dp.toNatClampNeg n.toNatClampNeg) else none
theorem acp_h {β : Type} {n0 n1 : Nat} {f g : Nat → Int32} {sp dp n : Int32} {k : (Nat → Int32) → Option β} {u : β} (h : bnd (acp n0 n1 f g sp dp n) k = some u) : (¬ sp < 0 ∧ ¬ dp < 0 ∧ ¬ n < 0 ∧ sp.toNatClampNeg + n.toNatClampNeg ≤ n0 ∧ dp.toNatClampNeg + n.toNatClampNeg ≤ n1) ∧ ∀ f', f' = va_cpy f g sp.toNatClampNeg dp.toNatClampNeg n.toNatClampNeg → k f' = some u := by
  unfold acp at h
  by_cases c : ¬ sp < 0 ∧ ¬ dp < 0 ∧ ¬ n < 0 ∧ sp.toNatClampNeg + n.toNatClampNeg ≤ n0 ∧ dp.toNatClampNeg + n.toNatClampNeg ≤ n1
  · rw [if_pos c] at h; exact ⟨c, fun f' e => by rw [e]; exact h⟩
  · rw [if_neg c] at h; cases h
/-! the worlds: cells of a callee put back at their places -/
def setL : List Nat → va_W → va_W → va_W
  | i :: is, e :: es, ws => setL is es (ws.set i e)
  | _, _, ws => ws
theorem setL_get : ∀ (is : List Nat) (es ws : va_W) (k : Nat) (q : Nat × va_E), is.length = es.length → (setL is es ws)[k]? = some q → (∃ j : Nat, es[j]? = some q ∧ is[j]? = some k) ∨ (k ∉ is ∧ ws[k]? = some q)
  | [], [], ws, k, q, _, h => Or.inr ⟨List.not_mem_nil, h⟩
  | [], _ :: _, _, _, _, hl, _ => by simp at hl
  | _ :: _, [], _, _, _, hl, _ => by simp at hl
  | i :: is, e :: es, ws, k, q, hl, h => by
    rcases setL_get is es (ws.set i e) k q (by simpa using hl) h with ⟨j, h1, h2⟩ | ⟨h1, h2⟩
    · exact Or.inl ⟨j + 1, by rw [List.getElem?_cons_succ]; exact h1, by rw [List.getElem?_cons_succ]; exact h2⟩
    · by_cases hk : i = k
      · subst hk
        have hlt : i < ws.length := by
          have := (List.getElem?_eq_some_iff.mp h2).1
          simpa using this
        rw [List.getElem?_set_self hlt] at h2
        exact Or.inl ⟨0, by rw [List.getElem?_cons_zero]; exact h2, by rw [List.getElem?_cons_zero]⟩
      · rw [List.getElem?_set_ne hk] at h2
        exact Or.inr ⟨fun hm => (List.mem_cons.mp hm).elim (fun e => hk e.symm) h1, h2⟩
theorem va_Dfst {A : Nat → Prop} {ws ws' : va_W} (e : ws'.map (fun q => q.1) = ws.map (fun q => q.1)) (h : va_D A ws) : va_D A ws' := by
  have key : ∀ (k : Nat) (q : Nat × va_E), ws'[k]? = some q → ∃ q', ws[k]? = some q' ∧ q'.1 = q.1 := by
    intro k q hq
    have h1 : (ws'.map (fun q => q.1))[k]? = some q.1 := by rw [List.getElem?_map, hq]; rfl
    rw [e, List.getElem?_map] at h1
    cases hw : ws[k]? with
    | none => rw [hw] at h1; cases h1
    | some q' => rw [hw] at h1; exact ⟨q', rfl, Option.some.inj h1⟩
  refine ⟨fun i j p q hi hj hpq => ?_, fun k q hk => ?_⟩
  · obtain ⟨p', hp', ep⟩ := key i p hi
    obtain ⟨q', hq', eq⟩ := key j q hj
    exact h.1 i j p' q' hp' hq' (by rw [ep, eq, hpq])
  · obtain ⟨q', hq', eq⟩ := key k q hk
    rw [← eq]
    exact h.2 k q' hq'
theorem join_set {A0 : Nat → Prop} {D : va_G} {cl : List vw_C} {ws wc w1 : va_W} {H H1 : Heap} (hP : va_P D cl ws H) (hD : va_D A0 ws) (isC : List Nat) (hC : isC.map (fun i => ws[i]?) = wc.map some) (hlen : isC.length = w1.length)
    (hk : ∀ q : Nat, q < H.size → ¬ va_A wc H.size q → H1[q]? = H[q]?) (hP1 : va_P D cl w1 H1) : va_P D cl (setL isC w1 ws) H1 := by
  intro k q hq
  rcases setL_get isC w1 ws k q hlen hq with ⟨j, h1, -⟩ | ⟨h1, h2⟩
  · exact hP1 j q h1
  · have hl := (hP k q h2).lt
    refine (hP k q h2).kept (hk q.1 hl fun hA => ?_)
    rcases hA with ⟨k2, e, h⟩ | h
    · have h3 : (isC.map (fun i => ws[i]?))[k2]? = some (some (q.1, e)) := by rw [hC, List.getElem?_map, h]; rfl
      rw [List.getElem?_map] at h3
      cases hi : isC[k2]? with
      | none => rw [hi] at h3; cases h3
      | some i =>
        rw [hi] at h3
        have h4 : ws[i]? = some (q.1, e) := Option.some.inj h3
        have := hD.1 k i q (q.1, e) h2 h4 rfl
        subst this
        exact h1 (List.mem_of_getElem? hi)
    · omega

/-! a row of references to a pool, by the pool's numbers -/
def rdp (N : Nat) (p : Nat → Nat) (i : Int32) : Option Nat := if i < 0 ∨ N ≤ i.toNatClampNeg ∨ N ≤ p i.toNatClampNeg then none else some (p i.toNatClampNeg)
def wrp (N : Nat) (p : Nat → Nat) (i : Int32) (v : Nat) : Option (Nat → Nat) := if i < 0 ∨ N ≤ i.toNatClampNeg then none else some (fun j => if j = i.toNatClampNeg then v else p j)
theorem rdp_h {β : Type} {N : Nat} {p : Nat → Nat} {i : Int32} {k : Nat → Option β} {u : β} (h : bnd (rdp N p i) k = some u) : vp_in i N ∧ p i.toNatClampNeg < N ∧ ∀ v, v = p i.toNatClampNeg → k v = some u := by
  unfold rdp at h
  by_cases c : i < 0 ∨ N ≤ i.toNatClampNeg ∨ N ≤ p i.toNatClampNeg
  · rw [if_pos c] at h; cases h
  · rw [if_neg c] at h
    exact ⟨fun q => c (q.elim Or.inl fun q => Or.inr (Or.inl q)), Nat.not_le.mp fun q => c (Or.inr (Or.inr q)), fun v e => by rw [e]; exact h⟩
theorem wrp_h {β : Type} {N : Nat} {p : Nat → Nat} {i : Int32} {v : Nat} {k : (Nat → Nat) → Option β} {u : β} (h : bnd (wrp N p i v) k = some u) : vp_in i N ∧ ∀ p', p' = (fun j => if j = i.toNatClampNeg then v else p j) → k p' = some u := by
  unfold wrp at h
  by_cases c : i < 0 ∨ N ≤ i.toNatClampNeg
  · rw [if_pos c] at h; cases h
  · rw [if_neg c] at h; exact ⟨c, fun f' e => by rw [e]; exact h⟩
theorem lt8 {k : Nat} (h : k < 8) : k = 0 ∨ k = 1 ∨ k = 2 ∨ k = 3 ∨ k = 4 ∨ k = 5 ∨ k = 6 ∨ k = 7 := by omega
theorem lt2 {k : Nat} (h : k < 2) : k = 0 ∨ k = 1 := by omega
/-! own rows over the kit's: one bundle of what a frame knows (CX), one of its world (PD) -/
def Tg : List Cond := lw_tbl.filter goodWord
theorem mem_Tg {w : Cond} (h : w ∈ lw_tbl) (hg : goodWord w = true) : w ∈ Tg := List.mem_filter.mpr ⟨h, hg⟩
theorem good_Tg {w : Cond} (h : w ∈ Tg) : w ∈ Tg ∧ ((w.onTables && w.keeps) = true ∨ ∃ ty, w = .arrayClass ty) := ⟨h, good_of_word (List.mem_filter.mp h).2⟩
def mw (y : MethodName) (b : ByteArray) (n : Nat) (r : Option FieldType) : List Cond := Cond.code y b n r :: Tg
theorem good_mw {y : MethodName} {b : ByteArray} {n : Nat} {r : Option FieldType} (h : Cond.code y b n r ∈ Tg) : GoodIn Tg (mw y b n r) := fun w hw => by
  rcases List.mem_cons.mp hw with e | e
  · subst e; exact good_Tg h
  · exact good_Tg e
def nests (U : State) : Prop := (∀ t ∈ NSt, va_Nw (.methodLinkNest t.1 t.2.1 t.2.2.1 t.2.2.2) U) ∧ va_AO "LeftAndRight$Shelf" U
theorem nests.warm {s U : State} (hW : s.WarmedH U.vm) (h : nests s) : nests U := ⟨fun t ht => va_Nw.warmM hW (h.1 t ht), va_AO.moved hW.alike h.2⟩
def CX (p : Program) (m : MethodId) (c : Code) (cc : ByteArray) (nL : Nat) (s : State) (args : Array Value) (own : String) (D : va_G) (T : List (ClassId × FieldType)) : Prop :=
  (p.tables.exec = Jvm.exec ∧ c.code = cc) ∧ c.maxLocals = nL ∧ s.vm.findClass own = some m.cls ∧ (∀ w ∈ Tg, w.before args s = true) ∧ va_K D classes T s ∧ nests s
def PD (D : va_G) (A : Nat → Prop) (H0 : Heap) (ws : va_W) (H : Heap) (locs : List Loc) : Prop := va_P D classes ws H ∧ va_D A ws ∧ va_S A H0 H locs
def mP (D : va_G) (T : List (ClassId × FieldType)) (sz : Nat) (ws : va_W) (U : State) : Prop := U.heap.size = sz ∧ va_P D classes ws U.heap ∧ va_K D classes T U ∧ va_D (fun _ => True) ws ∧ nests U
theorem mP_blind {av : List Value} {D : va_G} {T : List (ClassId × FieldType)} {sz : Nat} {ws : va_W} : FrameBlind (va_Pc av (mP D T sz ws)) := fun a U g mk q => by
  obtain ⟨q0, q1, qP, qK, qD, qN⟩ := q
  exact ⟨q0, q1, qP, va_K.moved (u := U) (U := U.calling g mk a) (Vm.Alike.refl U.vm) qK, qD, fun t ht => va_Nw.same (u := U) (U := U.calling g mk a) rfl rfl (qN.1 t ht), va_AO.moved (u := U) (U := U.calling g mk a) (Vm.Alike.refl U.vm) qN.2⟩
section ROWS
variable {p : Program} {l : Launch} {e : Env} {R : Room} {s : State} {m : MethodId} {args : Array Value} {below : List Frame} {meth : Method} {c : Code} {H H0 : Heap} {locs : List Loc} {cells slots : Nat} {Q : State → Prop} {cc : ByteArray} {nL : Nat} {own : String} {D : va_G} {T : List (ClassId × FieldType)} {A : Nat → Prop} {ws wc : va_W} {pc : Nat} {ls : Array Slot} {rest st0 : List Value} {a : Nat} {b : Addr} {As : List Value}
theorem W_abs {g : JFrame} (h : ∀ Z, Z = Q → W p l e R s m args below meth c H locs cells slots Z g) : W p l e R s m args below meth c H locs cells slots Q g := h Q rfl
/-- a method by its body -/
theorem met_go {y : MethodName} {maxL : Nat} {ret : Option FieldType} {rm : Room} {av : List Value} {Qc : (Nat → Prop) → Array Value → State → Outcome → State → Prop} {mc ms sz : Nat} (hy : plainName y.cls = true) (hle : (lg_sl av).length ≤ maxL)
    (body : ∀ (p : Program) (e : Env) (s : State) (m : MethodId) (below : List Frame) (meth : Method) (c : Code) (A : Nat → Prop) (ls : Array Slot) (H : Heap) (locs : List Loc), CX p m c cc maxL s av.toArray y.cls D T → meth.sig.returnType = ret → meth.locks = false → meth.name = y.name → (∀ q, s.heap.size ≤ q → A q) → PD D A s.heap ws H locs → lv_has ls maxL (lv_args 0 av) → sz = s.heap.size →
      W p l e rm s m av.toArray below meth c H locs 0 0 (MQ below (Qc A) av.toArray s mc ms A) (F0 m 0 ls [])) :
    Met l y (mw y cc maxL ret) rm (va_Pc av (mP D T sz ws)) (Qc (va_A ws sz)) mc ms (va_A ws sz) := by
  refine Met.ofW (cc := cc) (maxL := maxL) (ret := ret) hy rfl ?_
  intro p e s m args below meth c s₁ B hml hv
  obtain ⟨rfl, hsz, hP, hK, hD0, hN⟩ := hv
  have hts := atoms_spec (ws := mw y cc maxL ret) B.pre
  have hl := lv_entry av (n := maxL) hle
  rw [lg_entry_eq]
  subst hsz
  exact body p e s m below meth c (va_A ws s.heap.size) _ s.heap [] ⟨⟨B.exec, B.bytes⟩, hml, findClass_of_methodNamed B.named, fun w h => hts w (List.mem_cons_of_mem _ h), hK, hN⟩ B.returns B.notSynchronized (name_of_methodNamed B.named B.method).1 (fun q h => Or.inr h) ⟨hP, hD0.self, va_S.rf⟩ hl rfl
/-! ends -/
theorem ret_i {S : Type} {post : Int32 → S → Prop} {wd : S → va_W} {v : Int32} (hC : CX p m c cc nL s args own D T) (hr : meth.sig.returnType = some .int) (hlk : meth.locks = false) (hP : PD D A s.heap ws H locs) (hdg : decode cc pc = .ok (.ireturn, 1)) (w : S) (hp : post v w) (hw : ws = wd w) :
    W p l e R s m args below meth c H locs cells slots (MQ below (va_Qi post (fun u t => va_P D classes (wd u) t.heap) A) args s cells slots A) (F0 m pc ls [.int v]) :=
  W.iret (v := v) hC.1.1 hC.1.2 hr (fun t ht _ => ⟨⟨v, w, rfl, hp, by show va_P D classes (wd w) t.heap; rw [ht, ← hw]; exact hP.1⟩, hP.2.2.F ht⟩) hP.2.2.2.2 hdg
theorem ret_z {S : Type} {post : Int32 → S → Prop} {wd : S → va_W} {v : Int32} (hC : CX p m c cc nL s args own D T) (hr : meth.sig.returnType = some .boolean) (hn : narrow .boolean (.int v) = .int v) (hlk : meth.locks = false) (hP : PD D A s.heap ws H locs) (hdg : decode cc pc = .ok (.ireturn, 1)) (w : S) (hp : post v w) (hw : ws = wd w) :
    W p l e R s m args below meth c H locs cells slots (MQ below (va_Qi (fun r u => narrow .boolean (.int r) = .int r ∧ post r u) (fun u t => va_P D classes (wd u) t.heap) A) args s cells slots A) (F0 m pc ls [.int v]) :=
  W.zret (v := v) hC.1.1 hC.1.2 hr hn (fun t ht _ => ⟨⟨v, w, rfl, ⟨hn, hp⟩, by show va_P D classes (wd w) t.heap; rw [ht, ← hw]; exact hP.1⟩, hP.2.2.F ht⟩) hP.2.2.2.2 hdg
theorem ret_l {S : Type} {post : Int64 → S → Prop} {wd : S → va_W} {v : Int64} (hC : CX p m c cc nL s args own D T) (hr : meth.sig.returnType = some .long) (hlk : meth.locks = false) (hP : PD D A s.heap ws H locs) (hdg : decode cc pc = .ok (.lreturn, 1)) (w : S) (hp : post v w) (hw : ws = wd w) :
    W p l e R s m args below meth c H locs cells slots (MQ below (va_Ql post (fun u t => va_P D classes (wd u) t.heap) A) args s cells slots A) (F0 m pc ls [.long v]) :=
  W.lret (v := v) hC.1.1 hC.1.2 hr (fun t ht _ => ⟨⟨v, w, rfl, hp, by show va_P D classes (wd w) t.heap; rw [ht, ← hw]; exact hP.1⟩, hP.2.2.F ht⟩) hP.2.2.2.2 hdg
theorem ret_v {S : Type} {post : S → Prop} {wd : S → va_W} (hC : CX p m c cc nL s args own D T) (hr : meth.sig.returnType = none) (hlk : meth.locks = false) (hP : PD D A s.heap ws H locs) (hdg : decode cc pc = .ok (.return_, 1)) (w : S) (hp : post w) (hw : ws = wd w) :
    W p l e R s m args below meth c H locs cells slots (MQ below (va_Qv post (fun u t => va_P D classes (wd u) t.heap) A) args s cells slots A) (F0 m pc ls []) :=
  W.vret hC.1.1 hC.1.2 hr (fun t ht _ => ⟨⟨w, rfl, hp, by show va_P D classes (wd w) t.heap; rw [ht, ← hw]; exact hP.1⟩, hP.2.2.F ht⟩) hP.2.2.2.2 hdg
/-! fields and rows -/
abbrev ts (cc : Nat → ClassId) : List (ClassId × FieldType) := [(cc 0, .int), (cc 1, .char), (cc 2, .boolean), (cc 3, .object RX4)]
def FG (own : String) (index ci k : Nat) (ty : FieldType) (fin : Bool) : Prop := ∃ (C : String) (T : u_T) (N : Nat) (ty0 : Nat → FieldType), classes[ci]? = some (C, T, N) ∧ (∀ w ∈ u_ws C T N, w ∈ Tg) ∧ k < N ∧ (∀ k, k < N → parseFieldDescriptor (T k).2.2.1 = some (ty0 k)) ∧ (∀ a, a < N → ∀ b, b < N → a ≠ b → (T a).2.1 ≠ (T b).2.1) ∧ Cond.fieldLink own index (T k).1 (T k).2.1 (T k).2.2.1 ∈ Tg ∧ (T k).2.2.2 = fin ∧ parseFieldDescriptor (T k).2.2.1 = some ty
theorem g_get {index ci k : Nat} {ty : FieldType} {fin : Bool} {fs : List Value} {v : Value} (hC : CX p m c cc nL s args own D T) (hP : PD D A H0 ws H locs) (fg : FG own index ci k ty fin) (q0 : Nat) (he : ws[q0]? = some (a, .inr (ci, fs))) (hv : fs[k]? = some v) (hdg : decode cc pc = .ok (.getfield index, 3))
    (kk : W p l e R s m args below meth c H locs cells slots Q (F0 m (pc + 3) ls (v :: rest))) : W p l e R s m args below meth c H locs cells slots Q (F0 m pc ls (.ref a :: rest)) := by
  obtain ⟨C, Tf, N, ty0, h1, h2, h3, h4, h5, h6, h7, h8⟩ := fg
  exact va_get hC.1.1 hC.1.2 hC.2.2.2.1 h2 hC.2.2.1 hC.2.2.2.2.1 hP.1 q0 he h1 k h3 (hC.2.2.2.1 _ h6) (fun _ z => z) hv hdg kk
theorem g_put {index ci k : Nat} {ty : FieldType} {fs : List Value} {v : Value} (hC : CX p m c cc nL s args own D T) (hP : PD D A H0 ws H locs) (fg : FG own index ci k ty false) (q0 : Nat) (he : ws[q0]? = some (a, .inr (ci, fs))) (hn : narrow ty v = v) (hfit : fits ty v = true) (hl : k < fs.length) (hdg : decode cc pc = .ok (.putfield index, 3))
    (kk : ∀ (H1 : Heap) (locs1 : List Loc), PD D A H0 (ws.set q0 (a, .inr (ci, fs.set k v))) H1 locs1 → W p l e R s m args below meth c H1 locs1 cells slots Q (F0 m (pc + 3) ls rest)) : W p l e R s m args below meth c H locs cells slots Q (F0 m pc ls (v :: .ref a :: rest)) := by
  obtain ⟨C, Tf, N, ty0, h1, h2, h3, h4, h5, h6, h7, h8⟩ := fg
  exact va_put hC.1.1 hC.1.2 hC.2.2.2.1 h2 ty0 h4 h5 hC.2.2.1 hC.2.2.2.2.1 hP.1 hP.2.1 hP.2.2 q0 he h1 k h3 (hC.2.2.2.1 _ h6) (fun _ z => z) h7 h8 hn hfit hl hdg (fun H1 locs1 x1 x2 x3 => kk H1 locs1 ⟨x1, x2, x3⟩)
theorem g_putF {index ci k : Nat} {ty : FieldType} {fs : List Value} {v : Value} (hC : CX p m c cc nL s args own D T) (hP : PD D A H0 ws H locs) (fg : FG own index ci k ty true) (hin : meth.name = "<init>") {C9 : String} {T9 : u_T} {N9 : Nat} (hc9 : classes[ci]? = some (C9, T9, N9)) (hd9 : (T9 k).1 = own) (q0 : Nat) (he : ws[q0]? = some (a, .inr (ci, fs))) (hn : narrow ty v = v) (hfit : fits ty v = true) (hl : k < fs.length) (hdg : decode cc pc = .ok (.putfield index, 3))
    (kk : ∀ (H1 : Heap) (locs1 : List Loc), PD D A H0 (ws.set q0 (a, .inr (ci, fs.set k v))) H1 locs1 → W p l e R s m args below meth c H1 locs1 cells slots Q (F0 m (pc + 3) ls rest)) : W p l e R s m args below meth c H locs cells slots Q (F0 m pc ls (v :: .ref a :: rest)) := by
  obtain ⟨C, Tf, N, ty0, h1, h2, h3, h4, h5, h6, h7, h8⟩ := fg
  exact va_putF hC.1.1 hC.1.2 hC.2.2.2.1 h2 ty0 h4 h5 hC.2.2.1 hC.2.2.2.2.1 hP.1 hP.2.1 hP.2.2 q0 he h1 k h3 (hC.2.2.2.1 _ h6) (fun _ z => z) h7 hin (by rw [hc9] at h1; cases h1; exact hd9) h8 hn hfit hl hdg (fun H1 locs1 x1 x2 x3 => kk H1 locs1 ⟨x1, x2, x3⟩)
theorem g_iald {cA : ClassId} {n : Nat} {f : Nat → Int32} {i : Int32} (hC : CX p m c cc nL s args own D T) (hP : PD D A H0 ws H locs) (q0 t0 : Nat) (ha : ws[q0]? = some (a, .inl (cA, n, .inl f))) (ht : T[t0]? = some (cA, .int)) (hin : vp_in i n) (hdg : decode cc pc = .ok (.iaload, 1))
    (kk : ∀ v : Int32, v = f i.toNatClampNeg → W p l e R s m args below meth c H locs cells slots Q (F0 m (pc + 1) ls (.int v :: rest))) : W p l e R s m args below meth c H locs cells slots Q (F0 m pc ls (.int i :: .ref a :: rest)) :=
  va_iald hC.1.1 hC.1.2 hC.2.2.2.2.1 hP.1 q0 t0 ha ht hin hdg (kk _ rfl)
theorem g_zald {cA : ClassId} {n : Nat} {f : Nat → Int32} {i : Int32} (hC : CX p m c cc nL s args own D T) (hP : PD D A H0 ws H locs) (q0 t0 : Nat) (ha : ws[q0]? = some (a, .inl (cA, n, .inl f))) (ht : T[t0]? = some (cA, .boolean)) (hin : vp_in i n) (hdg : decode cc pc = .ok (.baload, 1))
    (kk : ∀ v : Int32, v = f i.toNatClampNeg → W p l e R s m args below meth c H locs cells slots Q (F0 m (pc + 1) ls (.int v :: rest))) : W p l e R s m args below meth c H locs cells slots Q (F0 m pc ls (.int i :: .ref a :: rest)) :=
  va_zald hC.1.1 hC.1.2 hC.2.2.2.2.1 hP.1 q0 t0 ha ht hin hdg (kk _ rfl)
theorem g_cald {cA : ClassId} {n : Nat} {f : Nat → Int32} {i : Int32} (hC : CX p m c cc nL s args own D T) (hP : PD D A H0 ws H locs) (q0 t0 : Nat) (ha : ws[q0]? = some (a, .inl (cA, n, .inl f))) (ht : T[t0]? = some (cA, .char)) (hin : vp_in i n) (hdg : decode cc pc = .ok (.caload, 1))
    (kk : ∀ v : Int32, v = f i.toNatClampNeg → W p l e R s m args below meth c H locs cells slots Q (F0 m (pc + 1) ls (.int v :: rest))) : W p l e R s m args below meth c H locs cells slots Q (F0 m pc ls (.int i :: .ref a :: rest)) :=
  va_cald hC.1.1 hC.1.2 hC.2.2.2.2.1 hP.1 q0 t0 ha ht hin hdg (kk _ rfl)
theorem g_aald {cA : ClassId} {n : Nat} {f : Nat → Option Nat} {i : Int32} {C : String} (hC : CX p m c cc nL s args own D T) (hP : PD D A H0 ws H locs) (q0 t0 : Nat) (ha : ws[q0]? = some (a, .inl (cA, n, .inr (.inr (.inr (.inr f)))))) (ht : T[t0]? = some (cA, .object C)) (hin : vp_in i n) (hdg : decode cc pc = .ok (.aaload, 1))
    (kk : W p l e R s m args below meth c H locs cells slots Q (F0 m (pc + 1) ls (va_rf (f i.toNatClampNeg) :: rest))) : W p l e R s m args below meth c H locs cells slots Q (F0 m pc ls (.int i :: .ref a :: rest)) :=
  va_aldq hC.1.1 hC.1.2 hC.2.2.2.2.1 hP.1 q0 t0 ha ht hin hdg kk
theorem g_aast {cA : ClassId} {n v qk ci : Nat} {f : Nat → Option Nat} {i : Int32} {r : vw_C} {vs : List Value} (hC : CX p m c cc nL s args own D T) (hP : PD D A H0 ws H locs) (q0 t0 : Nat) (ha : ws[q0]? = some (a, .inl (cA, n, .inr (.inr (.inr (.inr f)))))) (ht : T[t0]? = some (cA, .object r.1)) (hv : ws[qk]? = some (v, .inr (ci, vs))) (hc : classes[ci]? = some r) (hin : vp_in i n) (hdg : decode cc pc = .ok (.aastore, 1))
    (kk : ∀ (H1 : Heap) (locs1 : List Loc), PD D A H0 (ws.set q0 (a, .inl (cA, n, .inr (.inr (.inr (.inr (va_up f i.toNatClampNeg (some v)))))))) H1 locs1 → W p l e R s m args below meth c H1 locs1 cells slots Q (F0 m (pc + 1) ls rest)) : W p l e R s m args below meth c H locs cells slots Q (F0 m pc ls (.ref v :: .int i :: .ref a :: rest)) :=
  va_astq hC.1.1 hC.1.2 hC.2.2.2.2.1 hP.1 hP.2.1 hP.2.2 q0 t0 qk ci ha ht hv hc hin hdg (fun H1 locs1 x1 x2 x3 => kk H1 locs1 ⟨x1, x2, x3⟩)
theorem g_aaldP {cA : ClassId} {n : Nat} {qa pp : Nat → Nat} {i : Int32} (hC : CX p m c cc nL s args own D T) (hP : PD D A H0 ws H locs) (q0 t0 : Nat) (ha : ws[q0]? = some (a, .inl (cA, n, .inr (.inr (.inr (.inr fun j => some (qa (pp j)))))))) (ht : T[t0]? = some (cA, .object RX4)) (hin : vp_in i n) (hdg : decode cc pc = .ok (.aaload, 1))
    (kk : ∀ k : Nat, k = pp i.toNatClampNeg → W p l e R s m args below meth c H locs cells slots Q (F0 m (pc + 1) ls (.ref (qa k) :: rest))) : W p l e R s m args below meth c H locs cells slots Q (F0 m pc ls (.int i :: .ref a :: rest)) :=
  g_aald hC hP q0 t0 ha ht hin hdg (kk _ rfl)
theorem g_aastP {cA : ClassId} {n k : Nat} {qa pp : Nat → Nat} {i : Int32} (hC : CX p m c cc nL s args own D T) (hP : PD D A H0 ws H locs) (q0 t0 : Nat) (ha : ws[q0]? = some (a, .inl (cA, n, .inr (.inr (.inr (.inr fun j => some (qa (pp j)))))))) (ht : T[t0]? = some (cA, .object RX4)) (hv : ∃ (qk : Nat) (vs : List Value), ws[qk]? = some (qa k, .inr (4, vs))) (hin : vp_in i n) (hdg : decode cc pc = .ok (.aastore, 1))
    (kk : ∀ p' : Nat → Nat, p' = (fun j => if j = i.toNatClampNeg then k else pp j) → ∀ (H1 : Heap) (locs1 : List Loc), PD D A H0 (ws.set q0 (a, .inl (cA, n, .inr (.inr (.inr (.inr fun j => some (qa (p' j)))))))) H1 locs1 → W p l e R s m args below meth c H1 locs1 cells slots Q (F0 m (pc + 1) ls rest)) : W p l e R s m args below meth c H locs cells slots Q (F0 m pc ls (.ref (qa k) :: .int i :: .ref a :: rest)) := by
  obtain ⟨qk, vs, hv⟩ := hv
  refine g_aast (r := (RX4, TX4, 3)) hC hP q0 t0 ha ht hv rfl hin hdg (fun H1 locs1 hP => kk _ rfl H1 locs1 ?_)
  have e : (va_up (fun j => some (qa (pp j))) i.toNatClampNeg (some (qa k))) = (fun j => some (qa ((fun j => if j = i.toNatClampNeg then k else pp j) j))) := by
    funext j
    by_cases h : j = i.toNatClampNeg
    · simp [va_up, h]
    · simp [va_up, h]
  rw [e] at hP
  exact hP
theorem g_iast {cA : ClassId} {n : Nat} {f : Nat → Int32} {i x : Int32} (hC : CX p m c cc nL s args own D T) (hP : PD D A H0 ws H locs) (q0 t0 : Nat) (ha : ws[q0]? = some (a, .inl (cA, n, .inl f))) (ht : T[t0]? = some (cA, .int)) (hin : vp_in i n) (hdg : decode cc pc = .ok (.iastore, 1))
    (kk : ∀ f' : Nat → Int32, f' = upd f i.toNatClampNeg x → ∀ (H1 : Heap) (locs1 : List Loc), PD D A H0 (ws.set q0 (a, .inl (cA, n, .inl f'))) H1 locs1 → W p l e R s m args below meth c H1 locs1 cells slots Q (F0 m (pc + 1) ls rest)) : W p l e R s m args below meth c H locs cells slots Q (F0 m pc ls (.int x :: .int i :: .ref a :: rest)) :=
  va_iast hC.1.1 hC.1.2 hC.2.2.2.2.1 hP.1 hP.2.1 hP.2.2 q0 t0 ha ht hin hdg (fun H1 locs1 x1 x2 x3 => kk _ rfl H1 locs1 ⟨x1, x2, x3⟩)
theorem g_zast {cA : ClassId} {n : Nat} {f : Nat → Int32} {i x : Int32} (hC : CX p m c cc nL s args own D T) (hP : PD D A H0 ws H locs) (q0 t0 : Nat) (ha : ws[q0]? = some (a, .inl (cA, n, .inl f))) (ht : T[t0]? = some (cA, .boolean)) (hin : vp_in i n) (hdg : decode cc pc = .ok (.bastore, 1))
    (kk : ∀ f' : Nat → Int32, f' = upd f i.toNatClampNeg (vp_nar .boolean x) → ∀ (H1 : Heap) (locs1 : List Loc), PD D A H0 (ws.set q0 (a, .inl (cA, n, .inl f'))) H1 locs1 → W p l e R s m args below meth c H1 locs1 cells slots Q (F0 m (pc + 1) ls rest)) : W p l e R s m args below meth c H locs cells slots Q (F0 m pc ls (.int x :: .int i :: .ref a :: rest)) :=
  va_zast hC.1.1 hC.1.2 hC.2.2.2.2.1 hP.1 hP.2.1 hP.2.2 q0 t0 ha ht hin hdg (fun H1 locs1 x1 x2 x3 => kk _ rfl H1 locs1 ⟨x1, x2, x3⟩)
theorem g_cast {cA : ClassId} {n : Nat} {f : Nat → Int32} {i x : Int32} (hC : CX p m c cc nL s args own D T) (hP : PD D A H0 ws H locs) (q0 t0 : Nat) (ha : ws[q0]? = some (a, .inl (cA, n, .inl f))) (ht : T[t0]? = some (cA, .char)) (hin : vp_in i n) (hdg : decode cc pc = .ok (.castore, 1))
    (kk : ∀ f' : Nat → Int32, f' = upd f i.toNatClampNeg (vp_nar .char x) → ∀ (H1 : Heap) (locs1 : List Loc), PD D A H0 (ws.set q0 (a, .inl (cA, n, .inl f'))) H1 locs1 → W p l e R s m args below meth c H1 locs1 cells slots Q (F0 m (pc + 1) ls rest)) : W p l e R s m args below meth c H locs cells slots Q (F0 m pc ls (.int x :: .int i :: .ref a :: rest)) :=
  va_cast hC.1.1 hC.1.2 hC.2.2.2.2.1 hP.1 hP.2.1 hP.2.2 q0 t0 ha ht hin hdg (fun H1 locs1 x1 x2 x3 => kk _ rfl H1 locs1 ⟨x1, x2, x3⟩)
theorem g_alen {cA : ClassId} {x : vp_A} {ty : FieldType} {v : Int32} (hC : CX p m c cc nL s args own D T) (hP : PD D A H0 ws H locs) (q0 t0 : Nat) (ha : ws[q0]? = some (a, .inl (cA, x))) (ht : T[t0]? = some (cA, ty)) (hv : Int32.ofNat x.1 = v) (hdg : decode cc pc = .ok (.arraylength, 1))
    (kk : W p l e R s m args below meth c H locs cells slots Q (F0 m (pc + 1) ls (.int v :: rest))) : W p l e R s m args below meth c H locs cells slots Q (F0 m pc ls (.ref a :: rest)) :=
  va_alen hC.1.1 hC.1.2 hC.2.2.2.2.1 hP.1 q0 t0 ha ht hv hdg kk
theorem g_copy {index : Nat} {a0 : Nat} {c0 c1 : ClassId} {n0 n1 : Nat} {f g : Nat → Int32} {sp dp n : Int32} (hC : CX p m c cc nL s args own D T) (hP : PD D A H0 ws H locs) (hsz : ls.size = nL) (h1 : Cond.methodLink own index arraycopyName ∈ Tg) (h2 : Cond.native arraycopyName ∈ Tg) (h3 : Cond.static arraycopyName ∈ Tg) (h4 : Cond.initialized "java/lang/System" ∈ Tg) (q0 q1 t0 : Nat) (ha0 : ws[q0]? = some (a0, .inl (c0, n0, .inl f))) (ha1 : ws[q1]? = some (a, .inl (c1, n1, .inl g))) (ht0 : T[t0]? = some (c0, .int)) (ht1 : T[t0]? = some (c1, .int)) (hc : ¬ sp < 0 ∧ ¬ dp < 0 ∧ ¬ n < 0 ∧ sp.toNatClampNeg + n.toNatClampNeg ≤ n0 ∧ dp.toNatClampNeg + n.toNatClampNeg ≤ n1)
    (hframes : 1 ≤ R.frames) (hlocals : (rest.map fun v => v.category).sum + (nativeFrameWords "java/lang/System" "arraycopy" 5 + 11) ≤ R.locals) (hdg : decode cc pc = .ok (.invokestatic index, 3))
    (kk : ∀ f' : Nat → Int32, f' = va_cpy f g sp.toNatClampNeg dp.toNatClampNeg n.toNatClampNeg → ∀ (H1 : Heap) (locs1 : List Loc), PD D A H0 (ws.set q1 (a, .inl (c1, n1, .inl f'))) H1 locs1 → W p l e R s m args below meth c H1 locs1 cells slots Q (F0 m (pc + 3) ls rest)) : W p l e R s m args below meth c H locs cells slots Q (F0 m pc ls (.int n :: .int dp :: .ref a :: .int sp :: .ref a0 :: rest)) :=
  va_copyi hC.1.1 hC.1.2 (hC.2.1.trans hsz.symm) hC.2.2.1 (hC.2.2.2.1 _ h1) (hC.2.2.2.1 _ h2) (hC.2.2.2.1 _ h3) (hC.2.2.2.1 _ h4) hC.2.2.2.2.1 hP.1 hP.2.1 hP.2.2 q0 q1 t0 t0 ha0 ha1 ht0 ht1 rfl hc.1 hc.2.1 hc.2.2.1 hc.2.2.2.1 hc.2.2.2.2 (fun _ _ => rfl) hframes hlocals hdg (fun H1 locs1 x1 x2 x3 => kk _ rfl H1 locs1 ⟨x1, x2, x3⟩)
/-! Math -/
def MH (own : String) (index : Nat) (y : MethodName) (b : ByteArray) (n : Nat) : Prop := Cond.methodLink own index y ∈ Tg ∧ Cond.static y ∈ Tg ∧ Cond.initialized "java/lang/Math" ∈ Tg ∧ Cond.code y b n (some .int) ∈ Tg
theorem sw_ne {x k : Int32} (h : ¬ x = k) : x.toInt ≠ k.toInt := fun e => h (Int32.toInt_inj.mp e)
theorem g_max {index : Nat} {x y : Int32} (hC : CX p m c cc nL s args own D T) (hsz : ls.size = nL) (h : MH own index Lib.Math.max.name Lib.Math.max.code 2) (hframes : 1 ≤ R.frames) (hlocals : (rest.map fun v => v.category).sum + 13 ≤ R.locals) (hc : cells ≤ R.cells) (hs : slots ≤ R.slots) (hdg : decode cc pc = .ok (.invokestatic index, 3))
    (kk : W p l e R s m args below meth c H locs cells slots Q (F0 m (pc + 3) ls (.int (if x < y then y else x) :: rest))) : W p l e R s m args below meth c H locs cells slots Q (F0 m pc ls (.int y :: .int x :: rest)) :=
  va_mmax hC.1.1 hC.1.2 (hC.2.1.trans hsz.symm) hC.2.2.1 (hC.2.2.2.1 _ h.1) (hC.2.2.2.1 _ h.2.1) (hC.2.2.2.1 _ h.2.2.1) (hC.2.2.2.1 _ h.2.2.2) hframes hlocals hc hs hdg kk
theorem g_min {index : Nat} {x y : Int32} (hC : CX p m c cc nL s args own D T) (hsz : ls.size = nL) (h : MH own index Lib.Math.min.name Lib.Math.min.code 2) (hframes : 1 ≤ R.frames) (hlocals : (rest.map fun v => v.category).sum + 13 ≤ R.locals) (hc : cells ≤ R.cells) (hs : slots ≤ R.slots) (hdg : decode cc pc = .ok (.invokestatic index, 3))
    (kk : W p l e R s m args below meth c H locs cells slots Q (F0 m (pc + 3) ls (.int (if y < x then y else x) :: rest))) : W p l e R s m args below meth c H locs cells slots Q (F0 m pc ls (.int y :: .int x :: rest)) :=
  va_mmin hC.1.1 hC.1.2 (hC.2.1.trans hsz.symm) hC.2.2.1 (hC.2.2.2.1 _ h.1) (hC.2.2.2.1 _ h.2.1) (hC.2.2.2.1 _ h.2.2.1) (hC.2.2.2.1 _ h.2.2.2) hframes hlocals hc hs hdg kk
theorem g_abs {index : Nat} {x : Int32} (hC : CX p m c cc nL s args own D T) (hsz : ls.size = nL) (h : MH own index Lib.Math.abs.name Lib.Math.abs.code 1) (hframes : 1 ≤ R.frames) (hlocals : (rest.map fun v => v.category).sum + 13 ≤ R.locals) (hc : cells ≤ R.cells) (hs : slots ≤ R.slots) (hdg : decode cc pc = .ok (.invokestatic index, 3))
    (kk : W p l e R s m args below meth c H locs cells slots Q (F0 m (pc + 3) ls (.int (if 0 ≤ x then x else 0 - x) :: rest))) : W p l e R s m args below meth c H locs cells slots Q (F0 m pc ls (.int x :: rest)) :=
  va_mabs hC.1.1 hC.1.2 (hC.2.1.trans hsz.symm) hC.2.2.1 (hC.2.2.2.1 _ h.1) (hC.2.2.2.1 _ h.2.1) (hC.2.2.2.1 _ h.2.2.1) (hC.2.2.2.1 _ h.2.2.2) hframes hlocals hc hs hdg kk
def ML (own : String) (index : Nat) : Prop := Cond.methodLink own index Lib.MathLoose.max_long.x ∈ Tg ∧ Cond.static Lib.MathLoose.max_long.x ∈ Tg ∧ Cond.initialized "java/lang/Math" ∈ Tg ∧ Cond.code Lib.MathLoose.max_long.x Lib.MathLoose.max_long.code 4 (some .long) ∈ Tg
theorem g_maxL {index : Nat} {x y : Int64} (hC : CX p m c cc nL s args own D T) (hsz : ls.size = nL) (h : ML own index) (hframes : 1 ≤ R.frames) (hlocals : (rest.map fun v => v.category).sum + 15 ≤ R.locals) (hc : cells ≤ R.cells) (hs : slots ≤ R.slots) (hdg : decode cc pc = .ok (.invokestatic index, 3))
    (kk : W p l e R s m args below meth c H locs cells slots Q (F0 m (pc + 3) ls (.long (if y < x then x else y) :: rest))) : W p l e R s m args below meth c H locs cells slots Q (F0 m pc ls (.long y :: .long x :: rest)) :=
  va_mmax_long hC.1.1 hC.1.2 (hC.2.1.trans hsz.symm) hC.2.2.1 (hC.2.2.2.1 _ h.1) (hC.2.2.2.1 _ h.2.1) (hC.2.2.2.1 _ h.2.2.1) (hC.2.2.2.1 _ h.2.2.2) hframes hlocals hc hs hdg kk
/-! calls -/
theorem setL_fst : ∀ (is : List Nat) (es ws : va_W), (∀ (j i : Nat) (e : Nat × va_E), is[j]? = some i → es[j]? = some e → ∃ q : Nat × va_E, ws[i]? = some q ∧ q.1 = e.1) → (setL is es ws).map (fun q => q.1) = ws.map (fun q => q.1)
  | [], es, ws, _ => by cases es <;> rfl
  | _ :: _, [], ws, _ => rfl
  | i :: is, e :: es, ws, h => by
    have h0 : (ws.set i e).map (fun q => q.1) = ws.map (fun q => q.1) := by
      obtain ⟨q, hq, he⟩ := h 0 i e rfl rfl
      rw [List.map_set, ← he]
      have hg : (ws.map (fun q => q.1))[i]? = some q.1 := by rw [List.getElem?_map, hq]; rfl
      apply List.ext_getElem?
      intro k
      by_cases hk : i = k
      · subst hk
        rw [hg, List.getElem?_set_self (List.getElem?_eq_some_iff.mp hg).1]
      · rw [List.getElem?_set_ne hk]
    show (setL is es (ws.set i e)).map (fun q => q.1) = _
    rw [setL_fst is es (ws.set i e), h0]
    intro j i' e' hi he'
    obtain ⟨q, hq, hqe⟩ := h (j + 1) i' e' (by rw [List.getElem?_cons_succ]; exact hi) (by rw [List.getElem?_cons_succ]; exact he')
    have hg : (ws.map (fun q => q.1))[i']? = some q.1 := by rw [List.getElem?_map, hq]; rfl
    rw [← h0, List.getElem?_map] at hg
    cases hw : (ws.set i e)[i']? with
    | none => rw [hw] at hg; cases hg
    | some q' => rw [hw] at hg; exact ⟨q', rfl, (Option.some.inj hg).trans hqe⟩
theorem PD_call {w1 : va_W} {H1 : Heap} {locs1 : List Loc} (hP : PD D A H0 ws H locs) (isC : List Nat) (hCm : isC.map (fun i => ws[i]?) = wc.map some) (hF : w1.map (fun q => q.1) = wc.map (fun q => q.1)) (hk : ∀ q : Nat, q < H.size → ¬ va_A wc H.size q → H1[q]? = H[q]?) (hP1 : va_P D classes w1 H1) (hS : va_S A H0 H1 locs1) : PD D A H0 (setL isC w1 ws) H1 locs1 := by
  have hl1 : w1.length = wc.length := by have := congrArg List.length hF; simpa using this
  have hl2 : isC.length = wc.length := by have := congrArg List.length hCm; simpa using this
  refine ⟨join_set hP.1 hP.2.1 isC hCm (hl2.trans hl1.symm) hk hP1, va_Dfst (setL_fst isC w1 ws ?_) hP.2.1, hS⟩
  intro j i e' hi he'
  have h1 : (isC.map (fun i => ws[i]?))[j]? = some ws[i]? := by rw [List.getElem?_map, hi]; rfl
  rw [hCm, List.getElem?_map] at h1
  have h2 : (w1.map (fun q => q.1))[j]? = some e'.1 := by rw [List.getElem?_map, he']; rfl
  rw [hF, List.getElem?_map] at h2
  cases hw : wc[j]? with
  | none => rw [hw] at h1; cases h1
  | some q =>
    rw [hw] at h1 h2
    exact ⟨q, (Option.some.inj h1).symm, Option.some.inj h2⟩
def CVw (own : String) (index : Nat) (C : String) (y : MethodName) (n : Nat) : Prop := (y.cls = C ∧ y.cls ≠ "java/lang/invoke/MethodHandle" ∧ y.cls ≠ "java/lang/invoke/VarHandle" ∧ (parseMethodDescriptor y.desc).map (fun d => d.parameters.length) = some n) ∧ Cond.methodLink own index y ∈ Tg ∧ Cond.instanceMethod y ∈ Tg ∧ Cond.selects C y y ∈ Tg ∧ Cond.initialized C ∈ Tg
def CSw (own : String) (index : Nat) (y : MethodName) (n : Nat) : Prop := (y.cls ≠ "java/lang/invoke/MethodHandle" ∧ y.cls ≠ "java/lang/invoke/VarHandle" ∧ (parseMethodDescriptor y.desc).map (fun d => d.parameters.length) = some n) ∧ Cond.methodLink own index y ∈ Tg ∧ Cond.static y ∈ Tg ∧ Cond.initialized y.cls ∈ Tg
def CNw (own : String) (index : Nat) (y : MethodName) (host : String) (n : Nat) : Prop := (y.cls ≠ "java/lang/invoke/MethodHandle" ∧ y.cls ≠ "java/lang/invoke/VarHandle" ∧ (parseMethodDescriptor y.desc).map (fun d => d.parameters.length) = some n) ∧ (own, index, y, host) ∈ NSt ∧ Cond.static y ∈ Tg ∧ Cond.initialized y.cls ∈ Tg
theorem PD_mP {U : State} (hC : CX p m c cc nL s args own D T) (hP : PD D A H0 ws H locs) (isC : List Nat) (hCm : isC.map (fun i => ws[i]?) = wc.map some) (hnd : va_nd isC = true) (hU : U.heap = H) (hW : s.WarmedH U.vm) : mP D T H.size wc U :=
  ⟨by rw [hU], by
    rw [hU]
    intro k q hk
    have h1 : (isC.map (fun i => ws[i]?))[k]? = some (some q) := by rw [hCm, List.getElem?_map, hk]; rfl
    rw [List.getElem?_map] at h1
    cases hi : isC[k]? with
    | none => rw [hi] at h1; cases h1
    | some i => rw [hi] at h1; exact hP.1 i q (Option.some.inj h1), va_K.moved hW.alike hC.2.2.2.2.1, (hP.2.1.sub isC hnd hCm).weaken (fun _ _ _ _ => trivial), hC.2.2.2.2.2.warm hW⟩
theorem kV {y : MethodName} {bytes : ByteArray} {maxL index n mc ms ci q0 : Nat} {ret : Option FieldType} {rm : Room} {C : String} {Qc : Array Value → State → Outcome → State → Prop} {free : Addr → Prop} {Tf : u_T} {N : Nat} {fs : List Value} (hC : CX p m c cc nL s args own D T) (hM : Met l y (mw y bytes maxL ret) rm (va_Pc (.ref b :: As) (mP D T H.size wc)) Qc mc ms free) (cv : CVw own index C y n) (co : Cond.code y bytes maxL ret ∈ Tg) (hrc : rm.cells = mc) (hrs : rm.slots = ms) (hR : rm.frames + 1 ≤ R.frames ∧ 8 + (maxL + 11) + rm.locals ≤ R.locals) (hP : PD D A H0 ws H locs) (isC : List Nat) (hCm : isC.map (fun i => ws[i]?) = wc.map some) (hnd : va_nd isC = true) (hcl : classes[ci]? = some (C, Tf, N)) (hrv : ws[q0]? = some (b, .inr (ci, fs)))
    (hn : As.length = n) (hstack : st0 = As.reverse ++ .ref b :: rest) (hsz : ls.size = nL) (hW : (rest.map fun v => v.category).sum ≤ 8) (hdg : decode cc pc = .ok (.invokevirtual index, 3)) (hf : cells + mc ≤ R.cells ∧ slots + ms ≤ R.slots) : va_Run p l e R s m args below meth c H locs cells slots mc ms (F0 m pc ls st0) rest (Qc (Value.ref b :: As).toArray) free := by
  obtain ⟨c1, c2, c3, c4, c5⟩ := cv
  refine va_runV (Ts := Tg) ⟨hC.1.1, hC.1.2, hC.2.1, hC.2.2.1, hC.2.2.2.1⟩ hM (cwV n hC.2.2.2.1 (fun w hw => ?_) rfl hrc hrs c1 hR) ⟨mP_blind, va_recv hC.2.2.2.2.1 hP.1 hcl hrv, fun U hU hW => ⟨rfl, PD_mP hC hP isC hCm hnd hU hW⟩⟩ rfl hn hsz hstack (lv_room (rest := st0) hW) hdg hf
  rcases List.mem_append.mp hw with h | h
  · have h' : w = .methodLink own index y ∨ w = .instanceMethod y ∨ w = .selects C y y ∨ w = .initialized C := by simpa using h
    rcases h' with h' | h' | h' | h'
    · rw [h']; exact good_Tg c2
    · rw [h']; exact good_Tg c3
    · rw [h']; exact good_Tg c4
    · rw [h']; exact good_Tg c5
  · exact good_mw co w h
theorem kS {y : MethodName} {bytes : ByteArray} {maxL index n mc ms : Nat} {ret : Option FieldType} {rm : Room} {Qc : Array Value → State → Outcome → State → Prop} {free : Addr → Prop} (hC : CX p m c cc nL s args own D T) (hM : Met l y (mw y bytes maxL ret) rm (va_Pc As (mP D T H.size wc)) Qc mc ms free) (cv : CSw own index y n) (co : Cond.code y bytes maxL ret ∈ Tg) (hrc : rm.cells = mc) (hrs : rm.slots = ms) (hR : rm.frames + 1 ≤ R.frames ∧ 8 + (maxL + 11) + rm.locals ≤ R.locals) (hP : PD D A H0 ws H locs) (isC : List Nat) (hCm : isC.map (fun i => ws[i]?) = wc.map some) (hnd : va_nd isC = true)
    (hn : As.length = n) (hstack : st0 = As.reverse ++ rest) (hsz : ls.size = nL) (hW : (rest.map fun v => v.category).sum ≤ 8) (hdg : decode cc pc = .ok (.invokestatic index, 3)) (hf : cells + mc ≤ R.cells ∧ slots + ms ≤ R.slots) : va_Run p l e R s m args below meth c H locs cells slots mc ms (F0 m pc ls st0) rest (Qc As.toArray) free := by
  obtain ⟨c1, c2, c3, c4⟩ := cv
  refine va_runS (Ts := Tg) ⟨hC.1.1, hC.1.2, hC.2.1, hC.2.2.1, hC.2.2.2.1⟩ hM (va_cwS n hC.2.2.2.1 (fun w hw => ?_) rfl hrc hrs c1 hR) ⟨mP_blind, fun U hU hW => ⟨rfl, PD_mP hC hP isC hCm hnd hU hW⟩⟩ rfl hn hsz hstack (lv_room (rest := st0) hW) hdg hf
  rcases List.mem_append.mp hw with h | h
  · have h' : w = .methodLink own index y ∨ w = .static y ∨ w = .initialized y.cls := by simpa using h
    rcases h' with h' | h' | h'
    · rw [h']; exact good_Tg c2
    · rw [h']; exact good_Tg c3
    · rw [h']; exact good_Tg c4
  · exact good_mw co w h
theorem kN {y : MethodName} {bytes : ByteArray} {maxL index n mc ms : Nat} {host : String} {ret : Option FieldType} {rm : Room} {Qc : Array Value → State → Outcome → State → Prop} {free : Addr → Prop} (hC : CX p m c cc nL s args own D T) (hM : Met l y (mw y bytes maxL ret) rm (va_Pc As (mP D T H.size wc)) Qc mc ms free) (cv : CNw own index y host n) (co : Cond.code y bytes maxL ret ∈ Tg) (hrc : rm.cells = mc) (hrs : rm.slots = ms) (hR : rm.frames + 1 ≤ R.frames ∧ 8 + (maxL + 11) + rm.locals ≤ R.locals) (hP : PD D A H0 ws H locs) (isC : List Nat) (hCm : isC.map (fun i => ws[i]?) = wc.map some) (hnd : va_nd isC = true)
    (hn : As.length = n) (hstack : st0 = As.reverse ++ rest) (hsz : ls.size = nL) (hW : (rest.map fun v => v.category).sum ≤ 8) (hdg : decode cc pc = .ok (.invokestatic index, 3)) (hf : cells + mc ≤ R.cells ∧ slots + ms ≤ R.slots) : va_Run p l e R s m args below meth c H locs cells slots mc ms (F0 m pc ls st0) rest (Qc As.toArray) free := by
  obtain ⟨c1, c2, c3, c4⟩ := cv
  exact va_runSN (Ts := Tg) ⟨hC.1.1, hC.1.2, hC.2.1, hC.2.2.1, hC.2.2.2.1⟩ hM ⟨va_cnB n hC.2.2.2.1 (good_mw co) rfl hrc hrs (hC.2.2.2.2.2.1 _ c2) (hC.2.2.2.1 _ c4) c1 hR, hC.2.2.2.1 _ c3, trivial⟩ ⟨mP_blind, fun U hU hW => ⟨rfl, PD_mP hC hP isC hCm hnd hU hW⟩⟩ rfl hn hsz hstack (lv_room (rest := st0) hW) hdg hf
theorem kc_free (hP : PD D A H0 ws H locs) (hA : ∀ q, H0.size ≤ q → A q) (isC : List Nat) (hCm : isC.map (fun i => ws[i]?) = wc.map some) : ∀ q, va_A wc H.size q → A q := va_free hP.2.1 hP.2.2 hA isC hCm
theorem kc_i {r0 : Int32} {S : Type} {w0 : S} {wd : S → va_W} {av : Array Value} (hr : va_Run p l e R s m args below meth c H locs cells slots 0 0 (F0 m pc ls st0) rest (va_Qi (fun r w => r = r0 ∧ w = w0) (fun u t => va_P D classes (wd u) t.heap) (va_A wc H.size) av) (va_A wc H.size)) (hP : PD D A H0 ws H locs) (hA : ∀ q, H0.size ≤ q → A q) (isC : List Nat) (hCm : isC.map (fun i => ws[i]?) = wc.map some) (hF : (wd w0).map (fun q => q.1) = wc.map (fun q => q.1))
    (kk : ∀ (H1 : Heap) (locs1 : List Loc), PD D A H0 (setL isC (wd w0) ws) H1 locs1 → W p l e R s m args below meth c H1 locs1 cells slots Q (F0 m (pc + 3) ls (.int r0 :: rest))) : W p l e R s m args below meth c H locs cells slots Q (F0 m pc ls st0) := by
  refine va_calli hr hP.2.2 (fun q _ h => kc_free hP hA isC hCm q h) (kc_free hP hA isC hCm) (fun r u t H1 locs1 ht hvm hw hB hz1 hk1 hS => ?_)
  obtain ⟨rfl, rfl⟩ := hw
  rw [ht] at hB
  exact kk H1 locs1 (PD_call hP isC hCm hF hk1 hB hS)
theorem kc_z {r0 : Int32} {S : Type} {w0 : S} {wd : S → va_W} {av : Array Value} (hr : va_Run p l e R s m args below meth c H locs cells slots 0 0 (F0 m pc ls st0) rest (va_Qi (fun r w => narrow .boolean (.int r) = .int r ∧ (r = r0 ∧ w = w0)) (fun u t => va_P D classes (wd u) t.heap) (va_A wc H.size) av) (va_A wc H.size)) (hP : PD D A H0 ws H locs) (hA : ∀ q, H0.size ≤ q → A q) (isC : List Nat) (hCm : isC.map (fun i => ws[i]?) = wc.map some) (hF : (wd w0).map (fun q => q.1) = wc.map (fun q => q.1))
    (kk : narrow .boolean (.int r0) = .int r0 → ∀ (H1 : Heap) (locs1 : List Loc), PD D A H0 (setL isC (wd w0) ws) H1 locs1 → W p l e R s m args below meth c H1 locs1 cells slots Q (F0 m (pc + 3) ls (.int r0 :: rest))) : W p l e R s m args below meth c H locs cells slots Q (F0 m pc ls st0) := by
  refine va_calli hr hP.2.2 (fun q _ h => kc_free hP hA isC hCm q h) (kc_free hP hA isC hCm) (fun r u t H1 locs1 ht hvm hw hB hz1 hk1 hS => ?_)
  obtain ⟨hn, rfl, rfl⟩ := hw
  rw [ht] at hB
  exact kk hn H1 locs1 (PD_call hP isC hCm hF hk1 hB hS)
theorem kc_l {r0 : Int64} {S : Type} {w0 : S} {wd : S → va_W} {av : Array Value} (hr : va_Run p l e R s m args below meth c H locs cells slots 0 0 (F0 m pc ls st0) rest (va_Ql (fun r w => r = r0 ∧ w = w0) (fun u t => va_P D classes (wd u) t.heap) (va_A wc H.size) av) (va_A wc H.size)) (hP : PD D A H0 ws H locs) (hA : ∀ q, H0.size ≤ q → A q) (isC : List Nat) (hCm : isC.map (fun i => ws[i]?) = wc.map some) (hF : (wd w0).map (fun q => q.1) = wc.map (fun q => q.1))
    (kk : ∀ (H1 : Heap) (locs1 : List Loc), PD D A H0 (setL isC (wd w0) ws) H1 locs1 → W p l e R s m args below meth c H1 locs1 cells slots Q (F0 m (pc + 3) ls (.long r0 :: rest))) : W p l e R s m args below meth c H locs cells slots Q (F0 m pc ls st0) := by
  refine va_calll hr hP.2.2 (fun q _ h => kc_free hP hA isC hCm q h) (kc_free hP hA isC hCm) (fun r u t H1 locs1 ht hvm hw hB hz1 hk1 hS => ?_)
  obtain ⟨rfl, rfl⟩ := hw
  rw [ht] at hB
  exact kk H1 locs1 (PD_call hP isC hCm hF hk1 hB hS)
theorem kc_v {S : Type} {w0 : S} {wd : S → va_W} {av : Array Value} (hr : va_Run p l e R s m args below meth c H locs cells slots 0 0 (F0 m pc ls st0) rest (va_Qv (fun w => w = w0) (fun u t => va_P D classes (wd u) t.heap) (va_A wc H.size) av) (va_A wc H.size)) (hP : PD D A H0 ws H locs) (hA : ∀ q, H0.size ≤ q → A q) (isC : List Nat) (hCm : isC.map (fun i => ws[i]?) = wc.map some) (hF : (wd w0).map (fun q => q.1) = wc.map (fun q => q.1))
    (kk : ∀ (H1 : Heap) (locs1 : List Loc), PD D A H0 (setL isC (wd w0) ws) H1 locs1 → W p l e R s m args below meth c H1 locs1 cells slots Q (F0 m (pc + 3) ls rest)) : W p l e R s m args below meth c H locs cells slots Q (F0 m pc ls st0) := by
  refine va_callv hr hP.2.2 (fun q _ h => kc_free hP hA isC hCm q h) (kc_free hP hA isC hCm) (fun u t H1 locs1 ht hvm hw hB hz1 hk1 hS => ?_)
  subst hw
  rw [ht] at hB
  exact kk H1 locs1 (PD_call hP isC hCm hF hk1 hB hS)
end ROWS
