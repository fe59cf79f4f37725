def b_X9_init_1  (j1 : Int32) (w2 : Int32) (w3 : (Nat → Int32)) : Option ((Int32 × Int32 × (Nat → Int32)) ⊕ (Int32 × Int32 × (Nat → Int32))) :=
if 105 ≤ j1 then (some (.inr (j1, w2, w3))) else
bnd (rd 105 chF j1) fun v5 =>
bnd (f_X5_append v5 w2 w3) <| u2 fun w6 w7 =>
some (.inl ((j1 + 1), w7, w6))
def f_X9_init : Option (Int32 × (Nat → Int32) × Int32 × Int32 × Int32 × (Nat → Int32) × Int32 × Int32 × (Nat → Int32) × (Nat → Int32) × Int32 × Int32 × Int64 × (Nat → Int32) × Int32 × Int32 × (Nat → Int32) × Int32 × Int32 × (Nat → Int32) × (Nat → Int32) × Int32 × Int32 × Int64 × Int32 × (Nat → Int32) × (Nat → Int32) × (Nat → Int32) × Int32 × (Nat → Nat) × (Nat → Nat → Int32) × (Nat → Int32) × (Nat → Int32) × Int32 × (Nat → Nat) × (Nat → Nat → Int32) × (Nat → Int32) × (Nat → Int32) × Int32 × Int32 × Int32 × Int32 × (Nat → Int32) × (Nat → Int32) × (Nat → Int32) × (Nat → Int32) × Int32 × Int32 × Int32 × (Nat → Int32)) :=
  bnd (lp (u3 b_X9_init_1) FU (0, 0, (fun _ => 0))) <| u3 fun j1x w2x w3x =>
  bnd (f_X9_layText w2x w3x 0 (fun _ => 0) (fun _ => 0) (fun _ => 0) (fun _ => 0) 0 0 (fun _ => 0) 0 0 (fun _ => 0) (fun _ => 0) 0 0 0 0 0 0) <| u26 fun r8 w9 w10 w11 w12 w13 w14 w15 w16 w17 w18 w19 w20 w21 w22 w23 w24 w25 w26 w27 w28 w29 w30 w31 w32 w33 =>
  bnd (f_X5_clear) <|  fun w34 =>
  some (w34, w3x, w20, w10, w11, w9, w14, w15, w12, w13, w16, w17, w18, w19, w22, w23, w21, w26, w27, w24, w25, w28, w29, w30, w31, (fun _ => 0), (fun _ => 0), (fun _ => 0), w32, (fun j => j), (fun _ _ => 0), (fun _ => 0), (fun _ => 0), w33, (fun j => j), (fun _ _ => 0), (fun _ => 0), (fun _ => 0), 0, 0, 0, 0, (fun _ => 0), (fun _ => 0), (fun _ => 0), (fun _ => 0), 0, 0, 0, (fun _ => 0))
