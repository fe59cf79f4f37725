def f_J6_bitCount_0f7a4 (x1 : Int32) : Option (Int32) :=
  bnd (some (x1 - (((x1.toUInt32 >>> (Int32.toUInt32 1 &&& Int32.toUInt32 31)).toInt32) &&& 1431655765))) fun v1 =>
  bnd (some ((v1 &&& 858993459) + (((v1.toUInt32 >>> (Int32.toUInt32 2 &&& Int32.toUInt32 31)).toInt32) &&& 858993459))) fun v2 =>
  bnd (some ((v2 + ((v2.toUInt32 >>> (Int32.toUInt32 4 &&& Int32.toUInt32 31)).toInt32)) &&& 252645135)) fun v3 =>
  bnd (some (v3 + ((v3.toUInt32 >>> (Int32.toUInt32 8 &&& Int32.toUInt32 31)).toInt32))) fun v4 =>
  bnd (some (v4 + ((v4.toUInt32 >>> (Int32.toUInt32 16 &&& Int32.toUInt32 31)).toInt32))) fun v5 =>
  some (v5 &&& 63)
def f_J13_bitCount_95d88 (x1 : Int64) : Option (Int32) :=
  bnd (some (x1 - (((x1.toUInt64 >>> ((Int32.toInt64 1).toUInt64 &&& Int64.toUInt64 63)).toInt64) &&& 6148914691236517205))) fun v1 =>
  bnd (some ((v1 &&& 3689348814741910323) + (((v1.toUInt64 >>> ((Int32.toInt64 2).toUInt64 &&& Int64.toUInt64 63)).toInt64) &&& 3689348814741910323))) fun v2 =>
  bnd (some ((v2 + ((v2.toUInt64 >>> ((Int32.toInt64 4).toUInt64 &&& Int64.toUInt64 63)).toInt64)) &&& 1085102592571150095)) fun v3 =>
  bnd (some (v3 + ((v3.toUInt64 >>> ((Int32.toInt64 8).toUInt64 &&& Int64.toUInt64 63)).toInt64))) fun v4 =>
  bnd (some (v4 + ((v4.toUInt64 >>> ((Int32.toInt64 16).toUInt64 &&& Int64.toUInt64 63)).toInt64))) fun v5 =>
  bnd (some (v5 + ((v5.toUInt64 >>> ((Int32.toInt64 32).toUInt64 &&& Int64.toUInt64 63)).toInt64))) fun v6 =>
  some ((Int64.toInt32 v6) &&& 127)
def b_J7_fill_53178_1 (n1 : Nat) (x2 : Int32) (j1 : Int32) (w2 : (Nat → Int32)) : Option ((Int32 × (Nat → Int32)) ⊕ (Int32 × (Nat → Int32))) :=
if (nI n1) ≤ j1 then (some (.inr (j1, w2))) else
bnd (wr n1 w2 j1 x2) fun a4 =>
some (.inl ((j1 + 1), a4))
def f_J7_fill_53178 (x2 : Int32) (n1 : Nat) (f1 : (Nat → Int32)) : Option ((Nat → Int32)) :=
  bnd (lp (u2 (b_J7_fill_53178_1 n1 x2)) FU (0, f1)) <| u2 fun j1x w2x =>
  some w2x
def f_X9_within (x1 : Int32) (x2 : Int32) (x3 : Int32) : Option (Int32) :=
  if x1 < x2 then (some 0) else
  if x3 < x1 then (some 0) else
  some 1
def f_X9_isSide (x1 : Int32) : Option (Int32) :=
  if x1 = 0 then (some 1) else
  if x1 = 1 then (some 1) else
  some 0
def f_X9_isClog (x1 : Int32) (x2 : Int32) (x3 : Int32) (x4 : Int32) : Option (Int32) :=
  bnd (f_X9_within x1 0 3) <|  fun r1 =>
  if r1 = 0 then (some 0) else
  bnd (f_X9_isSide x2) <|  fun r3 =>
  if r3 = 0 then (some 0) else
  bnd (f_X9_within x3 12 72) <|  fun r5 =>
  if r5 = 0 then (some 0) else
  bnd (f_X9_within x4 1 40) <|  fun r7 =>
  if r7 = 0 then (some 0) else
  some 1
def f_X9_at (x2 : Int32) (n1 : Nat) (f1 : (Nat → Int32)) : Option (Int32) :=
  if x2 < 0 then (some 0) else
  if x2 < (nI n1) then (bnd (rd n1 f1 x2) fun v3 =>
  some v3) else
  some 0
def f_X9_put (x2 : Int32) (x3 : Int32) (n1 : Nat) (f1 : (Nat → Int32)) : Option ((Nat → Int32)) :=
  if x2 < 0 then (some f1) else
  if (nI n1) ≤ x2 then (some f1) else
  bnd (wr n1 f1 x2 x3) fun a3 =>
  some a3
def f_X9_copyRow (n1 : Nat) (n2 : Nat) (f1 : (Nat → Int32)) (f2 : (Nat → Int32)) : Option ((Nat → Int32)) :=
  bnd (some (if (nI n2) < (nI n1) then (nI n2) else (nI n1))) fun v1 =>
  bnd (acp n1 n2 f1 f2 0 0 v1) fun a2 =>
  some a2
def f_X9_hasBit (x1 : Int32) (x2 : Int32) : Option (Int32) :=
  if x2 < 0 then (some 0) else
  if 31 ≤ x2 then (some 0) else
  if ((x1 >>> (x2 &&& 31)) &&& 1) = 0 then (some 0) else
  some 1
def b_X9_power_1 (x1 : Int32) (x2 : Int32) (j1 : Int64) (j2 : Int32) : Option ((Int64 × Int32) ⊕ (Int64 × Int32)) :=
if x2 ≤ j2 then (some (.inr (j1, j2))) else
some (.inl ((j1 * (Int32.toInt64 x1)), (j2 + 1)))
def f_X9_power (x1 : Int32) (x2 : Int32) : Option (Int64) :=
  bnd (lp (u2 (b_X9_power_1 x1 x2)) FU (1, 0)) <| u2 fun j1x j2x =>
  some j1x
def b_X9_commonDivisorWithTen_1 (x1 : Int32) (j1 : Int32) : Option ((Int32) ⊕ ((Int32) ⊕ (Int32))) :=
if j1 ≤ 1 then (some (.inr (.inl j1))) else
bnd (rmI x1 j1) fun v3 =>
if v3 = 0 then (bnd (rmI 10 j1) fun v5 =>
if v5 = 0 then (some (.inr (.inr j1))) else
some (.inl (j1 + (-1)))) else
some (.inl (j1 + (-1)))
def f_X9_commonDivisorWithTen (x1 : Int32) : Option (Int32) :=
  bndE (lp ((b_X9_commonDivisorWithTen_1 x1)) FU 10) (fun j1x =>
  some 1) (fun q => some q)
def b_X9_cutsInTheMean_1 (x1 : Int32) (x2 : Int32) (x3 : Int32) (j1 : Int64) (j2 : Int64) (j3 : Int32) : Option ((Int64 × Int64 × Int32) ⊕ (Int64 × Int64 × Int32)) :=
if (2 * x1) ≤ j3 then (some (.inr (j1, j2, j3))) else
if x3 = 0 then (if x1 ≤ j3 then (bnd (some (j2 * (Int32.toInt64 (100 - (((j3 - x1) + 1) * x2))))) fun v7 =>
some (.inl (((j1 * 100) + j2), v7, (j3 + 1)))) else
bnd (some (j2 * (Int32.toInt64 (100 - ((j3 + 1) * x2))))) fun v8 =>
some (.inl (((j1 * 100) + j2), v8, (j3 + 1)))) else
bnd (some (j2 * (Int32.toInt64 (100 - (((j3 / 2) + 1) * x2))))) fun v9 =>
some (.inl (((j1 * 100) + j2), v9, (j3 + 1)))
def f_X9_cutsInTheMean (x1 : Int32) (x2 : Int32) (x3 : Int32) : Option (Int64) :=
  bnd (lp (u3 (b_X9_cutsInTheMean_1 x1 x2 x3)) FU (0, 1, 0)) <| u3 fun j1x j2x j3x =>
  some j1x
def f_X0_clear  : Option (Int32 × Int32 × Int64) :=
  some (20, 4, 0)
def f_X0_copy (o1_length : Int32) (o1_block : Int32) (o1_knots : Int64) : Option (Int32 × Int32 × Int64) :=
  some (o1_length, o1_block, o1_knots)
def f_X0_knotsInside (length : Int32) (knots : Int64) : Option (Int32) :=
  bnd (f_J13_bitCount_95d88 (knots &&& ((1 <<< ((Int32.toInt64 length) &&& 63)) - 1))) <|  fun r1 =>
  some r1
def f_X0_isBlock (x1 : Int32) (length : Int32) (block : Int32) (knots : Int64) : Option (Int32) :=
  bnd (some (((1 <<< ((Int32.toInt64 block) &&& 63)) - 1) <<< ((Int32.toInt64 x1) &&& 63))) fun v1 =>
  if length < (x1 + block) then (some 0) else
  if (lg_cmp (knots &&& v1) 0) = 0 then (some 1) else
  some 0
def b_X0_saw_1 (block : Int32) (knots : Int64) (length : Int32) (x1 : Int32) (j1 : Int32) (j2 : Int32) (j3 : Int32) : Option ((Int32 × Int32 × Int32) ⊕ ((Int32 × Int32 × Int32) ⊕ (Int32))) :=
if length ≤ j3 then (some (.inr (.inl (j1, j2, j3)))) else
if j3 < j2 then (some (.inl (j1, j2, (j3 + 1)))) else
bnd (f_X0_isBlock j3 length block knots) <|  fun r6 =>
if r6 = 0 then (some (.inl (j1, j2, (j3 + 1)))) else
if j1 = x1 then (some (.inr (.inr j3))) else
some (.inl ((j1 + 1), (j3 + block), (j3 + 1)))
def f_X0_saw (x1 : Int32) (length : Int32) (block : Int32) (knots : Int64) : Option (Int32) :=
  bndE (lp (u3 (b_X0_saw_1 block knots length x1)) FU (0, 0, 0)) (u3 (fun j1x j2x j3x =>
  if x1 = (-1) then (some j1x) else
  some (-4))) (fun q => some q)
def f_X5_append (x1 : Int32) (length : Int32) (letters : (Nat → Int32)) : Option ((Nat → Int32) × Int32) :=
  if length < 0 then (some (letters, length)) else
  if 200 ≤ length then (some (letters, length)) else
  bnd (wr 200 letters length (vp_nar .char ((Int32.toUInt32 x1 % 65536).toInt32))) fun a3 =>
  some (a3, (length + 1))
def f_X5_clear  : Option (Int32) :=
  some 0
def f_X5_letterAt (x1 : Int32) (length : Int32) (letters : (Nat → Int32)) : Option (Int32) :=
  if x1 < 0 then (some 0) else
  if length ≤ x1 then (some 0) else
  if x1 < 200 then (bnd (rd 200 letters x1) fun v4 =>
  some v4) else
  some 0
def f_X5_figureAt (x1 : Int32) (length : Int32) (letters : (Nat → Int32)) : Option (Int32) :=
  bnd (f_X5_letterAt x1 length letters) <|  fun r1 =>
  if r1 < 48 then (some (-1)) else
  if 57 < r1 then (some (-1)) else
  some (r1 - 48)
def f_X6_clear  : Option (Int32 × Int32) :=
  some (0, 2)
def f_X6_copy (lefts_ : (Nat → Int32)) (rights_ : (Nat → Int32)) (o1_number : Int32) (o1_stocking : Int32) (o1_lefts : (Nat → Int32)) (o1_rights : (Nat → Int32)) : Option ((Nat → Int32) × (Nat → Int32) × Int32 × Int32) :=
  bnd (f_X9_copyRow 5 5 o1_lefts lefts_) <|  fun w1 =>
  bnd (f_X9_copyRow 5 5 o1_rights rights_) <|  fun w2 =>
  some (w1, w2, o1_number, o1_stocking)
def f_X6_add (x1 : Int32) (x2 : Int32) (number : Int32) (lefts_ : (Nat → Int32)) (rights_ : (Nat → Int32)) : Option ((Nat → Int32) × (Nat → Int32) × Int32) :=
  if 5 ≤ number then (some (lefts_, rights_, number)) else
  bnd (f_X9_put number x1 5 lefts_) <|  fun w2 =>
  bnd (f_X9_put number x2 5 rights_) <|  fun w3 =>
  some (w2, w3, (number + 1))
def f_X6_foot (x1 : Int32) (x2 : Int32) (lefts_ : (Nat → Int32)) (rights_ : (Nat → Int32)) : Option (Int32) :=
  if x2 = 0 then (bnd (f_X9_at x1 5 lefts_) <|  fun r3 =>
  some r3) else
  bnd (f_X9_at x1 5 rights_) <|  fun r2 =>
  some r2
def f_X6_suits (x1 : Int32) (x2 : Int32) (x3 : Int32) (stocking : Int32) (lefts_ : (Nat → Int32)) (rights_ : (Nat → Int32)) : Option (Int32) :=
  bnd (f_X6_foot x1 x2 lefts_ rights_) <|  fun r1 =>
  bnd (f_X9_within x3 (r1 + stocking) ((r1 + stocking) + 4)) <|  fun r2 =>
  some r2
def f_X7_add (x1 : Int32) (x2 : Int32) (x3 : Int32) (sounds : Int32) (clogs : (Nat → Int32)) (limits : (Nat → Int32)) (clears : (Nat → Int32)) : Option ((Nat → Int32) × (Nat → Int32) × (Nat → Int32) × Int32) :=
  if 8 ≤ sounds then (some (clogs, limits, clears, sounds)) else
  bnd (f_X9_put sounds x1 8 clogs) <|  fun w2 =>
  bnd (f_X9_put sounds x2 8 limits) <|  fun w3 =>
  bnd (f_X9_put sounds x3 8 clears) <|  fun w4 =>
  some (w2, w3, w4, (sounds + 1))
def b_X7_agrees_1 (clears : (Nat → Int32)) (clogs : (Nat → Int32)) (limits : (Nat → Int32)) (sounds : Int32) (x1 : Int32) (x2 : Int32) (j1 : Int32) : Option ((Int32) ⊕ ((Int32) ⊕ (Int32))) :=
if sounds ≤ j1 then (some (.inr (.inl j1))) else
bnd (f_X9_at j1 8 limits) <|  fun r3 =>
if r3 < x2 then (bnd (f_X9_at j1 8 clogs) <|  fun r5 =>
if r5 = x1 then (bnd (f_X9_at j1 8 clears) <|  fun r7 =>
if r7 = 0 then (some (.inl (j1 + 1))) else
some (.inr (.inr 0))) else
some (.inl (j1 + 1))) else
bnd (f_X9_at j1 8 clogs) <|  fun r9 =>
if r9 = x1 then (bnd (f_X9_at j1 8 clears) <|  fun r11 =>
if r11 = 1 then (some (.inl (j1 + 1))) else
some (.inr (.inr 0))) else
some (.inl (j1 + 1))
def f_X7_agrees (x1 : Int32) (x2 : Int32) (sounds : Int32) (clogs : (Nat → Int32)) (limits : (Nat → Int32)) (clears : (Nat → Int32)) : Option (Int32) :=
  bndE (lp ((b_X7_agrees_1 clears clogs limits sounds x1 x2)) FU 0) (fun j1x =>
  some 1) (fun q => some q)
def b_X7_thicknesses_1 (clears : (Nat → Int32)) (clogs : (Nat → Int32)) (limits : (Nat → Int32)) (sounds : Int32) (x1 : Int32) (j1 : Int32) (j2 : Int32) : Option ((Int32 × Int32) ⊕ (Int32 × Int32)) :=
if 9 < j2 then (some (.inr (j1, j2))) else
bnd (f_X7_agrees x1 j2 sounds clogs limits clears) <|  fun r4 =>
if r4 = 0 then (some (.inl (j1, (j2 + 1)))) else
some (.inl ((j1 ||| (1 <<< (j2 &&& 31))), (j2 + 1)))
def f_X7_thicknesses (x1 : Int32) (sounds : Int32) (clogs : (Nat → Int32)) (limits : (Nat → Int32)) (clears : (Nat → Int32)) : Option (Int32) :=
  bnd (lp (u2 (b_X7_thicknesses_1 clears clogs limits sounds x1)) FU (0, 1)) <| u2 fun j1x j2x =>
  some j1x
def f_X4_clear  : Option (Int32 × Int32) :=
  some (0, 0)
def f_X4_copy (cells : (Nat → Int32)) (o1_clogs : Int32) (o1_day : Int32) (o1_cells : (Nat → Int32)) : Option ((Nat → Int32) × Int32 × Int32) :=
  bnd (f_X9_copyRow 50 50 o1_cells cells) <|  fun w1 =>
  some (w1, o1_clogs, o1_day)
def f_X4_holds (x1 : Int32) (clogs : Int32) : Option (Int32) :=
  bnd (f_X9_within x1 0 (clogs - 1)) <|  fun r1 =>
  some r1
def f_X4_cell (x1 : Int32) (x2 : Int32) (clogs : Int32) (cells : (Nat → Int32)) : Option (Int32) :=
  if x1 < 0 then (some 0) else
  if clogs ≤ x1 then (some 0) else
  if x2 < 0 then (some 0) else
  if x2 < 5 then (if 50 ≤ ((x1 * 5) + x2) then (some 0) else
  bnd (rd 50 cells ((x1 * 5) + x2)) fun v6 =>
  some v6) else
  some 0
def f_X4_pierce (x1 : Int32) (clogs : Int32) (cells : (Nat → Int32)) : Option ((Nat → Int32)) :=
  bnd (f_X4_holds x1 clogs) <|  fun r1 =>
  if r1 = 0 then (some cells) else
  bnd (f_X9_put ((x1 * 5) + 0) 2 50 cells) <|  fun w3 =>
  some w3
def f_X4_isOfSide (x1 : Int32) (x2 : Int32) (clogs : Int32) (cells : (Nat → Int32)) : Option (Int32) :=
  bnd (f_X4_holds x1 clogs) <|  fun r1 =>
  if r1 = 0 then (some 0) else
  bnd (f_X4_cell x1 1 clogs cells) <|  fun r3 =>
  if r3 = x2 then (some 1) else
  some 0
def b_X4_ofSide_1 (cells : (Nat → Int32)) (clogs : Int32) (x1 : Int32) (j1 : Int32) (j2 : Int32) : Option ((Int32 × Int32) ⊕ (Int32 × Int32)) :=
if clogs ≤ j2 then (some (.inr (j1, j2))) else
bnd (f_X4_isOfSide j2 x1 clogs cells) <|  fun r4 =>
if r4 = 0 then (some (.inl (j1, (j2 + 1)))) else
some (.inl ((j1 ||| (1 <<< (j2 &&& 31))), (j2 + 1)))
def f_X4_ofSide (x1 : Int32) (clogs : Int32) (cells : (Nat → Int32)) : Option (Int32) :=
  bnd (lp (u2 (b_X4_ofSide_1 cells clogs x1)) FU (0, 0)) <| u2 fun j1x j2x =>
  some j1x
def b_X4_holedOnes_1 (cells : (Nat → Int32)) (clogs : Int32) (j1 : Int32) (j2 : Int32) : Option ((Int32 × Int32) ⊕ (Int32 × Int32)) :=
if clogs ≤ j2 then (some (.inr (j1, j2))) else
bnd (f_X4_cell j2 0 clogs cells) <|  fun r4 =>
if r4 = 2 then (some (.inl ((j1 + 1), (j2 + 1)))) else
some (.inl (j1, (j2 + 1)))
def f_X4_holedOnes (clogs : Int32) (cells : (Nat → Int32)) : Option (Int32) :=
  bnd (lp (u2 (b_X4_holedOnes_1 cells clogs)) FU (0, 0)) <| u2 fun j1x j2x =>
  some j1x
def f_X4_add (x1 : Int32) (x2 : Int32) (x3 : Int32) (x4 : Int32) (clogs : Int32) (day : Int32) (cells : (Nat → Int32)) : Option ((Nat → Int32) × Int32) :=
  if 10 ≤ clogs then (some (cells, clogs)) else
  bnd (f_X9_put ((clogs * 5) + 0) x1 50 cells) <|  fun w2 =>
  bnd (f_X9_put ((clogs * 5) + 1) x2 50 w2) <|  fun w3 =>
  bnd (f_X9_put ((clogs * 5) + 2) x3 50 w3) <|  fun w4 =>
  bnd (f_X9_put ((clogs * 5) + 3) x4 50 w4) <|  fun w5 =>
  bnd (f_X9_put ((clogs * 5) + 4) day 50 w5) <|  fun w6 =>
  some (w6, (clogs + 1))
def b_X4_removeOne_1 (clogs : Int32) (j3 : Int32) (w4 : (Nat → Int32)) : Option ((Int32 × (Nat → Int32)) ⊕ (Int32 × (Nat → Int32))) :=
if ((clogs - 1) * 5) ≤ j3 then (some (.inr (j3, w4))) else
bnd (f_X9_at (j3 + 5) 50 w4) <|  fun r6 =>
bnd (f_X9_put j3 r6 50 w4) <|  fun w7 =>
some (.inl ((j3 + 1), w7))
def f_X4_removeOne (x1 : Int32) (clogs : Int32) (cells : (Nat → Int32)) : Option ((Nat → Int32) × Int32) :=
  bnd (f_X4_holds x1 clogs) <|  fun r1 =>
  if r1 = 0 then (some (cells, clogs)) else
  bnd (lp (u2 (b_X4_removeOne_1 clogs)) FU ((x1 * 5), cells)) <| u2 fun j3x w4x =>
  some (w4x, (clogs - 1))
def f_X4_removeTwo (x1 : Int32) (x2 : Int32) (clogs : Int32) (cells : (Nat → Int32)) : Option ((Nat → Int32) × Int32) :=
  bnd (some (if x1 < x2 then x2 else x1)) fun v1 =>
  bnd (f_X4_removeOne v1 clogs cells) <| u2 fun w2 w3 =>
  bnd (some (if x2 < x1 then x2 else x1)) fun v4 =>
  bnd (f_X4_removeOne v4 w3 w2) <| u2 fun w5 w6 =>
  some (w5, w6)
def f_X4_driedBy (x1 : Int32) (x2 : Int32) (clogs : Int32) (cells : (Nat → Int32)) : Option (Int32) :=
  bnd (f_X4_cell x1 0 clogs cells) <|  fun r1 =>
  if r1 = 1 then (bnd (f_X4_cell x1 4 clogs cells) <|  fun r3 =>
  bnd (some (if 0 < (x2 - r3) then (x2 - r3) else 0)) fun v4 =>
  bnd (some (if v4 < 30 then v4 else 30)) fun v5 =>
  some v5) else
  some 0
def f_X4_sizeOn (x1 : Int32) (x2 : Int32) (clogs : Int32) (cells : (Nat → Int32)) : Option (Int32) :=
  bnd (f_X4_cell x1 2 clogs cells) <|  fun r1 =>
  bnd (f_X4_driedBy x1 x2 clogs cells) <|  fun r2 =>
  some (r1 - ((r1 * r2) / 360))
def f_X4_weightOn (x1 : Int32) (x2 : Int32) (clogs : Int32) (cells : (Nat → Int32)) : Option (Int32) :=
  bnd (f_X4_cell x1 3 clogs cells) <|  fun r1 =>
  bnd (f_X4_cell x1 0 clogs cells) <|  fun r2 =>
  if r2 = 3 then (bnd (f_X4_driedBy x1 x2 clogs cells) <|  fun r5 =>
  some ((r1 - ((r1 * r5) / 90)) + 2)) else
  bnd (f_X4_driedBy x1 x2 clogs cells) <|  fun r4 =>
  some ((r1 - ((r1 * r4) / 90)) + 0)
def f_X4_areAlikeOn (x1 : Int32) (x2 : Int32) (x3 : Int32) (clogs : Int32) (cells : (Nat → Int32)) : Option (Int32) :=
  bnd (f_X4_isOfSide x1 0 clogs cells) <|  fun r1 =>
  if r1 = 0 then (some 0) else
  bnd (f_X4_isOfSide x2 1 clogs cells) <|  fun r3 =>
  if r3 = 0 then (some 0) else
  bnd (f_X4_cell x1 0 clogs cells) <|  fun r5 =>
  if r5 = 2 then (some 0) else
  bnd (f_X4_cell x2 0 clogs cells) <|  fun r7 =>
  if r7 = 2 then (some 0) else
  bnd (f_X4_sizeOn x1 x3 clogs cells) <|  fun r9 =>
  bnd (f_X4_sizeOn x2 x3 clogs cells) <|  fun r10 =>
  bnd (some (if 0 ≤ (r9 - r10) then (r9 - r10) else 0 - (r9 - r10))) fun v11 =>
  if 1 < v11 then (some 0) else
  bnd (f_X4_weightOn x1 x3 clogs cells) <|  fun r13 =>
  bnd (f_X4_weightOn x2 x3 clogs cells) <|  fun r14 =>
  bnd (some (if 0 ≤ (r13 - r14) then (r13 - r14) else 0 - (r13 - r14))) fun v15 =>
  if 3 < v15 then (some 0) else
  some 1
def b_X4_matesOf_1 (cells : (Nat → Int32)) (clogs : Int32) (day : Int32) (x1 : Int32) (j1 : Int32) (j2 : Int32) : Option ((Int32 × Int32) ⊕ (Int32 × Int32)) :=
if clogs ≤ j2 then (some (.inr (j1, j2))) else
bnd (f_X4_areAlikeOn x1 j2 day clogs cells) <|  fun r4 =>
if r4 = 0 then (bnd (f_X4_areAlikeOn j2 x1 day clogs cells) <|  fun r6 =>
if r6 = 0 then (some (.inl (j1, (j2 + 1)))) else
some (.inl ((j1 ||| (1 <<< (j2 &&& 31))), (j2 + 1)))) else
some (.inl ((j1 ||| (1 <<< (j2 &&& 31))), (j2 + 1)))
def f_X4_matesOf (x1 : Int32) (clogs : Int32) (day : Int32) (cells : (Nat → Int32)) : Option (Int32) :=
  bnd (lp (u2 (b_X4_matesOf_1 cells clogs day x1)) FU (0, 0)) <| u2 fun j1x j2x =>
  some j1x
def b_X4_unholedFrom_1 (cells : (Nat → Int32)) (clogs : Int32) (day : Int32) (x1 : Int32) (x2 : Int32) (j1 : Int32) (j2 : Int32) : Option ((Int32 × Int32) ⊕ (Int32 × Int32)) :=
if clogs ≤ j2 then (some (.inr (j1, j2))) else
bnd (f_X4_cell j2 0 clogs cells) <|  fun r4 =>
if r4 = 2 then (some (.inl (j1, (j2 + 1)))) else
bnd (f_X4_sizeOn j2 day clogs cells) <|  fun r6 =>
bnd (f_X9_within r6 x1 ((x1 + x2) - 1)) <|  fun r7 =>
if r7 = 0 then (some (.inl (j1, (j2 + 1)))) else
some (.inl ((j1 + 1), (j2 + 1)))
def f_X4_unholedFrom (x1 : Int32) (x2 : Int32) (clogs : Int32) (day : Int32) (cells : (Nat → Int32)) : Option (Int32) :=
  bnd (lp (u2 (b_X4_unholedFrom_1 cells clogs day x1 x2)) FU (0, 0)) <| u2 fun j1x j2x =>
  some j1x
def f_X8_drawOf (x1 : Int32) (x2 : Int32) : Option (Int32) :=
  bnd (some (((7919 * (Int32.toInt64 x1)) + (6151 * (Int32.toInt64 x2))) + 1)) fun v1 =>
  some (Int64.toInt32 (((v1 * v1) - (v1 * v1) / 65521 * 65521) / 4))
def b_X8_sendFirstPair_2 (j1 : Int32) (shelf_cells : (Nat → Int32)) (shelf_clogs : Int32) (shelf_day : Int32) (wentAsPairs : Int32) (j3 : Int32) : Option ((Int32) ⊕ ((Int32) ⊕ ((Nat → Int32) × Int32 × Int32))) :=
if shelf_clogs ≤ j3 then (some (.inr (.inl j3))) else
bnd (f_X4_areAlikeOn j1 j3 shelf_day shelf_clogs shelf_cells) <|  fun r5 =>
if r5 = 0 then (some (.inl (j3 + 1))) else
bnd (f_X4_removeTwo j1 j3 shelf_clogs shelf_cells) <| u2 fun w7 w8 =>
some (.inr (.inr (w7, w8, (wentAsPairs + 1))))
def b_X8_sendFirstPair_1 (shelf_cells : (Nat → Int32)) (shelf_clogs : Int32) (shelf_day : Int32) (wentAsPairs : Int32) (j1 : Int32) : Option ((Int32) ⊕ ((Int32) ⊕ ((Nat → Int32) × Int32 × Int32))) :=
if shelf_clogs ≤ j1 then (some (.inr (.inl j1))) else
bndE (lp ((b_X8_sendFirstPair_2 j1 shelf_cells shelf_clogs shelf_day wentAsPairs)) FU 0) (fun j3x =>
some (.inl (j1 + 1))) (fun q => some (.inr (.inr q)))
def f_X8_sendFirstPair (wentAsPairs : Int32) (shelf_clogs : Int32) (shelf_day : Int32) (shelf_cells : (Nat → Int32)) : Option ((Nat → Int32) × Int32 × Int32) :=
  bndE (lp ((b_X8_sendFirstPair_1 shelf_cells shelf_clogs shelf_day wentAsPairs)) FU 0) (fun j1x =>
  some (shelf_cells, shelf_clogs, wentAsPairs)) (fun q => some q)
def b_X8_live_1 (x2 : Int32) (x3 : Int32) (j4 : Int32) (w5 : Int32) (w6 : Int32) (w7 : Int32) (w8 : (Nat → Int32)) : Option ((Int32 × Int32 × Int32 × Int32 × (Nat → Int32)) ⊕ (Int32 × Int32 × Int32 × Int32 × (Nat → Int32))) :=
if x3 ≤ j4 then (some (.inr (j4, w5, w6, w7, w8))) else
if 10 ≤ w6 then (bnd (f_X8_sendFirstPair w5 w6 w7 w8) <| u3 fun w11 w12 w13 =>
some (.inl ((j4 + 1), w13, w12, (w7 + 1), w11))) else
bnd (f_X8_drawOf x2 j4) <|  fun r14 =>
bnd (f_X4_add 0 (r14 - r14 / 2 * 2) (30 + ((r14 / 2) - (r14 / 2) / 12 * 12)) (10 + ((r14 / 32) - (r14 / 32) / 5 * 5)) w6 w7 w8) <| u2 fun w15 w16 =>
bnd (f_X8_sendFirstPair w5 w16 w7 w15) <| u3 fun w17 w18 w19 =>
some (.inl ((j4 + 1), w19, w18, (w7 + 1), w17))
def f_X8_live (x2 : Int32) (x3 : Int32) (shelf_cells : (Nat → Int32)) (o1_clogs : Int32) (o1_day : Int32) (o1_cells : (Nat → Int32)) : Option ((Nat → Int32) × Int32 × Int32 × Int32) :=
  bnd (f_X4_copy shelf_cells o1_clogs o1_day o1_cells) <| u3 fun w1 w2 w3 =>
  bnd (lp (u5 (b_X8_live_1 x2 x3)) FU (0, 0, w2, w3, w1)) <| u5 fun j4x w5x w6x w7x w8x =>
  some (w8x, w6x, w7x, w5x)
def b_X3_readNumbers_1 (o1_length : Int32) (o1_letters : (Nat → Int32)) (j1 : Int32) (j2 : Int32) (w3 : Int32) (w4 : (Nat → Int32)) : Option ((Int32 × Int32 × Int32 × (Nat → Int32)) ⊕ ((Int32 × Int32 × Int32 × (Nat → Int32)) ⊕ (Int32 × (Nat → Int32) × Int32))) :=
if 4 ≤ j2 then (some (.inr (.inl (j1, j2, w3, w4)))) else
bnd (f_X5_figureAt j1 o1_length o1_letters) <|  fun r6 =>
if 0 ≤ r6 then (bnd (f_X5_figureAt (j1 + 1) o1_length o1_letters) <|  fun r8 =>
if r8 < 0 then (bnd (f_X9_put j2 r6 4 w4) <|  fun w10 =>
bnd (f_X5_letterAt (j1 + 1) o1_length o1_letters) <|  fun r11 =>
if r11 = 59 then (some (.inr (.inr (((j1 + 1) + 1), w10, (j2 + 1))))) else
if r11 = 44 then (some (.inl (((j1 + 1) + 1), (j2 + 1), (j2 + 1), w10))) else
some (.inr (.inr ((-1), w10, (j2 + 1))))) else
bnd (f_X9_put j2 ((r6 * 10) + r8) 4 w4) <|  fun w14 =>
bnd (f_X5_letterAt ((j1 + 1) + 1) o1_length o1_letters) <|  fun r15 =>
if r15 = 59 then (some (.inr (.inr ((((j1 + 1) + 1) + 1), w14, (j2 + 1))))) else
if r15 = 44 then (some (.inl ((((j1 + 1) + 1) + 1), (j2 + 1), (j2 + 1), w14))) else
some (.inr (.inr ((-1), w14, (j2 + 1))))) else
some (.inr (.inr ((-1), w4, w3)))
def f_X3_readNumbers (x2 : Int32) (told : Int32) (numbers : (Nat → Int32)) (o1_length : Int32) (o1_letters : (Nat → Int32)) : Option (Int32 × (Nat → Int32) × Int32) :=
  bndE (lp (u4 (b_X3_readNumbers_1 o1_length o1_letters)) FU (x2, 0, told, numbers)) (u4 (fun j1x j2x w3x w4x =>
  some ((-1), w4x, w3x))) (fun q => some q)
def f_X3_takeClog (told : Int32) (shelf_clogs : Int32) (shelf_day : Int32) (shelf_cells : (Nat → Int32)) (numbers : (Nat → Int32)) : Option (Int32 × (Nat → Int32) × Int32) :=
  if told = 4 then (if 10 ≤ shelf_clogs then (some (0, shelf_cells, shelf_clogs)) else
  bnd (f_X9_at 0 4 numbers) <|  fun r3 =>
  bnd (f_X9_at 1 4 numbers) <|  fun r4 =>
  bnd (f_X9_at 2 4 numbers) <|  fun r5 =>
  bnd (f_X9_at 3 4 numbers) <|  fun r6 =>
  bnd (f_X9_isClog r3 r4 r5 r6) <|  fun r7 =>
  if r7 = 0 then (some (0, shelf_cells, shelf_clogs)) else
  bnd (f_X9_at 0 4 numbers) <|  fun r9 =>
  bnd (f_X9_at 1 4 numbers) <|  fun r10 =>
  bnd (f_X9_at 2 4 numbers) <|  fun r11 =>
  bnd (f_X9_at 3 4 numbers) <|  fun r12 =>
  bnd (f_X4_add r9 r10 r11 r12 shelf_clogs shelf_day shelf_cells) <| u2 fun w13 w14 =>
  some (1, w13, w14)) else
  some (0, shelf_cells, shelf_clogs)
def f_X3_takeFeet (told : Int32) (waiting_number : Int32) (waiting_lefts : (Nat → Int32)) (waiting_rights : (Nat → Int32)) (numbers : (Nat → Int32)) : Option (Int32 × (Nat → Int32) × (Nat → Int32) × Int32) :=
  if told = 2 then (if 5 ≤ waiting_number then (some (0, waiting_lefts, waiting_rights, waiting_number)) else
  bnd (f_X9_at 0 4 numbers) <|  fun r3 =>
  bnd (f_X9_within r3 10 72) <|  fun r4 =>
  if r4 = 0 then (some (0, waiting_lefts, waiting_rights, waiting_number)) else
  bnd (f_X9_at 1 4 numbers) <|  fun r6 =>
  bnd (f_X9_within r6 10 72) <|  fun r7 =>
  if r7 = 0 then (some (0, waiting_lefts, waiting_rights, waiting_number)) else
  bnd (f_X9_at 0 4 numbers) <|  fun r9 =>
  bnd (f_X9_at 1 4 numbers) <|  fun r10 =>
  bnd (f_X6_add r9 r10 waiting_number waiting_lefts waiting_rights) <| u3 fun w11 w12 w13 =>
  some (1, w11, w12, w13)) else
  some (0, waiting_lefts, waiting_rights, waiting_number)
def f_X3_takeLog (told : Int32) (log_length : Int32) (log_block : Int32) (numbers : (Nat → Int32)) : Option (Int32 × Int32 × Int32) :=
  if told = 2 then (bnd (f_X9_at 0 4 numbers) <|  fun r2 =>
  bnd (f_X9_within r2 1 40) <|  fun r3 =>
  if r3 = 0 then (some (0, log_length, log_block)) else
  bnd (f_X9_at 1 4 numbers) <|  fun r5 =>
  bnd (f_X9_within r5 2 9) <|  fun r6 =>
  if r6 = 0 then (some (0, log_length, log_block)) else
  bnd (f_X9_at 0 4 numbers) <|  fun r8 =>
  bnd (f_X9_at 1 4 numbers) <|  fun r9 =>
  some (1, r8, r9)) else
  some (0, log_length, log_block)
def f_X3_takeKnot (told : Int32) (log_knots : Int64) (numbers : (Nat → Int32)) : Option (Int32 × Int64) :=
  if told = 1 then (bnd (f_X9_at 0 4 numbers) <|  fun r2 =>
  bnd (f_X9_within r2 0 39) <|  fun r3 =>
  if r3 = 0 then (some (0, log_knots)) else
  bnd (f_X9_at 0 4 numbers) <|  fun r5 =>
  bnd (some (log_knots ||| (1 <<< ((Int32.toInt64 r5) &&& 63)))) fun v6 =>
  some (1, v6)) else
  some (0, log_knots)
def f_X3_takeStocking (told : Int32) (waiting_stocking : Int32) (numbers : (Nat → Int32)) : Option (Int32 × Int32) :=
  if told = 1 then (bnd (f_X9_at 0 4 numbers) <|  fun r2 =>
  bnd (f_X9_within r2 0 6) <|  fun r3 =>
  if r3 = 0 then (some (0, waiting_stocking)) else
  bnd (f_X9_at 0 4 numbers) <|  fun r5 =>
  some (1, r5)) else
  some (0, waiting_stocking)
def f_X3_take (x1 : Int32) (told : Int32) (shelf_clogs : Int32) (shelf_day : Int32) (shelf_cells : (Nat → Int32)) (waiting_number : Int32) (waiting_stocking : Int32) (waiting_lefts : (Nat → Int32)) (waiting_rights : (Nat → Int32)) (log_length : Int32) (log_block : Int32) (log_knots : Int64) (numbers : (Nat → Int32)) : Option (Int32 × (Nat → Int32) × Int32 × (Nat → Int32) × (Nat → Int32) × Int32 × Int32 × Int32 × Int32 × Int64) :=
  if x1 = 99 then (bnd (f_X3_takeClog told shelf_clogs shelf_day shelf_cells numbers) <| u3 fun r2 w3 w4 =>
  some (r2, w3, w4, waiting_lefts, waiting_rights, waiting_number, waiting_stocking, log_length, log_block, log_knots)) else
  if x1 = 102 then (bnd (f_X3_takeFeet told waiting_number waiting_lefts waiting_rights numbers) <| u4 fun r6 w7 w8 w9 =>
  some (r6, shelf_cells, shelf_clogs, w7, w8, w9, waiting_stocking, log_length, log_block, log_knots)) else
  if x1 = 103 then (bnd (f_X3_takeLog told log_length log_block numbers) <| u3 fun r11 w12 w13 =>
  some (r11, shelf_cells, shelf_clogs, waiting_lefts, waiting_rights, waiting_number, waiting_stocking, w12, w13, log_knots)) else
  if x1 = 107 then (bnd (f_X3_takeKnot told log_knots numbers) <| u2 fun r15 w16 =>
  some (r15, shelf_cells, shelf_clogs, waiting_lefts, waiting_rights, waiting_number, waiting_stocking, log_length, log_block, w16)) else
  if x1 = 115 then (bnd (f_X3_takeStocking told waiting_stocking numbers) <| u2 fun r18 w19 =>
  some (r18, shelf_cells, shelf_clogs, waiting_lefts, waiting_rights, waiting_number, w19, log_length, log_block, log_knots)) else
  some (0, shelf_cells, shelf_clogs, waiting_lefts, waiting_rights, waiting_number, waiting_stocking, log_length, log_block, log_knots)
def b_X3_read_1 (o1_length : Int32) (o1_letters : (Nat → Int32)) (w2 : Int32) (j8 : Int32) (j9 : Int32) (w10 : Int32) (w11 : Int32) (w12 : (Nat → Int32)) (w13 : Int32) (w14 : Int32) (w15 : (Nat → Int32)) (w16 : (Nat → Int32)) (w17 : Int32) (w18 : Int32) (w19 : Int64) (w20 : (Nat → Int32)) : Option ((Int32 × Int32 × Int32 × Int32 × (Nat → Int32) × Int32 × Int32 × (Nat → Int32) × (Nat → Int32) × Int32 × Int32 × Int64 × (Nat → Int32)) ⊕ ((Int32 × Int32 × Int32 × Int32 × (Nat → Int32) × Int32 × Int32 × (Nat → Int32) × (Nat → Int32) × Int32 × Int32 × Int64 × (Nat → Int32)) ⊕ (Int32 × (Nat → Int32) × Int32 × Int32 × (Nat → Int32) × (Nat → Int32) × Int32 × Int32 × Int32 × Int32 × Int64 × (Nat → Int32) × Int32))) :=
if 200 ≤ j9 then (some (.inr (.inl (j8, j9, w10, w11, w12, w13, w14, w15, w16, w17, w18, w19, w20)))) else
if o1_length ≤ j8 then (some (.inr (.inl (j8, j9, w10, w11, w12, w13, w14, w15, w16, w17, w18, w19, w20)))) else
bnd (f_X3_readNumbers (j8 + 1) w10 w20 o1_length o1_letters) <| u3 fun r23 w24 w25 =>
if r23 < 0 then (some (.inr (.inr (j8, w12, w11, w2, w15, w16, w13, w14, w17, w18, w19, w24, w25)))) else
bnd (f_X5_letterAt j8 o1_length o1_letters) <|  fun r27 =>
bnd (f_X3_take r27 w25 w11 w2 w12 w13 w14 w15 w16 w17 w18 w19 w24) <| u10 fun r28 w29 w30 w31 w32 w33 w34 w35 w36 w37 =>
if r28 = 0 then (some (.inr (.inr (j8, w29, w30, w2, w31, w32, w33, w34, w35, w36, w37, w24, w25)))) else
some (.inl (r23, (j9 + 1), w25, w30, w29, w33, w34, w31, w32, w35, w36, w37, w24))
def f_X3_read (told : Int32) (shelf_cells : (Nat → Int32)) (waiting_lefts : (Nat → Int32)) (waiting_rights : (Nat → Int32)) (numbers : (Nat → Int32)) (o1_length : Int32) (o1_letters : (Nat → Int32)) : Option (Int32 × (Nat → Int32) × Int32 × Int32 × (Nat → Int32) × (Nat → Int32) × Int32 × Int32 × Int32 × Int32 × Int64 × (Nat → Int32) × Int32) :=
  bnd (f_X4_clear) <| u2 fun w1 w2 =>
  bnd (f_X6_clear) <| u2 fun w3 w4 =>
  bnd (f_X0_clear) <| u3 fun w5 w6 w7 =>
  bndE (lp (u13 (b_X3_read_1 o1_length o1_letters w2)) FU (0, 0, told, w1, shelf_cells, w3, w4, waiting_lefts, waiting_rights, w5, w6, w7, numbers)) (u13 (fun j8x j9x w10x w11x w12x w13x w14x w15x w16x w17x w18x w19x w20x =>
  some ((-4), w12x, w11x, w2, w15x, w16x, w13x, w14x, w17x, w18x, w19x, w20x, w10x))) (fun q => some q)
def b_X1_look_1 (o1_cells : (Nat → Int32)) (o1_clogs : Int32) (o1_day : Int32) (v2 : Int32) (j4 : Int32) (w5 : (Nat → Int32)) (w6 : (Nat → Int32)) : Option ((Int32 × (Nat → Int32) × (Nat → Int32)) ⊕ (Int32 × (Nat → Int32) × (Nat → Int32))) :=
if v2 ≤ j4 then (some (.inr (j4, w5, w6))) else
bnd (f_X4_matesOf j4 o1_clogs o1_day o1_cells) <|  fun r8 =>
bnd (f_X9_put j4 r8 10 w5) <|  fun w9 =>
bnd (f_X4_sizeOn j4 o1_day o1_clogs o1_cells) <|  fun r10 =>
bnd (f_X9_put j4 r10 10 w6) <|  fun w11 =>
some (.inl ((j4 + 1), w9, w11))
def f_X1_look (mates : (Nat → Int32)) (sizes : (Nat → Int32)) (o1_clogs : Int32) (o1_day : Int32) (o1_cells : (Nat → Int32)) : Option ((Nat → Int32) × (Nat → Int32) × Int32 × Int32) :=
  bnd (some (if o1_clogs < 10 then o1_clogs else 10)) fun v1 =>
  bnd (some (if 0 < v1 then v1 else 0)) fun v2 =>
  bnd (f_X4_ofSide 0 o1_clogs o1_cells) <|  fun r3 =>
  bnd (lp (u3 (b_X1_look_1 o1_cells o1_clogs o1_day v2)) FU (0, mates, sizes)) <| u3 fun j4x w5x w6x =>
  some (w5x, w6x, r3, v2)
def f_X1_distance (x1 : Int32) (x2 : Int32) (sizes : (Nat → Int32)) : Option (Int32) :=
  bnd (f_X9_at x1 10 sizes) <|  fun r1 =>
  bnd (f_X9_at x2 10 sizes) <|  fun r2 =>
  bnd (some (if 0 ≤ (r1 - r2) then (r1 - r2) else 0 - (r1 - r2))) fun v3 =>
  some v3
def f_X1_worthOf (x1 : Int32) (x2 : Int32) (x3 : Int32) (sets : (Nat → Int32)) (sizes : (Nat → Int32)) : Option (Int32) :=
  bnd (f_X9_at ((x1 ||| (1 <<< (x2 &&& 31))) ||| (1 <<< (x3 &&& 31))) 1024 sets) <|  fun r1 =>
  bnd (f_X1_distance x2 x3 sizes) <|  fun r2 =>
  some ((r1 + 1000) - r2)
def b_X1_bestWithout_1 (clogs : Int32) (lefts_ : Int32) (x1 : Int32) (j1 : Int32) : Option ((Int32) ⊕ (Int32)) :=
if clogs ≤ j1 then (some (.inr j1)) else
bnd (f_X9_hasBit (lefts_ &&& (x1 ^^^ (-1))) j1) <|  fun r3 =>
if r3 = 0 then (some (.inl (j1 + 1))) else
some (.inr j1)
def b_X1_bestWithout_2 (clogs : Int32) (j1x : Int32) (mates : (Nat → Int32)) (sets : (Nat → Int32)) (sizes : (Nat → Int32)) (x1 : Int32) (j8 : Int32) (j9 : Int32) : Option ((Int32 × Int32) ⊕ (Int32 × Int32)) :=
if clogs ≤ j9 then (some (.inr (j8, j9))) else
bnd (f_X9_at j1x 10 mates) <|  fun r11 =>
bnd (f_X9_hasBit (r11 &&& (x1 ^^^ (-1))) j9) <|  fun r12 =>
if r12 = 0 then (some (.inl (j8, (j9 + 1)))) else
bnd (f_X1_worthOf x1 j1x j9 sets sizes) <|  fun r14 =>
bnd (some (if j8 < r14 then r14 else j8)) fun v15 =>
some (.inl (v15, (j9 + 1)))
def f_X1_bestWithout (x1 : Int32) (lefts_ : Int32) (clogs : Int32) (sets : (Nat → Int32)) (mates : (Nat → Int32)) (sizes : (Nat → Int32)) : Option (Int32) :=
  bnd (lp ((b_X1_bestWithout_1 clogs lefts_ x1)) FU 0) <| fun j1x =>
  if clogs ≤ j1x then (some 0) else
  if ((lefts_ &&& x1) >>> (j1x &&& 31)) = 0 then (bnd (f_X9_at (x1 ||| (1 <<< (j1x &&& 31))) 1024 sets) <|  fun r7 =>
  bnd (lp (u2 (b_X1_bestWithout_2 clogs j1x mates sets sizes x1)) FU (r7, 0)) <| u2 fun j8x j9x =>
  some j8x) else
  some 0
def b_X1_firstBest_1 (clogs : Int32) (mates : (Nat → Int32)) (sets : (Nat → Int32)) (sizes : (Nat → Int32)) (x1 : Int32) (x2 : Int32) (j1 : Int32) : Option ((Int32) ⊕ ((Int32) ⊕ (Int32))) :=
if clogs ≤ j1 then (some (.inr (.inl j1))) else
bnd (f_X9_at x2 10 mates) <|  fun r3 =>
bnd (f_X9_hasBit (r3 &&& (x1 ^^^ (-1))) j1) <|  fun r4 =>
if r4 = 0 then (some (.inl (j1 + 1))) else
bnd (f_X1_worthOf x1 x2 j1 sets sizes) <|  fun r6 =>
bnd (f_X9_at x1 1024 sets) <|  fun r7 =>
if r6 = r7 then (some (.inr (.inr j1))) else
some (.inl (j1 + 1))
def f_X1_firstBest (x1 : Int32) (x2 : Int32) (clogs : Int32) (sets : (Nat → Int32)) (mates : (Nat → Int32)) (sizes : (Nat → Int32)) : Option (Int32) :=
  bndE (lp ((b_X1_firstBest_1 clogs mates sets sizes x1 x2)) FU 0) (fun j1x =>
  some (-4)) (fun q => some q)
def f_X1_join (x1 : Int32) (x2 : Int32) (number : Int32) (apart : Int32) (sizes : (Nat → Int32)) (partners : (Nat → Int32)) : Option ((Nat → Int32) × Int32 × Int32) :=
  bnd (f_X9_put x1 x2 10 partners) <|  fun w1 =>
  bnd (f_X9_put x2 x1 10 w1) <|  fun w2 =>
  bnd (f_X1_distance x1 x2 sizes) <|  fun r3 =>
  some (w2, (number + 1), (apart + r3))
def b_X1_match_1 (clogs : Int32) (lefts_ : Int32) (mates : (Nat → Int32)) (sizes : (Nat → Int32)) (j1 : Int32) (w2 : (Nat → Int32)) : Option ((Int32 × (Nat → Int32)) ⊕ (Int32 × (Nat → Int32))) :=
if j1 < 0 then (some (.inr (j1, w2))) else
bnd (f_X1_bestWithout j1 lefts_ clogs w2 mates sizes) <|  fun r4 =>
bnd (f_X9_put j1 r4 1024 w2) <|  fun w5 =>
some (.inl ((j1 + (-1)), w5))
def b_X1_match_2 (clogs : Int32) (lefts_ : Int32) (mates : (Nat → Int32)) (sizes : (Nat → Int32)) (w2x : (Nat → Int32)) (j7 : Int32) (j8 : Int32) (w9 : Int32) (w10 : Int32) (w11 : (Nat → Int32)) : Option ((Int32 × Int32 × Int32 × Int32 × (Nat → Int32)) ⊕ (Int32 × Int32 × Int32 × Int32 × (Nat → Int32))) :=
if clogs ≤ j8 then (some (.inr (j7, j8, w9, w10, w11))) else
bnd (f_X9_hasBit lefts_ j8) <|  fun r13 =>
if r13 = 0 then (some (.inl (j7, (j8 + 1), w9, w10, w11))) else
bnd (f_X1_firstBest j7 j8 clogs w2x mates sizes) <|  fun r15 =>
if r15 < 0 then (some (.inl ((j7 ||| (1 <<< (j8 &&& 31))), (j8 + 1), w9, w10, w11))) else
bnd (some ((j7 ||| (1 <<< (j8 &&& 31))) ||| (1 <<< (r15 &&& 31)))) fun v17 =>
bnd (f_X1_join j8 r15 w9 w10 sizes w11) <| u3 fun w18 w19 w20 =>
some (.inl (v17, (j8 + 1), w19, w20, w18))
def f_X1_match (lefts_ : Int32) (clogs : Int32) (sets : (Nat → Int32)) (mates : (Nat → Int32)) (sizes : (Nat → Int32)) (partners : (Nat → Int32)) : Option ((Nat → Int32) × (Nat → Int32) × Int32 × Int32) :=
  bnd (lp (u2 (b_X1_match_1 clogs lefts_ mates sizes)) FU (((1 <<< (clogs &&& 31)) - 1), sets)) <| u2 fun j1x w2x =>
  bnd (f_J7_fill_53178 (-4) 10 partners) <|  fun w6 =>
  bnd (lp (u5 (b_X1_match_2 clogs lefts_ mates sizes w2x)) FU (0, 0, 0, 0, w6)) <| u5 fun j7x j8x w9x w10x w11x =>
  some (w2x, w11x, w9x, w10x)
def f_X1_partnerOf (x1 : Int32) (clogs : Int32) (partners : (Nat → Int32)) : Option (Int32) :=
  if x1 < 0 then (some (-4)) else
  if clogs ≤ x1 then (some (-4)) else
  bnd (f_X9_at x1 10 partners) <|  fun r3 =>
  some r3
def b_X1_giveOnTopOf_2 (clogs : Int32) (j1 : Int32) (mates : (Nat → Int32)) (x1 : Int32) (x2 : Int32) (j6 : Int32) (w7 : (Nat → Int32)) : Option ((Int32 × (Nat → Int32)) ⊕ (Int32 × (Nat → Int32))) :=
if clogs ≤ j6 then (some (.inr (j6, w7))) else
bnd (f_X9_at j1 10 mates) <|  fun r9 =>
bnd (f_X9_hasBit (r9 &&& x2) j6) <|  fun r10 =>
if r10 = 0 then (some (.inl ((j6 + 1), w7))) else
bnd (f_X9_put ((x1 ||| (1 <<< (j1 &&& 31))) ||| (1 <<< (j6 &&& 31))) 1 1024 w7) <|  fun w12 =>
some (.inl ((j6 + 1), w12))
def b_X1_giveOnTopOf_1 (clogs : Int32) (lefts_ : Int32) (mates : (Nat → Int32)) (x1 : Int32) (x2 : Int32) (j1 : Int32) (w2 : (Nat → Int32)) : Option ((Int32 × (Nat → Int32)) ⊕ (Int32 × (Nat → Int32))) :=
if clogs ≤ j1 then (some (.inr (j1, w2))) else
bnd (f_X9_hasBit (lefts_ &&& x2) j1) <|  fun r4 =>
if r4 = 0 then (some (.inl ((j1 + 1), w2))) else
bnd (lp (u2 (b_X1_giveOnTopOf_2 clogs j1 mates x1 x2)) FU (0, w2)) <| u2 fun j6x w7x =>
some (.inl ((j1 + 1), w7x))
def f_X1_giveOnTopOf (x1 : Int32) (x2 : Int32) (lefts_ : Int32) (clogs : Int32) (sets : (Nat → Int32)) (mates : (Nat → Int32)) : Option ((Nat → Int32)) :=
  bnd (lp (u2 (b_X1_giveOnTopOf_1 clogs lefts_ mates x1 x2)) FU (0, sets)) <| u2 fun j1x w2x =>
  some w2x
def b_X1_giveOut_1 (clogs : Int32) (lefts_ : Int32) (mates : (Nat → Int32)) (x1 : Int32) (j1 : Int32) (w2 : (Nat → Int32)) : Option ((Int32 × (Nat → Int32)) ⊕ (Int32 × (Nat → Int32))) :=
if j1 < 0 then (some (.inr (j1, w2))) else
bnd (f_X9_at j1 1024 w2) <|  fun r4 =>
if r4 = 0 then (some (.inl ((j1 + (-1)), w2))) else
bnd (f_X1_giveOnTopOf j1 (x1 &&& (j1 ^^^ (-1))) lefts_ clogs w2 mates) <|  fun w6 =>
some (.inl ((j1 + (-1)), w6))
def f_X1_giveOut (x1 : Int32) (lefts_ : Int32) (clogs : Int32) (sets : (Nat → Int32)) (mates : (Nat → Int32)) : Option ((Nat → Int32)) :=
  bnd (lp (u2 (b_X1_giveOut_1 clogs lefts_ mates x1)) FU (((1 <<< (clogs &&& 31)) - 1), sets)) <| u2 fun j1x w2x =>
  some w2x
def b_X1_serve_2 (clogs : Int32) (j3 : Int32) (lefts_ : Int32) (o1_lefts : (Nat → Int32)) (o1_rights : (Nat → Int32)) (o1_stocking : Int32) (sizes : (Nat → Int32)) (j6 : Int32) (j7 : Int32) : Option ((Int32 × Int32) ⊕ (Int32 × Int32)) :=
if clogs ≤ j7 then (some (.inr (j6, j7))) else
bnd (f_X9_hasBit lefts_ j7) <|  fun r9 =>
if r9 = 0 then (bnd (f_X9_at j7 10 sizes) <|  fun r11 =>
bnd (f_X6_suits j3 1 r11 o1_stocking o1_lefts o1_rights) <|  fun r12 =>
if r12 = 0 then (some (.inl (j6, (j7 + 1)))) else
some (.inl ((j6 ||| (1 <<< (j7 &&& 31))), (j7 + 1)))) else
bnd (f_X9_at j7 10 sizes) <|  fun r14 =>
bnd (f_X6_suits j3 0 r14 o1_stocking o1_lefts o1_rights) <|  fun r15 =>
if r15 = 0 then (some (.inl (j6, (j7 + 1)))) else
some (.inl ((j6 ||| (1 <<< (j7 &&& 31))), (j7 + 1)))
def b_X1_serve_1 (clogs : Int32) (lefts_ : Int32) (mates : (Nat → Int32)) (o1_lefts : (Nat → Int32)) (o1_number : Int32) (o1_rights : (Nat → Int32)) (o1_stocking : Int32) (sizes : (Nat → Int32)) (j3 : Int32) (w4 : (Nat → Int32)) : Option ((Int32 × (Nat → Int32)) ⊕ (Int32 × (Nat → Int32))) :=
if o1_number ≤ j3 then (some (.inr (j3, w4))) else
bnd (lp (u2 (b_X1_serve_2 clogs j3 lefts_ o1_lefts o1_rights o1_stocking sizes)) FU (0, 0)) <| u2 fun j6x j7x =>
bnd (f_X1_giveOut j6x lefts_ clogs w4 mates) <|  fun w17 =>
some (.inl ((j3 + 1), w17))
def b_X1_serve_3 (clogs : Int32) (w4x : (Nat → Int32)) (j18 : Int32) (j19 : Int32) : Option ((Int32 × Int32) ⊕ (Int32 × Int32)) :=
if (1 <<< (clogs &&& 31)) ≤ j19 then (some (.inr (j18, j19))) else
bnd (f_X9_at j19 1024 w4x) <|  fun r21 =>
if r21 = 0 then (some (.inl (j18, (j19 + 1)))) else
bnd (f_J6_bitCount_0f7a4 j19) <|  fun r23 =>
bnd (some (if j18 < (r23 / 2) then (r23 / 2) else j18)) fun v24 =>
some (.inl (v24, (j19 + 1)))
def f_X1_serve (lefts_ : Int32) (clogs : Int32) (sets : (Nat → Int32)) (mates : (Nat → Int32)) (sizes : (Nat → Int32)) (o1_number : Int32) (o1_stocking : Int32) (o1_lefts : (Nat → Int32)) (o1_rights : (Nat → Int32)) : Option (Int32 × (Nat → Int32)) :=
  bnd (f_J7_fill_53178 0 1024 sets) <|  fun w1 =>
  bnd (f_X9_put 0 1 1024 w1) <|  fun w2 =>
  bnd (lp (u2 (b_X1_serve_1 clogs lefts_ mates o1_lefts o1_number o1_rights o1_stocking sizes)) FU (0, w2)) <| u2 fun j3x w4x =>
  bnd (lp (u2 (b_X1_serve_3 clogs w4x)) FU (0, 0)) <| u2 fun j18x j19x =>
  some (j18x, w4x)
def f_X2_isFull_8 (height : Int32) : Option (Int32) :=
  if height < 8 then (some 0) else
  some 1
def f_X2_clear_8  : Option (Int32) :=
  some 0
def b_X2_dropLowest_8_1  (j3 : Int32) (w4 : (Nat → Nat)) : Option ((Int32 × (Nat → Nat)) ⊕ (Int32 × (Nat → Nat))) :=
if 8 ≤ j3 then (some (.inr (j3, w4))) else
bnd (rdp 8 w4 j3) fun k6 =>
bnd (wrp 8 w4 (j3 - 1) k6) fun p7 =>
some (.inl ((j3 + 1), p7))
def f_X2_dropLowest_8 (height : Int32) (pp : (Nat → Nat)) : Option ((Nat → Nat) × Int32) :=
  bnd (rdp 8 pp 0) fun k2 =>
  bnd (lp (u2 b_X2_dropLowest_8_1) FU (1, pp)) <| u2 fun j3x w4x =>
  bnd (wrp 8 w4x (8 - 1) k2) fun p8 =>
  some (p8, (height - 1))
def f_X2_push_8 (height : Int32) (pp : (Nat → Nat)) (CC : (Nat → Nat → Int32)) (CK : (Nat → Int32)) (CY : (Nat → Int32)) (o1_clogs : Int32) (o1_day : Int32) (o1_cells : (Nat → Int32)) : Option ((Nat → Nat) × (Nat → Nat → Int32) × (Nat → Int32) × (Nat → Int32) × Int32) :=
  bnd (f_X2_isFull_8 height) <|  fun r1 =>
  if r1 = 0 then (if height < 0 then (some (pp, CC, CK, CY, height)) else
  if 8 ≤ height then (some (pp, CC, CK, CY, height)) else
  bnd (rdp 8 pp height) fun k5 =>
  bnd (rdp 8 pp height) fun k6 =>
  bnd (f_X4_copy (CC k6) o1_clogs o1_day o1_cells) <| u3 fun w7 w8 w9 =>
  some (pp, (va_up CC k6 w7), (va_up CK k6 w8), (va_up CY k6 w9), (height + 1))) else
  bnd (f_X2_dropLowest_8 height pp) <| u2 fun w10 w11 =>
  if w11 < 0 then (some (w10, CC, CK, CY, w11)) else
  if 8 ≤ w11 then (some (w10, CC, CK, CY, w11)) else
  bnd (rdp 8 w10 w11) fun k14 =>
  bnd (rdp 8 w10 w11) fun k15 =>
  bnd (f_X4_copy (CC k15) o1_clogs o1_day o1_cells) <| u3 fun w16 w17 w18 =>
  some (w10, (va_up CC k15 w16), (va_up CK k15 w17), (va_up CY k15 w18), (w11 + 1))
def f_X2_popInto_8 (height : Int32) (pp : (Nat → Nat)) (CC : (Nat → Nat → Int32)) (CK : (Nat → Int32)) (CY : (Nat → Int32)) (o1_clogs : Int32) (o1_day : Int32) (o1_cells : (Nat → Int32)) : Option (Int32 × Int32 × (Nat → Int32) × Int32 × Int32) :=
  if height ≤ 0 then (some (0, height, o1_cells, o1_clogs, o1_day)) else
  if height ≤ 8 then (bnd (rdp 8 pp (height - 1)) fun k3 =>
  bnd (f_X4_copy o1_cells (CK k3) (CY k3) (CC k3)) <| u3 fun w4 w5 w6 =>
  some (1, (height - 1), w4, w5, w6)) else
  some (0, height, o1_cells, o1_clogs, o1_day)
def f_X2_isFull_2 (height : Int32) : Option (Int32) :=
  if height < 2 then (some 0) else
  some 1
def f_X2_clear_2  : Option (Int32) :=
  some 0
def b_X2_dropLowest_2_1  (j3 : Int32) (w4 : (Nat → Nat)) : Option ((Int32 × (Nat → Nat)) ⊕ (Int32 × (Nat → Nat))) :=
if 2 ≤ j3 then (some (.inr (j3, w4))) else
bnd (rdp 2 w4 j3) fun k6 =>
bnd (wrp 2 w4 (j3 - 1) k6) fun p7 =>
some (.inl ((j3 + 1), p7))
def f_X2_dropLowest_2 (height : Int32) (pp : (Nat → Nat)) : Option ((Nat → Nat) × Int32) :=
  bnd (rdp 2 pp 0) fun k2 =>
  bnd (lp (u2 b_X2_dropLowest_2_1) FU (1, pp)) <| u2 fun j3x w4x =>
  bnd (wrp 2 w4x (2 - 1) k2) fun p8 =>
  some (p8, (height - 1))
def f_X2_push_2 (height : Int32) (pp : (Nat → Nat)) (CC : (Nat → Nat → Int32)) (CK : (Nat → Int32)) (CY : (Nat → Int32)) (o1_clogs : Int32) (o1_day : Int32) (o1_cells : (Nat → Int32)) : Option ((Nat → Nat) × (Nat → Nat → Int32) × (Nat → Int32) × (Nat → Int32) × Int32) :=
  bnd (f_X2_isFull_2 height) <|  fun r1 =>
  if r1 = 0 then (if height < 0 then (some (pp, CC, CK, CY, height)) else
  if 2 ≤ height then (some (pp, CC, CK, CY, height)) else
  bnd (rdp 2 pp height) fun k5 =>
  bnd (rdp 2 pp height) fun k6 =>
  bnd (f_X4_copy (CC k6) o1_clogs o1_day o1_cells) <| u3 fun w7 w8 w9 =>
  some (pp, (va_up CC k6 w7), (va_up CK k6 w8), (va_up CY k6 w9), (height + 1))) else
  bnd (f_X2_dropLowest_2 height pp) <| u2 fun w10 w11 =>
  if w11 < 0 then (some (w10, CC, CK, CY, w11)) else
  if 2 ≤ w11 then (some (w10, CC, CK, CY, w11)) else
  bnd (rdp 2 w10 w11) fun k14 =>
  bnd (rdp 2 w10 w11) fun k15 =>
  bnd (f_X4_copy (CC k15) o1_clogs o1_day o1_cells) <| u3 fun w16 w17 w18 =>
  some (w10, (va_up CC k15 w16), (va_up CK k15 w17), (va_up CY k15 w18), (w11 + 1))
def f_X2_popInto_2 (height : Int32) (pp : (Nat → Nat)) (CC : (Nat → Nat → Int32)) (CK : (Nat → Int32)) (CY : (Nat → Int32)) (o1_clogs : Int32) (o1_day : Int32) (o1_cells : (Nat → Int32)) : Option (Int32 × Int32 × (Nat → Int32) × Int32 × Int32) :=
  if height ≤ 0 then (some (0, height, o1_cells, o1_clogs, o1_day)) else
  if height ≤ 2 then (bnd (rdp 2 pp (height - 1)) fun k3 =>
  bnd (f_X4_copy o1_cells (CK k3) (CY k3) (CC k3)) <| u3 fun w4 w5 w6 =>
  some (1, (height - 1), w4, w5, w6)) else
  some (0, height, o1_cells, o1_clogs, o1_day)
def f_X10_tellsFeet (x1 : Int32) (x2 : Int32) (readFeetMany : Int32) (readFeet : (Nat → Int32)) : Option (Int32 × (Nat → Int32)) :=
  bnd (wr 10 readFeet (2 * readFeetMany) x1) fun a1 =>
  bnd (wr 10 a1 ((2 * readFeetMany) + 1) x2) fun a2 =>
  some ((readFeetMany + 1), a2)
def f_X10_puts (x2 : Int32) (x3 : Int32) (x4 : Int32) (x5 : Int32) (n1 : Nat) (f1 : (Nat → Int32)) : Option ((Nat → Int32)) :=
  bnd (rd n1 f1 1) fun v1 =>
  bnd (wr n1 f1 (2 + (5 * v1)) x2) fun a2 =>
  bnd (wr n1 a2 ((2 + (5 * v1)) + 1) x3) fun a3 =>
  bnd (wr n1 a3 ((2 + (5 * v1)) + 2) x4) fun a4 =>
  bnd (wr n1 a4 ((2 + (5 * v1)) + 3) x5) fun a5 =>
  bnd (rd n1 a5 0) fun v6 =>
  bnd (wr n1 a5 ((2 + (5 * v1)) + 4) v6) fun a7 =>
  bnd (rd n1 a7 1) fun v8 =>
  bnd (wr n1 a7 1 (v8 + 1)) fun a9 =>
  some a9
def f_X10_in (x1 : Int32) (x2 : Int32) (x3 : Int32) : Option (Int32) :=
  if x1 < x2 then (some 0) else
  if x3 < x1 then (some 0) else
  some 1
def f_X10_has (x1 : Int32) (x2 : Int32) : Option (Int32) :=
  if ((x1 >>> (x2 &&& 31)) &&& 1) = 1 then (some 1) else
  some 0
def f_X10_apart (x1 : Int32) (x2 : Int32) : Option (Int32) :=
  if x2 ≤ x1 then (some (x1 - x2)) else
  some (x2 - x1)
def f_X10_isClog (x1 : Int32) (st : (Nat → Int32)) : Option (Int32) :=
  bnd (rd 52 st 1) fun v1 =>
  bnd (f_X10_in x1 0 (v1 - 1)) <|  fun r2 =>
  some r2
def f_X10_write (x1 : Int32) (texted : Int32) (text : (Nat → Int32)) : Option (Int32 × (Nat → Int32) × Int32) :=
  bnd (f_X10_in x1 32 126) <|  fun r1 =>
  if r1 = 0 then (some ((-1), text, texted)) else
  if texted = 200 then (some ((-3), text, texted)) else
  bnd (wr 200 text texted x1) fun a4 =>
  some ((texted + 1), a4, (texted + 1))
def f_X10_wipe (texted : Int32) : Option (Int32 × Int32) :=
  some (texted, 0)
def f_X10_letterAt (x1 : Int32) (texted : Int32) (text : (Nat → Int32)) : Option (Int32) :=
  if texted ≤ x1 then (some (-1)) else
  bnd (rd 200 text x1) fun v2 =>
  some v2
def f_X10_isFigure (x1 : Int32) : Option (Int32) :=
  bnd (f_X10_in x1 48 57) <|  fun r1 =>
  some r1
def b_X10_readNumbers_1 (text : (Nat → Int32)) (texted : Int32) (x1 : Int32) (j1 : Int32) (w2 : Int32) (w3 : (Nat → Int32)) : Option ((Int32 × Int32 × (Nat → Int32)) ⊕ ((Int32 × Int32 × (Nat → Int32)) ⊕ (Int32 × Int32 × (Nat → Int32)))) :=
if x1 ≤ j1 then (some (.inr (.inl (j1, w2, w3)))) else
bnd (f_X10_letterAt w2 texted text) <|  fun r5 =>
bnd (f_X10_isFigure r5) <|  fun r6 =>
if r6 = 0 then (some (.inr (.inr (0, w2, w3)))) else
bnd (f_X10_letterAt w2 texted text) <|  fun r8 =>
bnd (wr 4 w3 j1 (r8 - 48)) fun a9 =>
bnd (f_X10_letterAt (w2 + 1) texted text) <|  fun r10 =>
bnd (f_X10_isFigure r10) <|  fun r11 =>
if r11 = 0 then (bnd (f_X10_letterAt (w2 + 1) texted text) <|  fun r13 =>
if (x1 - 1) ≤ j1 then (if r13 = 59 then (some (.inl ((j1 + 1), ((w2 + 1) + 1), a9))) else
some (.inr (.inr (0, (w2 + 1), a9)))) else
if r13 = 44 then (some (.inl ((j1 + 1), ((w2 + 1) + 1), a9))) else
some (.inr (.inr (0, (w2 + 1), a9)))) else
bnd (rd 4 a9 j1) fun v17 =>
bnd (f_X10_letterAt (w2 + 1) texted text) <|  fun r18 =>
bnd (wr 4 a9 j1 (((10 * v17) + r18) - 48)) fun a19 =>
bnd (f_X10_letterAt ((w2 + 1) + 1) texted text) <|  fun r20 =>
if (x1 - 1) ≤ j1 then (if r20 = 59 then (some (.inl ((j1 + 1), (((w2 + 1) + 1) + 1), a19))) else
some (.inr (.inr (0, ((w2 + 1) + 1), a19)))) else
if r20 = 44 then (some (.inl ((j1 + 1), (((w2 + 1) + 1) + 1), a19))) else
some (.inr (.inr (0, ((w2 + 1) + 1), a19)))
def f_X10_readNumbers (x1 : Int32) (texted : Int32) (at_ : Int32) (text : (Nat → Int32)) (told : (Nat → Int32)) : Option (Int32 × Int32 × (Nat → Int32)) :=
  bndE (lp (u3 (b_X10_readNumbers_1 text texted x1)) FU (0, at_, told)) (u3 (fun j1x w2x w3x =>
  some (1, w2x, w3x))) (fun q => some q)
def f_X10_isTold (x1 : Int32) (x2 : Int32) (x3 : Int32) (told : (Nat → Int32)) : Option (Int32) :=
  bnd (rd 4 told x1) fun v1 =>
  bnd (f_X10_in v1 x2 x3) <|  fun r2 =>
  some r2
def b_X10_clearTold_1  (j1 : Int32) (w2 : (Nat → Int32)) : Option ((Int32 × (Nat → Int32)) ⊕ (Int32 × (Nat → Int32))) :=
if 52 ≤ j1 then (some (.inr (j1, w2))) else
bnd (wr 52 w2 j1 0) fun a4 =>
some (.inl ((j1 + 1), a4))
def b_X10_clearTold_2  (j5 : Int32) (w6 : (Nat → Int32)) : Option ((Int32 × (Nat → Int32)) ⊕ (Int32 × (Nat → Int32))) :=
if 40 ≤ j5 then (some (.inr (j5, w6))) else
bnd (wr 40 w6 j5 (vp_nar .boolean 0)) fun a8 =>
some (.inl ((j5 + 1), a8))
def f_X10_clearTold (read_ : (Nat → Int32)) (readKnot : (Nat → Int32)) : Option ((Nat → Int32) × Int32 × Int32 × Int32 × (Nat → Int32) × Int32) :=
  bnd (lp (u2 b_X10_clearTold_1) FU (0, read_)) <| u2 fun j1x w2x =>
  bnd (lp (u2 b_X10_clearTold_2) FU (0, readKnot)) <| u2 fun j5x w6x =>
  some (w2x, 0, 20, 4, w6x, 2)
def f_X10_isOne (x1 : Int32) (x2 : Int32) (x3 : Int32) (x4 : Int32) : Option (Int32) :=
  bnd (f_X10_in x1 0 3) <|  fun r1 =>
  if r1 = 0 then (some 0) else
  bnd (f_X10_in x2 0 1) <|  fun r3 =>
  if r3 = 0 then (some 0) else
  bnd (f_X10_in x3 12 72) <|  fun r5 =>
  if r5 = 0 then (some 0) else
  bnd (f_X10_in x4 1 40) <|  fun r7 =>
  if r7 = 0 then (some 0) else
  some 1
def f_X10_readFeetOf (texted : Int32) (at_ : Int32) (readFeetMany : Int32) (text : (Nat → Int32)) (told : (Nat → Int32)) (readFeet : (Nat → Int32)) : Option (Int32 × Int32 × (Nat → Int32) × Int32 × (Nat → Int32)) :=
  if readFeetMany = 5 then (some (0, at_, told, readFeetMany, readFeet)) else
  bnd (f_X10_readNumbers 2 texted at_ text told) <| u3 fun r2 w3 w4 =>
  if r2 = 0 then (some (0, w3, w4, readFeetMany, readFeet)) else
  bnd (f_X10_isTold 0 10 72 w4) <|  fun r6 =>
  if r6 = 0 then (some (0, w3, w4, readFeetMany, readFeet)) else
  bnd (f_X10_isTold 1 10 72 w4) <|  fun r8 =>
  if r8 = 0 then (some (0, w3, w4, readFeetMany, readFeet)) else
  bnd (rd 4 w4 0) fun v10 =>
  bnd (rd 4 w4 1) fun v11 =>
  bnd (f_X10_tellsFeet v10 v11 readFeetMany readFeet) <| u2 fun w12 w13 =>
  some (1, w3, w4, w12, w13)
def f_X10_readLogOf (texted : Int32) (at_ : Int32) (readLog : Int32) (readBlock : Int32) (text : (Nat → Int32)) (told : (Nat → Int32)) : Option (Int32 × Int32 × (Nat → Int32) × Int32 × Int32) :=
  bnd (f_X10_readNumbers 2 texted at_ text told) <| u3 fun r1 w2 w3 =>
  if r1 = 0 then (some (0, w2, w3, readLog, readBlock)) else
  bnd (f_X10_isTold 0 1 40 w3) <|  fun r5 =>
  if r5 = 0 then (some (0, w2, w3, readLog, readBlock)) else
  bnd (f_X10_isTold 1 2 9 w3) <|  fun r7 =>
  if r7 = 0 then (some (0, w2, w3, readLog, readBlock)) else
  bnd (rd 4 w3 0) fun v9 =>
  bnd (rd 4 w3 1) fun v10 =>
  some (1, w2, w3, v9, v10)
def f_X10_readKnotOf (texted : Int32) (at_ : Int32) (text : (Nat → Int32)) (told : (Nat → Int32)) (readKnot : (Nat → Int32)) : Option (Int32 × Int32 × (Nat → Int32) × (Nat → Int32)) :=
  bnd (f_X10_readNumbers 1 texted at_ text told) <| u3 fun r1 w2 w3 =>
  if r1 = 0 then (some (0, w2, w3, readKnot)) else
  bnd (f_X10_isTold 0 0 39 w3) <|  fun r5 =>
  if r5 = 0 then (some (0, w2, w3, readKnot)) else
  bnd (rd 4 w3 0) fun v7 =>
  bnd (wr 40 readKnot v7 (vp_nar .boolean 1)) fun a8 =>
  some (1, w2, w3, a8)
def f_X10_readStockingOf (texted : Int32) (at_ : Int32) (readStocking : Int32) (text : (Nat → Int32)) (told : (Nat → Int32)) : Option (Int32 × Int32 × (Nat → Int32) × Int32) :=
  bnd (f_X10_readNumbers 1 texted at_ text told) <| u3 fun r1 w2 w3 =>
  if r1 = 0 then (some (0, w2, w3, readStocking)) else
  bnd (f_X10_isTold 0 0 6 w3) <|  fun r5 =>
  if r5 = 0 then (some (0, w2, w3, readStocking)) else
  bnd (rd 4 w3 0) fun v7 =>
  some (1, w2, w3, v7)
def b_X10_copies_1 (f3 : (Nat → Int32)) (n1 : Nat) (n3 : Nat) (x2 : Int32) (x4 : Int32) (x5 : Int32) (j1 : Int32) (w2 : (Nat → Int32)) : Option ((Int32 × (Nat → Int32)) ⊕ (Int32 × (Nat → Int32))) :=
if x5 ≤ j1 then (some (.inr (j1, w2))) else
bnd (rd n3 f3 (x4 + j1)) fun v4 =>
bnd (wr n1 w2 (x2 + j1) v4) fun a5 =>
some (.inl ((j1 + 1), a5))
def f_X10_copies (x2 : Int32) (x4 : Int32) (x5 : Int32) (n1 : Nat) (n3 : Nat) (f1 : (Nat → Int32)) (f3 : (Nat → Int32)) : Option ((Nat → Int32)) :=
  bnd (lp (u2 (b_X10_copies_1 f3 n1 n3 x2 x4 x5)) FU (0, f1)) <| u2 fun j1x w2x =>
  some w2x
def b_X10_settles_1 (readKnot : (Nat → Int32)) (j3 : Int32) (w4 : (Nat → Int32)) : Option ((Int32 × (Nat → Int32)) ⊕ (Int32 × (Nat → Int32))) :=
if 40 ≤ j3 then (some (.inr (j3, w4))) else
bnd (rd 40 readKnot j3) fun v6 =>
bnd (wr 40 w4 j3 (vp_nar .boolean v6)) fun a7 =>
some (.inl ((j3 + 1), a7))
def f_X10_settles (readFeetMany : Int32) (readLog : Int32) (readBlock : Int32) (readStocking : Int32) (feet : (Nat → Int32)) (knot : (Nat → Int32)) (st : (Nat → Int32)) (read_ : (Nat → Int32)) (readFeet : (Nat → Int32)) (readKnot : (Nat → Int32)) : Option (Int32 × (Nat → Int32) × Int32 × Int32 × (Nat → Int32) × Int32 × (Nat → Int32) × Int32 × Int32 × Int32) :=
  bnd (f_X10_copies 0 0 52 52 52 st read_) <|  fun w1 =>
  bnd (f_X10_copies 0 0 10 10 10 feet readFeet) <|  fun w2 =>
  bnd (lp (u2 (b_X10_settles_1 readKnot)) FU (0, knot)) <| u2 fun j3x w4x =>
  some (readFeetMany, w2, readLog, readBlock, w4x, readStocking, w1, 0, 0, 0)
def f_X10_tellsClog (x1 : Int32) (x2 : Int32) (x3 : Int32) (x4 : Int32) (read_ : (Nat → Int32)) : Option ((Nat → Int32)) :=
  bnd (f_X10_puts x1 x2 x3 x4 52 read_) <|  fun w1 =>
  some w1
def f_X10_readClogOf (texted : Int32) (at_ : Int32) (text : (Nat → Int32)) (told : (Nat → Int32)) (read_ : (Nat → Int32)) : Option (Int32 × Int32 × (Nat → Int32) × (Nat → Int32)) :=
  bnd (rd 52 read_ 1) fun v1 =>
  if v1 = 10 then (some (0, at_, told, read_)) else
  bnd (f_X10_readNumbers 4 texted at_ text told) <| u3 fun r3 w4 w5 =>
  if r3 = 0 then (some (0, w4, w5, read_)) else
  bnd (rd 4 w5 0) fun v7 =>
  bnd (rd 4 w5 1) fun v8 =>
  bnd (rd 4 w5 2) fun v9 =>
  bnd (rd 4 w5 3) fun v10 =>
  bnd (f_X10_isOne v7 v8 v9 v10) <|  fun r11 =>
  if r11 = 0 then (some (0, w4, w5, read_)) else
  bnd (rd 4 w5 0) fun v13 =>
  bnd (rd 4 w5 1) fun v14 =>
  bnd (rd 4 w5 2) fun v15 =>
  bnd (rd 4 w5 3) fun v16 =>
  bnd (f_X10_tellsClog v13 v14 v15 v16 read_) <|  fun w17 =>
  some (1, w4, w5, w17)
def f_X10_readItem (texted : Int32) (at_ : Int32) (readFeetMany : Int32) (readLog : Int32) (readBlock : Int32) (readStocking : Int32) (text : (Nat → Int32)) (told : (Nat → Int32)) (read_ : (Nat → Int32)) (readFeet : (Nat → Int32)) (readKnot : (Nat → Int32)) : Option (Int32 × Int32 × (Nat → Int32) × (Nat → Int32) × Int32 × (Nat → Int32) × Int32 × Int32 × (Nat → Int32) × Int32) :=
  bnd (f_X10_letterAt at_ texted text) <|  fun r1 =>
  if r1 = 99 then (bnd (f_X10_readClogOf texted (at_ + 1) text told read_) <| u4 fun r3 w4 w5 w6 =>
  some (r3, w4, w5, w6, readFeetMany, readFeet, readLog, readBlock, readKnot, readStocking)) else
  if r1 = 102 then (bnd (f_X10_readFeetOf texted (at_ + 1) readFeetMany text told readFeet) <| u5 fun r8 w9 w10 w11 w12 =>
  some (r8, w9, w10, read_, w11, w12, readLog, readBlock, readKnot, readStocking)) else
  if r1 = 103 then (bnd (f_X10_readLogOf texted (at_ + 1) readLog readBlock text told) <| u5 fun r14 w15 w16 w17 w18 =>
  some (r14, w15, w16, read_, readFeetMany, readFeet, w17, w18, readKnot, readStocking)) else
  if r1 = 107 then (bnd (f_X10_readKnotOf texted (at_ + 1) text told readKnot) <| u4 fun r20 w21 w22 w23 =>
  some (r20, w21, w22, read_, readFeetMany, readFeet, readLog, readBlock, w23, readStocking)) else
  if r1 = 115 then (bnd (f_X10_readStockingOf texted (at_ + 1) readStocking text told) <| u4 fun r25 w26 w27 w28 =>
  some (r25, w26, w27, read_, readFeetMany, readFeet, readLog, readBlock, readKnot, w28)) else
  some (0, (at_ + 1), told, read_, readFeetMany, readFeet, readLog, readBlock, readKnot, readStocking)
def b_X10_fault_1 (text : (Nat → Int32)) (texted : Int32) (w7 : Int32) (w8 : Int32) (w9 : Int32) (w10 : Int32) (w11 : Int32) (w12 : (Nat → Int32)) (w13 : (Nat → Int32)) (w14 : (Nat → Int32)) (w15 : (Nat → Int32)) : Option ((Int32 × Int32 × Int32 × Int32 × Int32 × (Nat → Int32) × (Nat → Int32) × (Nat → Int32) × (Nat → Int32)) ⊕ ((Int32 × Int32 × Int32 × Int32 × Int32 × (Nat → Int32) × (Nat → Int32) × (Nat → Int32) × (Nat → Int32)) ⊕ (Int32 × Int32 × (Nat → Int32) × (Nat → Int32) × Int32 × (Nat → Int32) × Int32 × Int32 × (Nat → Int32) × Int32))) :=
if texted ≤ w7 then (some (.inr (.inl (w7, w8, w9, w10, w11, w12, w13, w14, w15)))) else
bnd (f_X10_readItem texted w7 w8 w9 w10 w11 text w12 w13 w14 w15) <| u10 fun r17 w18 w19 w20 w21 w22 w23 w24 w25 w26 =>
if r17 = 0 then (some (.inr (.inr (w7, w18, w19, w20, w21, w22, w23, w24, w25, w26)))) else
some (.inl (w18, w21, w23, w24, w26, w19, w20, w22, w25))
def f_X10_fault (texted : Int32) (text : (Nat → Int32)) (told : (Nat → Int32)) (read_ : (Nat → Int32)) (readFeet : (Nat → Int32)) (readKnot : (Nat → Int32)) : Option (Int32 × Int32 × (Nat → Int32) × (Nat → Int32) × Int32 × (Nat → Int32) × Int32 × Int32 × (Nat → Int32) × Int32) :=
  bnd (f_X10_clearTold read_ readKnot) <| u6 fun w1 w2 w3 w4 w5 w6 =>
  bndE (lp (u9 (b_X10_fault_1 text texted)) FU (0, w2, w3, w4, w6, told, w1, readFeet, w5)) (u9 (fun w7x w8x w9x w10x w11x w12x w13x w14x w15x =>
  some ((-4), w7x, w12x, w13x, w8x, w14x, w9x, w10x, w15x, w11x))) (fun q => some q)
def f_X10_lay (feetMany : Int32) (log_ : Int32) (block : Int32) (stocking : Int32) (acts : Int32) (keeps : Int32) (hears : Int32) (texted : Int32) (feet : (Nat → Int32)) (knot : (Nat → Int32)) (st : (Nat → Int32)) (text : (Nat → Int32)) (told : (Nat → Int32)) (read_ : (Nat → Int32)) (readFeet : (Nat → Int32)) (readKnot : (Nat → Int32)) : Option (Int32 × Int32 × (Nat → Int32) × Int32 × Int32 × (Nat → Int32) × Int32 × (Nat → Int32) × Int32 × Int32 × Int32 × Int32 × (Nat → Int32) × (Nat → Int32) × Int32 × (Nat → Int32) × Int32 × Int32 × (Nat → Int32) × Int32) :=
  bnd (f_X10_fault texted text told read_ readFeet readKnot) <| u10 fun r1 w2 w3 w4 w5 w6 w7 w8 w9 w10 =>
  if r1 = (-4) then (bnd (rd 52 w4 1) fun v12 =>
  if v12 = 0 then (some ((-2), feetMany, feet, log_, block, knot, stocking, st, acts, keeps, hears, w2, w3, w4, w5, w6, w7, w8, w9, w10)) else
  bnd (f_X10_settles w5 w7 w8 w10 feet knot st w4 w6 w9) <| u10 fun w14 w15 w16 w17 w18 w19 w20 w21 w22 w23 =>
  bnd (rd 52 w20 1) fun v24 =>
  some (v24, w14, w15, w16, w17, w18, w19, w20, w21, w22, w23, w2, w3, w4, w5, w6, w7, w8, w9, w10)) else
  some ((-2), feetMany, feet, log_, block, knot, stocking, st, acts, keeps, hears, w2, w3, w4, w5, w6, w7, w8, w9, w10)
def f_X10_asItIs (st : (Nat → Int32)) (now_ : (Nat → Int32)) : Option ((Nat → Int32)) :=
  bnd (f_X10_copies 0 0 52 52 52 now_ st) <|  fun w1 =>
  some w1
def f_X10_kindOf (x1 : Int32) (now_ : (Nat → Int32)) : Option (Int32) :=
  bnd (rd 52 now_ (2 + (5 * x1))) fun v1 =>
  some v1
def f_X10_sideOf (x1 : Int32) (now_ : (Nat → Int32)) : Option (Int32) :=
  bnd (rd 52 now_ ((2 + (5 * x1)) + 1)) fun v1 =>
  some v1
def f_X10_driedFor (x1 : Int32) (now_ : (Nat → Int32)) : Option (Int32) :=
  bnd (rd 52 now_ 0) fun v1 =>
  bnd (rd 52 now_ ((2 + (5 * x1)) + 4)) fun v2 =>
  if 30 ≤ (v1 - v2) then (some 30) else
  some (v1 - v2)
def f_X10_sizeOf (x1 : Int32) (now_ : (Nat → Int32)) : Option (Int32) :=
  bnd (rd 52 now_ ((2 + (5 * x1)) + 2)) fun v1 =>
  bnd (f_X10_kindOf x1 now_) <|  fun r2 =>
  if r2 = 1 then (bnd (f_X10_driedFor x1 now_) <|  fun r4 =>
  some (v1 - ((v1 * r4) / 360))) else
  some v1
def f_X10_weightOf (x1 : Int32) (now_ : (Nat → Int32)) : Option (Int32) :=
  bnd (rd 52 now_ ((2 + (5 * x1)) + 3)) fun v1 =>
  bnd (f_X10_kindOf x1 now_) <|  fun r2 =>
  if r2 = 1 then (bnd (f_X10_driedFor x1 now_) <|  fun r4 =>
  some (v1 - ((v1 * r4) / 90))) else
  if r2 = 3 then (some (v1 + 2)) else
  some v1
def f_X10_areAlike (x1 : Int32) (x2 : Int32) (now_ : (Nat → Int32)) : Option (Int32) :=
  bnd (f_X10_sideOf x1 now_) <|  fun r1 =>
  bnd (f_X10_sideOf x2 now_) <|  fun r2 =>
  if r1 = r2 then (some 0) else
  bnd (f_X10_kindOf x1 now_) <|  fun r4 =>
  if r4 = 2 then (some 0) else
  bnd (f_X10_kindOf x2 now_) <|  fun r6 =>
  if r6 = 2 then (some 0) else
  bnd (f_X10_sizeOf x1 now_) <|  fun r8 =>
  bnd (f_X10_sizeOf x2 now_) <|  fun r9 =>
  bnd (f_X10_apart r8 r9) <|  fun r10 =>
  if 2 ≤ r10 then (some 0) else
  bnd (f_X10_weightOf x1 now_) <|  fun r12 =>
  bnd (f_X10_weightOf x2 now_) <|  fun r13 =>
  bnd (f_X10_apart r12 r13) <|  fun r14 =>
  if 4 ≤ r14 then (some 0) else
  some 1
def f_X10_clog (x1 : Int32) (x2 : Int32) (st : (Nat → Int32)) (now_ : (Nat → Int32)) : Option (Int32 × (Nat → Int32)) :=
  bnd (f_X10_isClog x1 st) <|  fun r1 =>
  if r1 = 0 then (some ((-1), now_)) else
  bnd (f_X10_asItIs st now_) <|  fun w3 =>
  if x2 = 0 then (bnd (f_X10_kindOf x1 w3) <|  fun r5 =>
  some (r5, w3)) else
  if x2 = 1 then (bnd (f_X10_sideOf x1 w3) <|  fun r7 =>
  some (r7, w3)) else
  if x2 = 2 then (bnd (f_X10_sizeOf x1 w3) <|  fun r9 =>
  some (r9, w3)) else
  if x2 = 3 then (bnd (f_X10_weightOf x1 w3) <|  fun r11 =>
  some (r11, w3)) else
  if x2 = 4 then (bnd (rd 52 st ((2 + (5 * x1)) + 4)) fun v13 =>
  some (v13, w3)) else
  some ((-1), w3)
def f_X10_feet (x1 : Int32) (x2 : Int32) (feetMany : Int32) (feet : (Nat → Int32)) : Option (Int32) :=
  bnd (f_X10_in x1 0 (feetMany - 1)) <|  fun r1 =>
  if r1 = 0 then (some (-1)) else
  bnd (f_X10_in x2 0 1) <|  fun r3 =>
  if r3 = 0 then (some (-1)) else
  bnd (rd 10 feet ((2 * x1) + x2)) fun v5 =>
  some v5
def b_X10_remembers_1  (j3 : Int32) (w4 : (Nat → Int32)) : Option ((Int32 × (Nat → Int32)) ⊕ (Int32 × (Nat → Int32))) :=
if 364 ≤ j3 then (some (.inr (j3, w4))) else
bnd (rd 416 w4 (j3 + 52)) fun v6 =>
bnd (wr 416 w4 j3 v6) fun a7 =>
some (.inl ((j3 + 1), a7))
def f_X10_remembers (acts : Int32) (st : (Nat → Int32)) (was : (Nat → Int32)) : Option (Int32 × (Nat → Int32)) :=
  if acts = 8 then (bnd (lp (u2 b_X10_remembers_1) FU (0, was)) <| u2 fun j3x w4x =>
  bnd (f_X10_copies (52 * (acts - 1)) 0 52 416 52 w4x st) <|  fun w8 =>
  some (((acts - 1) + 1), w8)) else
  bnd (f_X10_copies (52 * acts) 0 52 416 52 was st) <|  fun w2 =>
  some ((acts + 1), w2)
def f_X10_pass (x1 : Int32) (acts : Int32) (st : (Nat → Int32)) (was : (Nat → Int32)) : Option (Int32 × (Nat → Int32) × Int32 × (Nat → Int32)) :=
  bnd (f_X10_in x1 1 60) <|  fun r1 =>
  if r1 = 0 then (some ((-1), st, acts, was)) else
  bnd (rd 52 st 0) fun v3 =>
  if (v3 + x1) ≤ 999 then (bnd (f_X10_remembers acts st was) <| u2 fun w5 w6 =>
  bnd (rd 52 st 0) fun v7 =>
  bnd (wr 52 st 0 (v7 + x1)) fun a8 =>
  bnd (rd 52 a8 0) fun v9 =>
  some (v9, a8, w5, w6)) else
  some ((-2), st, acts, was)
def f_X10_come (x1 : Int32) (x2 : Int32) (x3 : Int32) (x4 : Int32) (acts : Int32) (st : (Nat → Int32)) (was : (Nat → Int32)) : Option (Int32 × (Nat → Int32) × Int32 × (Nat → Int32)) :=
  bnd (f_X10_isOne x1 x2 x3 x4) <|  fun r1 =>
  if r1 = 0 then (some ((-1), st, acts, was)) else
  bnd (rd 52 st 1) fun v3 =>
  if v3 = 10 then (some ((-3), st, acts, was)) else
  bnd (f_X10_remembers acts st was) <| u2 fun w5 w6 =>
  bnd (f_X10_puts x1 x2 x3 x4 52 st) <|  fun w7 =>
  bnd (rd 52 w7 1) fun v8 =>
  some ((v8 - 1), w7, w5, w6)
def b_X10_leaves_1 (n1 : Nat) (j1 : Int32) (w2 : (Nat → Int32)) : Option ((Int32 × (Nat → Int32)) ⊕ (Int32 × (Nat → Int32))) :=
if 47 ≤ j1 then (some (.inr (j1, w2))) else
bnd (rd n1 w2 (j1 + 5)) fun v4 =>
bnd (wr n1 w2 j1 v4) fun a5 =>
some (.inl ((j1 + 1), a5))
def f_X10_leaves (x2 : Int32) (n1 : Nat) (f1 : (Nat → Int32)) : Option ((Nat → Int32)) :=
  bnd (lp (u2 (b_X10_leaves_1 n1)) FU ((2 + (5 * x2)), f1)) <| u2 fun j1x w2x =>
  bnd (rd n1 w2x 1) fun v6 =>
  bnd (wr n1 w2x 1 (v6 - 1)) fun a7 =>
  some a7
def f_X10_go (x1 : Int32) (x2 : Int32) (acts : Int32) (st : (Nat → Int32)) (was : (Nat → Int32)) (now_ : (Nat → Int32)) : Option (Int32 × (Nat → Int32) × Int32 × (Nat → Int32) × (Nat → Int32)) :=
  bnd (f_X10_isClog x1 st) <|  fun r1 =>
  if r1 = 0 then (some ((-1), st, acts, was, now_)) else
  bnd (f_X10_isClog x2 st) <|  fun r3 =>
  if r3 = 0 then (some ((-1), st, acts, was, now_)) else
  bnd (f_X10_asItIs st now_) <|  fun w5 =>
  bnd (f_X10_sideOf x1 w5) <|  fun r6 =>
  if r6 = 0 then (bnd (f_X10_areAlike x1 x2 w5) <|  fun r8 =>
  if r8 = 0 then (some ((-2), st, acts, was, w5)) else
  bnd (f_X10_remembers acts st was) <| u2 fun w10 w11 =>
  if x1 ≤ x2 then (bnd (f_X10_leaves x2 52 st) <|  fun w13 =>
  if x1 ≤ x2 then (bnd (f_X10_leaves x1 52 w13) <|  fun w15 =>
  bnd (rd 52 w15 1) fun v16 =>
  some (v16, w15, w10, w11, w5)) else
  bnd (f_X10_leaves x2 52 w13) <|  fun w17 =>
  bnd (rd 52 w17 1) fun v18 =>
  some (v18, w17, w10, w11, w5)) else
  bnd (f_X10_leaves x1 52 st) <|  fun w19 =>
  if x1 ≤ x2 then (bnd (f_X10_leaves x1 52 w19) <|  fun w21 =>
  bnd (rd 52 w21 1) fun v22 =>
  some (v22, w21, w10, w11, w5)) else
  bnd (f_X10_leaves x2 52 w19) <|  fun w23 =>
  bnd (rd 52 w23 1) fun v24 =>
  some (v24, w23, w10, w11, w5)) else
  some ((-2), st, acts, was, w5)
def f_X10_hole (x1 : Int32) (acts : Int32) (st : (Nat → Int32)) (was : (Nat → Int32)) : Option (Int32 × (Nat → Int32) × Int32 × (Nat → Int32)) :=
  bnd (f_X10_isClog x1 st) <|  fun r1 =>
  if r1 = 0 then (some ((-1), st, acts, was)) else
  bnd (rd 52 st (2 + (5 * x1))) fun v3 =>
  if v3 = 2 then (some ((-2), st, acts, was)) else
  bnd (f_X10_remembers acts st was) <| u2 fun w5 w6 =>
  bnd (wr 52 st (2 + (5 * x1)) 2) fun a7 =>
  some (v3, a7, w5, w6)
def f_X10_undo (acts : Int32) (st : (Nat → Int32)) (was : (Nat → Int32)) : Option (Int32 × (Nat → Int32) × Int32) :=
  if acts = 0 then (some ((-2), st, acts)) else
  bnd (f_X10_copies 0 (52 * (acts - 1)) 52 52 416 st was) <|  fun w2 =>
  some ((acts - 1), w2, (acts - 1))
def b_X10_mates_1 (st : (Nat → Int32)) (w3 : (Nat → Int32)) (x1 : Int32) (j4 : Int32) (j5 : Int32) : Option ((Int32 × Int32) ⊕ (Int32 × Int32)) :=
bnd (rd 52 st 1) fun v6 =>
if v6 ≤ j5 then (some (.inr (j4, j5))) else
bnd (f_X10_areAlike x1 j5 w3) <|  fun r8 =>
if r8 = 0 then (some (.inl ((j4 ||| 0), (j5 + 1)))) else
some (.inl ((j4 ||| (1 <<< (j5 &&& 31))), (j5 + 1)))
def f_X10_mates (x1 : Int32) (st : (Nat → Int32)) (now_ : (Nat → Int32)) : Option (Int32 × (Nat → Int32)) :=
  bnd (f_X10_isClog x1 st) <|  fun r1 =>
  if r1 = 0 then (some ((-1), now_)) else
  bnd (f_X10_asItIs st now_) <|  fun w3 =>
  bnd (lp (u2 (b_X10_mates_1 st w3 x1)) FU (0, 0)) <| u2 fun j4x j5x =>
  some (j4x, w3)
def b_X10_findSides_1 (now_ : (Nat → Int32)) (st : (Nat → Int32)) (j1 : Int32) (w2 : Int32) (w3 : Int32) (w4 : (Nat → Int32)) (w5 : (Nat → Int32)) : Option ((Int32 × Int32 × Int32 × (Nat → Int32) × (Nat → Int32)) ⊕ (Int32 × Int32 × Int32 × (Nat → Int32) × (Nat → Int32))) :=
bnd (rd 52 st 1) fun v6 =>
if v6 ≤ j1 then (some (.inr (j1, w2, w3, w4, w5))) else
bnd (f_X10_sideOf j1 now_) <|  fun r8 =>
if r8 = 0 then (bnd (wr 10 w4 w2 j1) fun a11 =>
some (.inl ((j1 + 1), (w2 + 1), w3, a11, w5))) else
bnd (wr 10 w5 w3 j1) fun a10 =>
some (.inl ((j1 + 1), w2, (w3 + 1), w4, a10))
def f_X10_findSides (st : (Nat → Int32)) (now_ : (Nat → Int32)) (left_ : (Nat → Int32)) (right_ : (Nat → Int32)) : Option (Int32 × Int32 × (Nat → Int32) × (Nat → Int32)) :=
  bnd (lp (u5 (b_X10_findSides_1 now_ st)) FU (0, 0, 0, left_, right_)) <| u5 fun j1x w2x w3x w4x w5x =>
  some (w2x, w3x, w4x, w5x)
def f_X10_bestWith (x1 : Int32) (x2 : Int32) (x3 : Int32) (rights_ : Int32) (now_ : (Nat → Int32)) (left_ : (Nat → Int32)) (right_ : (Nat → Int32)) (best : (Nat → Int32)) : Option (Int32) :=
  bnd (rd 1100 best (((x1 + 1) <<< (rights_ &&& 31)) + (x2 ||| (1 <<< (x3 &&& 31))))) fun v1 =>
  bnd (rd 10 left_ x1) fun v2 =>
  bnd (f_X10_sizeOf v2 now_) <|  fun r3 =>
  bnd (rd 10 right_ x3) fun v4 =>
  bnd (f_X10_sizeOf v4 now_) <|  fun r5 =>
  bnd (f_X10_apart r3 r5) <|  fun r6 =>
  some ((100 - r6) + v1)
def f_X10_mayPair (x1 : Int32) (x2 : Int32) (x3 : Int32) (now_ : (Nat → Int32)) (left_ : (Nat → Int32)) (right_ : (Nat → Int32)) : Option (Int32) :=
  bnd (f_X10_has x2 x3) <|  fun r1 =>
  if r1 = 0 then (bnd (rd 10 left_ x1) fun v3 =>
  bnd (rd 10 right_ x3) fun v4 =>
  bnd (f_X10_areAlike v3 v4 now_) <|  fun r5 =>
  if r5 = 0 then (some 0) else
  some 1) else
  some 0
def b_X10_findPairs_1 (w2 : Int32) (w3 : Int32) (j6 : Int32) (w7 : (Nat → Int32)) : Option ((Int32 × (Nat → Int32)) ⊕ (Int32 × (Nat → Int32))) :=
if (1 <<< (w3 &&& 31)) ≤ j6 then (some (.inr (j6, w7))) else
bnd (wr 1100 w7 ((w2 <<< (w3 &&& 31)) + j6) 0) fun a9 =>
some (.inl ((j6 + 1), a9))
def b_X10_findPairs_4 (j10 : Int32) (j13 : Int32) (w1 : (Nat → Int32)) (w14 : (Nat → Int32)) (w3 : Int32) (w4 : (Nat → Int32)) (w5 : (Nat → Int32)) (j17 : Int32) (j18 : Int32) : Option ((Int32 × Int32) ⊕ (Int32 × Int32)) :=
if w3 ≤ j18 then (some (.inr (j17, j18))) else
bnd (f_X10_mayPair j10 j13 j18 w1 w4 w5) <|  fun r20 =>
if r20 = 0 then (if (-1) ≤ j17 then (some (.inl (j17, (j18 + 1)))) else
some (.inl ((-1), (j18 + 1)))) else
bnd (f_X10_bestWith j10 j13 j18 w3 w1 w4 w5 w14) <|  fun r23 =>
if r23 ≤ j17 then (some (.inl (j17, (j18 + 1)))) else
some (.inl (r23, (j18 + 1)))
def b_X10_findPairs_3 (j10 : Int32) (w1 : (Nat → Int32)) (w3 : Int32) (w4 : (Nat → Int32)) (w5 : (Nat → Int32)) (j13 : Int32) (w14 : (Nat → Int32)) : Option ((Int32 × (Nat → Int32)) ⊕ (Int32 × (Nat → Int32))) :=
if (1 <<< (w3 &&& 31)) ≤ j13 then (some (.inr (j13, w14))) else
bnd (rd 1100 w14 (((j10 + 1) <<< (w3 &&& 31)) + j13)) fun v16 =>
bnd (lp (u2 (b_X10_findPairs_4 j10 j13 w1 w14 w3 w4 w5)) FU (v16, 0)) <| u2 fun j17x j18x =>
bnd (wr 1100 w14 ((j10 <<< (w3 &&& 31)) + j13) j17x) fun a25 =>
some (.inl ((j13 + 1), a25))
def b_X10_findPairs_2 (w1 : (Nat → Int32)) (w3 : Int32) (w4 : (Nat → Int32)) (w5 : (Nat → Int32)) (j10 : Int32) (w11 : (Nat → Int32)) : Option ((Int32 × (Nat → Int32)) ⊕ (Int32 × (Nat → Int32))) :=
if j10 < 0 then (some (.inr (j10, w11))) else
bnd (lp (u2 (b_X10_findPairs_3 j10 w1 w3 w4 w5)) FU (0, w11)) <| u2 fun j13x w14x =>
some (.inl ((j10 + (-1)), w14x))
def b_X10_findPairs_5  (j26 : Int32) (w27 : (Nat → Int32)) : Option ((Int32 × (Nat → Int32)) ⊕ (Int32 × (Nat → Int32))) :=
if 10 ≤ j26 then (some (.inr (j26, w27))) else
bnd (wr 10 w27 j26 (-4)) fun a29 =>
some (.inl ((j26 + 1), a29))
def b_X10_findPairs_7 (j30 : Int32) (j31 : Int32) (w1 : (Nat → Int32)) (w11x : (Nat → Int32)) (w3 : Int32) (w4 : (Nat → Int32)) (w5 : (Nat → Int32)) (j34 : Int32) : Option ((Int32) ⊕ (Int32)) :=
if w3 ≤ j34 then (some (.inr j34)) else
bnd (f_X10_mayPair j31 j30 j34 w1 w4 w5) <|  fun r36 =>
if r36 = 0 then (some (.inl (j34 + 1))) else
bnd (f_X10_bestWith j31 j30 j34 w3 w1 w4 w5 w11x) <|  fun r38 =>
bnd (rd 1100 w11x ((j31 <<< (w3 &&& 31)) + j30)) fun v39 =>
if r38 = v39 then (some (.inr j34)) else
some (.inl (j34 + 1))
def b_X10_findPairs_6 (w1 : (Nat → Int32)) (w11x : (Nat → Int32)) (w2 : Int32) (w3 : Int32) (w4 : (Nat → Int32)) (w5 : (Nat → Int32)) (j30 : Int32) (j31 : Int32) (w32 : (Nat → Int32)) : Option ((Int32 × Int32 × (Nat → Int32)) ⊕ (Int32 × Int32 × (Nat → Int32))) :=
if w2 ≤ j31 then (some (.inr (j30, j31, w32))) else
bnd (lp ((b_X10_findPairs_7 j30 j31 w1 w11x w3 w4 w5)) FU 0) <| fun j34x =>
if w3 ≤ j34x then (some (.inl (j30, (j31 + 1), w32))) else
bnd (rd 10 w4 j31) fun v42 =>
bnd (rd 10 w5 j34x) fun v43 =>
bnd (wr 10 w32 v42 v43) fun a44 =>
bnd (rd 10 w5 j34x) fun v45 =>
bnd (rd 10 w4 j31) fun v46 =>
bnd (wr 10 a44 v45 v46) fun a47 =>
bnd (some (j30 ||| (1 <<< (j34x &&& 31)))) fun v48 =>
some (.inl (v48, (j31 + 1), a47))
def f_X10_findPairs (st : (Nat → Int32)) (now_ : (Nat → Int32)) (left_ : (Nat → Int32)) (right_ : (Nat → Int32)) (best : (Nat → Int32)) (with_ : (Nat → Int32)) : Option ((Nat → Int32) × Int32 × Int32 × (Nat → Int32) × (Nat → Int32) × (Nat → Int32) × (Nat → Int32)) :=
  bnd (f_X10_asItIs st now_) <|  fun w1 =>
  bnd (f_X10_findSides st w1 left_ right_) <| u4 fun w2 w3 w4 w5 =>
  bnd (lp (u2 (b_X10_findPairs_1 w2 w3)) FU (0, best)) <| u2 fun j6x w7x =>
  bnd (lp (u2 (b_X10_findPairs_2 w1 w3 w4 w5)) FU ((w2 - 1), w7x)) <| u2 fun j10x w11x =>
  bnd (lp (u2 b_X10_findPairs_5) FU (0, with_)) <| u2 fun j26x w27x =>
  bnd (lp (u3 (b_X10_findPairs_6 w1 w11x w2 w3 w4 w5)) FU (0, 0, w27x)) <| u3 fun j30x j31x w32x =>
  some (w1, w2, w3, w4, w5, w11x, w32x)
def f_X10_pairs (x1 : Int32) (lefts_ : Int32) (rights_ : Int32) (st : (Nat → Int32)) (now_ : (Nat → Int32)) (left_ : (Nat → Int32)) (right_ : (Nat → Int32)) (best : (Nat → Int32)) (with_ : (Nat → Int32)) : Option (Int32 × (Nat → Int32) × Int32 × Int32 × (Nat → Int32) × (Nat → Int32) × (Nat → Int32) × (Nat → Int32)) :=
  bnd (rd 52 st 1) fun v1 =>
  bnd (f_X10_in x1 (-2) (v1 - 1)) <|  fun r2 =>
  if r2 = 0 then (some ((-1), now_, lefts_, rights_, left_, right_, best, with_)) else
  bnd (f_X10_findPairs st now_ left_ right_ best with_) <| u7 fun w4 w5 w6 w7 w8 w9 w10 =>
  bnd (rd 1100 w9 0) fun v11 =>
  if x1 = (-1) then (some (((v11 + 99) / 100), w4, w5, w6, w7, w8, w9, w10)) else
  if x1 = (-2) then (bnd (rd 1100 w9 0) fun v15 =>
  some (((100 * ((v11 + 99) / 100)) - v15), w4, w5, w6, w7, w8, w9, w10)) else
  bnd (rd 10 w10 x1) fun v14 =>
  some (v14, w4, w5, w6, w7, w8, w9, w10)
def b_X10_leftOver_1 (st : (Nat → Int32)) (w3 : (Nat → Int32)) (w9 : (Nat → Int32)) (x1 : Int32) (j10 : Int32) (j11 : Int32) : Option ((Int32 × Int32) ⊕ (Int32 × Int32)) :=
bnd (rd 52 st 1) fun v12 =>
if v12 ≤ j11 then (some (.inr (j10, j11))) else
bnd (f_X10_sideOf j11 w3) <|  fun r14 =>
if r14 = x1 then (bnd (rd 10 w9 j11) fun v16 =>
if 0 ≤ v16 then (some (.inl ((j10 + 0), (j11 + 1)))) else
some (.inl ((j10 + 1), (j11 + 1)))) else
some (.inl ((j10 + 0), (j11 + 1)))
def f_X10_leftOver (x1 : Int32) (lefts_ : Int32) (rights_ : Int32) (st : (Nat → Int32)) (now_ : (Nat → Int32)) (left_ : (Nat → Int32)) (right_ : (Nat → Int32)) (best : (Nat → Int32)) (with_ : (Nat → Int32)) : Option (Int32 × (Nat → Int32) × Int32 × Int32 × (Nat → Int32) × (Nat → Int32) × (Nat → Int32) × (Nat → Int32)) :=
  bnd (f_X10_in x1 0 1) <|  fun r1 =>
  if r1 = 0 then (some ((-1), now_, lefts_, rights_, left_, right_, best, with_)) else
  bnd (f_X10_findPairs st now_ left_ right_ best with_) <| u7 fun w3 w4 w5 w6 w7 w8 w9 =>
  bnd (lp (u2 (b_X10_leftOver_1 st w3 w9 x1)) FU (0, 0)) <| u2 fun j10x j11x =>
  some (j10x, w3, w4, w5, w6, w7, w8, w9)
def f_X10_fits (x1 : Int32) (x2 : Int32) (x3 : Int32) (stocking : Int32) (feet : (Nat → Int32)) (now_ : (Nat → Int32)) : Option (Int32) :=
  bnd (rd 10 feet ((2 * x2) + x3)) fun v1 =>
  bnd (f_X10_sideOf x1 now_) <|  fun r2 =>
  if r2 = x3 then (bnd (f_X10_sizeOf x1 now_) <|  fun r4 =>
  bnd (f_X10_in r4 (v1 + stocking) ((v1 + stocking) + 4)) <|  fun r5 =>
  if r5 = 0 then (some 0) else
  some 1) else
  some 0
def b_X10_serveMore_2 (feet : (Nat → Int32)) (j1 : Int32) (now_ : (Nat → Int32)) (st : (Nat → Int32)) (stocking : Int32) (x1 : Int32) (x2 : Int32) (j5 : Int32) (w6 : (Nat → Int32)) : Option ((Int32 × (Nat → Int32)) ⊕ (Int32 × (Nat → Int32))) :=
bnd (rd 52 st 1) fun v7 =>
if v7 ≤ j5 then (some (.inr (j5, w6))) else
bnd (f_X10_has x2 j1) <|  fun r9 =>
if r9 = 0 then (bnd (f_X10_has x2 j5) <|  fun r12 =>
if r12 = 0 then (bnd (f_X10_fits j1 x1 0 stocking feet now_) <|  fun r15 =>
if r15 = 0 then (some (.inl ((j5 + 1), w6))) else
bnd (f_X10_fits j5 x1 1 stocking feet now_) <|  fun r18 =>
if r18 = 0 then (some (.inl ((j5 + 1), w6))) else
bnd (f_X10_areAlike j1 j5 now_) <|  fun r21 =>
if r21 = 0 then (some (.inl ((j5 + 1), w6))) else
bnd (some ((x2 ||| (1 <<< (j1 &&& 31))) ||| (1 <<< (j5 &&& 31)))) fun v25 =>
bnd (rd 1024 w6 x2) fun v26 =>
bnd (rd 1024 w6 v25) fun v27 =>
if (v26 + 1) ≤ v27 then (bnd (rd 1024 w6 v25) fun v29 =>
bnd (wr 1024 w6 v25 v29) fun a30 =>
some (.inl ((j5 + 1), a30))) else
bnd (rd 1024 w6 x2) fun v31 =>
bnd (wr 1024 w6 v25 (v31 + 1)) fun a32 =>
some (.inl ((j5 + 1), a32))) else
some (.inl ((j5 + 1), w6))) else
some (.inl ((j5 + 1), w6))
def b_X10_serveMore_1 (feet : (Nat → Int32)) (now_ : (Nat → Int32)) (st : (Nat → Int32)) (stocking : Int32) (x1 : Int32) (x2 : Int32) (j1 : Int32) (w2 : (Nat → Int32)) : Option ((Int32 × (Nat → Int32)) ⊕ (Int32 × (Nat → Int32))) :=
bnd (rd 52 st 1) fun v3 =>
if v3 ≤ j1 then (some (.inr (j1, w2))) else
bnd (lp (u2 (b_X10_serveMore_2 feet j1 now_ st stocking x1 x2)) FU (0, w2)) <| u2 fun j5x w6x =>
some (.inl ((j1 + 1), w6x))
def f_X10_serveMore (x1 : Int32) (x2 : Int32) (stocking : Int32) (feet : (Nat → Int32)) (st : (Nat → Int32)) (now_ : (Nat → Int32)) (serves : (Nat → Int32)) : Option ((Nat → Int32)) :=
  bnd (lp (u2 (b_X10_serveMore_1 feet now_ st stocking x1 x2)) FU (0, serves)) <| u2 fun j1x w2x =>
  some w2x
def b_X10_served_1 (v2 : Int32) (j3 : Int32) (w4 : (Nat → Int32)) : Option ((Int32 × (Nat → Int32)) ⊕ (Int32 × (Nat → Int32))) :=
if (1 <<< (v2 &&& 31)) ≤ j3 then (some (.inr (j3, w4))) else
if j3 = 0 then (bnd (wr 1024 w4 j3 0) fun a8 =>
some (.inl ((j3 + 1), a8))) else
bnd (wr 1024 w4 j3 (-1)) fun a7 =>
some (.inl ((j3 + 1), a7))
def b_X10_served_3 (feet : (Nat → Int32)) (j9 : Int32) (st : (Nat → Int32)) (stocking : Int32) (w1 : (Nat → Int32)) (j12 : Int32) (w13 : (Nat → Int32)) : Option ((Int32 × (Nat → Int32)) ⊕ (Int32 × (Nat → Int32))) :=
if j12 < 0 then (some (.inr (j12, w13))) else
bnd (rd 1024 w13 j12) fun v15 =>
if v15 < 0 then (some (.inl ((j12 + (-1)), w13))) else
bnd (f_X10_serveMore j9 j12 stocking feet st w1 w13) <|  fun w17 =>
some (.inl ((j12 + (-1)), w17))
def b_X10_served_2 (feet : (Nat → Int32)) (feetMany : Int32) (st : (Nat → Int32)) (stocking : Int32) (v2 : Int32) (w1 : (Nat → Int32)) (j9 : Int32) (w10 : (Nat → Int32)) : Option ((Int32 × (Nat → Int32)) ⊕ (Int32 × (Nat → Int32))) :=
if feetMany ≤ j9 then (some (.inr (j9, w10))) else
bnd (lp (u2 (b_X10_served_3 feet j9 st stocking w1)) FU (((1 <<< (v2 &&& 31)) - 1), w10)) <| u2 fun j12x w13x =>
some (.inl ((j9 + 1), w13x))
def b_X10_served_4 (v2 : Int32) (w10x : (Nat → Int32)) (j18 : Int32) (j19 : Int32) : Option ((Int32 × Int32) ⊕ (Int32 × Int32)) :=
if (1 <<< (v2 &&& 31)) ≤ j19 then (some (.inr (j18, j19))) else
bnd (rd 1024 w10x j19) fun v21 =>
if v21 ≤ j18 then (some (.inl (j18, (j19 + 1)))) else
bnd (rd 1024 w10x j19) fun v23 =>
some (.inl (v23, (j19 + 1)))
def f_X10_served (feetMany : Int32) (stocking : Int32) (feet : (Nat → Int32)) (st : (Nat → Int32)) (now_ : (Nat → Int32)) (serves : (Nat → Int32)) : Option (Int32 × (Nat → Int32) × (Nat → Int32)) :=
  bnd (f_X10_asItIs st now_) <|  fun w1 =>
  bnd (rd 52 st 1) fun v2 =>
  bnd (lp (u2 (b_X10_served_1 v2)) FU (0, serves)) <| u2 fun j3x w4x =>
  bnd (lp (u2 (b_X10_served_2 feet feetMany st stocking v2 w1)) FU (0, w4x)) <| u2 fun j9x w10x =>
  bnd (lp (u2 (b_X10_served_4 v2 w10x)) FU (0, 0)) <| u2 fun j18x j19x =>
  some (j18x, w1, w10x)
def b_X10_whose_1 (feet : (Nat → Int32)) (feetMany : Int32) (stocking : Int32) (w3 : (Nat → Int32)) (x1 : Int32) (j4 : Int32) (j5 : Int32) : Option ((Int32 × Int32) ⊕ (Int32 × Int32)) :=
if feetMany ≤ j5 then (some (.inr (j4, j5))) else
bnd (f_X10_sideOf x1 w3) <|  fun r7 =>
bnd (f_X10_fits x1 j5 r7 stocking feet w3) <|  fun r8 =>
if r8 = 0 then (some (.inl ((j4 ||| 0), (j5 + 1)))) else
some (.inl ((j4 ||| (1 <<< (j5 &&& 31))), (j5 + 1)))
def f_X10_whose (x1 : Int32) (feetMany : Int32) (stocking : Int32) (feet : (Nat → Int32)) (st : (Nat → Int32)) (now_ : (Nat → Int32)) : Option (Int32 × (Nat → Int32)) :=
  bnd (f_X10_isClog x1 st) <|  fun r1 =>
  if r1 = 0 then (some ((-1), now_)) else
  bnd (f_X10_asItIs st now_) <|  fun w3 =>
  bnd (lp (u2 (b_X10_whose_1 feet feetMany stocking w3 x1)) FU (0, 0)) <| u2 fun j4x j5x =>
  some (j4x, w3)
def b_X10_alikeBy_1 (x1 : Int32) (x2 : Int32) (j10 : Int32) (w11 : (Nat → Int32)) : Option ((Int32 × (Nat → Int32)) ⊕ ((Int32 × (Nat → Int32)) ⊕ (Int32 × (Nat → Int32)))) :=
if 60 < j10 then (some (.inr (.inl (j10, w11)))) else
bnd (f_X10_areAlike x1 x2 w11) <|  fun r13 =>
if r13 = 0 then (bnd (rd 52 w11 0) fun v15 =>
bnd (wr 52 w11 0 (v15 + 1)) fun a16 =>
some (.inl ((j10 + 1), a16))) else
some (.inr (.inr (j10, w11)))
def f_X10_alikeBy (x1 : Int32) (x2 : Int32) (st : (Nat → Int32)) (now_ : (Nat → Int32)) : Option (Int32 × (Nat → Int32)) :=
  bnd (f_X10_isClog x1 st) <|  fun r1 =>
  if r1 = 0 then (some ((-1), now_)) else
  bnd (f_X10_isClog x2 st) <|  fun r3 =>
  if r3 = 0 then (some ((-1), now_)) else
  bnd (f_X10_asItIs st now_) <|  fun w5 =>
  bnd (f_X10_sideOf x1 w5) <|  fun r6 =>
  if r6 = 0 then (bnd (f_X10_sideOf x2 w5) <|  fun r8 =>
  if r8 = 1 then (bndE (lp (u2 (b_X10_alikeBy_1 x1 x2)) FU (0, w5)) (u2 (fun j10x w11x =>
  some ((-4), w11x))) (fun q => some q)) else
  some ((-1), w5)) else
  some ((-1), w5)
def b_X10_dry_1 (r8 : Int32) (x1 : Int32) (j11 : Int32) (w12 : (Nat → Int32)) : Option ((Int32 × (Nat → Int32)) ⊕ (Int32 × (Nat → Int32))) :=
bnd (f_X10_sizeOf x1 w12) <|  fun r13 =>
if r13 ≤ r8 then (some (.inr (j11, w12))) else
bnd (rd 52 w12 0) fun v15 =>
bnd (wr 52 w12 0 (v15 + 1)) fun a16 =>
some (.inl ((j11 + 1), a16))
def f_X10_dry (x1 : Int32) (x2 : Int32) (st : (Nat → Int32)) (now_ : (Nat → Int32)) : Option (Int32 × (Nat → Int32)) :=
  bnd (f_X10_isClog x1 st) <|  fun r1 =>
  if r1 = 0 then (some ((-1), now_)) else
  bnd (f_X10_in x2 0 1) <|  fun r3 =>
  if r3 = 0 then (some ((-1), now_)) else
  bnd (f_X10_asItIs st now_) <|  fun w5 =>
  bnd (rd 52 w5 0) fun v6 =>
  bnd (wr 52 w5 0 (v6 + 30)) fun a7 =>
  bnd (f_X10_sizeOf x1 a7) <|  fun r8 =>
  bnd (rd 52 st 0) fun v9 =>
  bnd (wr 52 a7 0 v9) fun a10 =>
  bnd (lp (u2 (b_X10_dry_1 r8 x1)) FU (0, a10)) <| u2 fun j11x w12x =>
  if x2 = 0 then (some (j11x, w12x)) else
  some (r8, w12x)
def b_X10_isClear_1 (block : Int32) (knot : (Nat → Int32)) (x1 : Int32) (j2 : Int32) (j3 : Int32) : Option ((Int32 × Int32) ⊕ (Int32 × Int32)) :=
if block ≤ j3 then (some (.inr (j2, j3))) else
if j2 = 0 then (some (.inl (0, (j3 + 1)))) else
if 40 ≤ (x1 + j3) then (bnd (rd 40 knot 0) fun v7 =>
if v7 = 0 then (some (.inl (1, (j3 + 1)))) else
some (.inl (0, (j3 + 1)))) else
bnd (rd 40 knot (x1 + j3)) fun v9 =>
if v9 = 0 then (some (.inl (1, (j3 + 1)))) else
some (.inl (0, (j3 + 1)))
def b_X10_isClear_2 (block : Int32) (knot : (Nat → Int32)) (x1 : Int32) (j11 : Int32) (j12 : Int32) : Option ((Int32 × Int32) ⊕ (Int32 × Int32)) :=
if block ≤ j12 then (some (.inr (j11, j12))) else
if j11 = 0 then (some (.inl (0, (j12 + 1)))) else
if 40 ≤ (x1 + j12) then (bnd (rd 40 knot 0) fun v16 =>
if v16 = 0 then (some (.inl (1, (j12 + 1)))) else
some (.inl (0, (j12 + 1)))) else
bnd (rd 40 knot (x1 + j12)) fun v18 =>
if v18 = 0 then (some (.inl (1, (j12 + 1)))) else
some (.inl (0, (j12 + 1)))
def f_X10_isClear (x1 : Int32) (log_ : Int32) (block : Int32) (knot : (Nat → Int32)) : Option (Int32) :=
  if log_ < (x1 + block) then (bnd (lp (u2 (b_X10_isClear_1 block knot x1)) FU (0, 0)) <| u2 fun j2x j3x =>
  some j2x) else
  bnd (lp (u2 (b_X10_isClear_2 block knot x1)) FU (1, 0)) <| u2 fun j11x j12x =>
  some j11x
def b_X10_sawn_1 (block : Int32) (knot : (Nat → Int32)) (log_ : Int32) (x1 : Int32) (j2 : Int32) (j3 : Int32) (j4 : Int32) : Option ((Int32 × Int32 × Int32) ⊕ (Int32 × Int32 × Int32)) :=
if log_ ≤ j3 then (some (.inr (j2, j3, j4))) else
bnd (f_X10_isClear j3 log_ block knot) <|  fun r6 =>
if r6 = 0 then (if r6 = 0 then (if r6 = 0 then (some (.inl ((j2 + 0), (j3 + 1), j4))) else
some (.inl ((j2 + 0), (j3 + block), j4))) else
if r6 = 0 then (some (.inl ((j2 + 1), (j3 + 1), j4))) else
some (.inl ((j2 + 1), (j3 + block), j4))) else
if j2 = x1 then (if r6 = 0 then (if r6 = 0 then (some (.inl ((j2 + 0), (j3 + 1), j3))) else
some (.inl ((j2 + 0), (j3 + block), j3))) else
if r6 = 0 then (some (.inl ((j2 + 1), (j3 + 1), j3))) else
some (.inl ((j2 + 1), (j3 + block), j3))) else
if r6 = 0 then (if r6 = 0 then (some (.inl ((j2 + 0), (j3 + 1), j4))) else
some (.inl ((j2 + 0), (j3 + block), j4))) else
if r6 = 0 then (some (.inl ((j2 + 1), (j3 + 1), j4))) else
some (.inl ((j2 + 1), (j3 + block), j4))
def f_X10_sawn (x1 : Int32) (log_ : Int32) (block : Int32) (knot : (Nat → Int32)) : Option (Int32) :=
  if (-1) ≤ x1 then (bnd (lp (u3 (b_X10_sawn_1 block knot log_ x1)) FU (0, 0, (-4))) <| u3 fun j2x j3x j4x =>
  if 0 ≤ x1 then (some j4x) else
  some j2x) else
  some (-1)
def b_X10_sizes_2 (j8 : Int32) (st : (Nat → Int32)) (w5 : (Nat → Int32)) (x1 : Int32) (j10 : Int32) (j11 : Int32) : Option ((Int32 × Int32) ⊕ (Int32 × Int32)) :=
bnd (rd 52 st 1) fun v12 =>
if v12 ≤ j11 then (some (.inr (j10, j11))) else
bnd (f_X10_kindOf j11 w5) <|  fun r14 =>
if r14 = 2 then (some (.inl ((j10 + 0), (j11 + 1)))) else
bnd (f_X10_sizeOf j11 w5) <|  fun r16 =>
bnd (f_X10_in r16 j8 ((j8 + x1) - 1)) <|  fun r17 =>
if r17 = 0 then (some (.inl ((j10 + 0), (j11 + 1)))) else
some (.inl ((j10 + 1), (j11 + 1)))
def b_X10_sizes_1 (st : (Nat → Int32)) (w5 : (Nat → Int32)) (x1 : Int32) (j6 : Int32) (j7 : Int32) (j8 : Int32) : Option ((Int32 × Int32 × Int32) ⊕ (Int32 × Int32 × Int32)) :=
if 72 < j8 then (some (.inr (j6, j7, j8))) else
bnd (lp (u2 (b_X10_sizes_2 j8 st w5 x1)) FU (0, 0)) <| u2 fun j10x j11x =>
if j10x ≤ j7 then (if j10x ≤ j7 then (some (.inl (j6, j7, (j8 + 1)))) else
some (.inl (j6, j10x, (j8 + 1)))) else
if j10x ≤ j7 then (some (.inl (j8, j7, (j8 + 1)))) else
some (.inl (j8, j10x, (j8 + 1)))
def f_X10_sizes (x1 : Int32) (x2 : Int32) (st : (Nat → Int32)) (now_ : (Nat → Int32)) : Option (Int32 × (Nat → Int32)) :=
  bnd (f_X10_in x1 1 5) <|  fun r1 =>
  if r1 = 0 then (some ((-1), now_)) else
  bnd (f_X10_in x2 0 1) <|  fun r3 =>
  if r3 = 0 then (some ((-1), now_)) else
  bnd (f_X10_asItIs st now_) <|  fun w5 =>
  bnd (lp (u3 (b_X10_sizes_1 st w5 x1)) FU (0, (-1), 1)) <| u3 fun j6x j7x j8x =>
  if x2 = 0 then (some (j6x, w5)) else
  some (j7x, w5)
def f_X10_heard (x1 : Int32) (x2 : Int32) (x3 : Int32) (hears : Int32) (heard : (Nat → Int32)) : Option (Int32 × Int32 × (Nat → Int32)) :=
  bnd (f_X10_in x1 0 9) <|  fun r1 =>
  if r1 = 0 then (some ((-1), hears, heard)) else
  bnd (f_X10_in x2 1 9) <|  fun r3 =>
  if r3 = 0 then (some ((-1), hears, heard)) else
  bnd (f_X10_in x3 0 1) <|  fun r5 =>
  if r5 = 0 then (some ((-1), hears, heard)) else
  if hears = 8 then (some ((-3), hears, heard)) else
  bnd (wr 24 heard (3 * hears) x1) fun a8 =>
  bnd (wr 24 a8 ((3 * hears) + 1) x2) fun a9 =>
  bnd (wr 24 a9 ((3 * hears) + 2) x3) fun a10 =>
  some ((hears + 1), (hears + 1), a10)
def f_X10_forget (hears : Int32) : Option (Int32 × Int32) :=
  some (hears, 0)
def b_X10_thick_2 (heard : (Nat → Int32)) (hears : Int32) (j4 : Int32) (x1 : Int32) (j6 : Int32) (j7 : Int32) : Option ((Int32 × Int32) ⊕ (Int32 × Int32)) :=
if hears ≤ j7 then (some (.inr (j6, j7))) else
bnd (rd 24 heard ((3 * j7) + 1)) fun v9 =>
if v9 < j4 then (if j6 = 0 then (some (.inl (0, (j7 + 1)))) else
bnd (rd 24 heard (3 * j7)) fun v12 =>
if v12 = x1 then (bnd (rd 24 heard ((3 * j7) + 2)) fun v14 =>
if v14 = 1 then (some (.inl (0, (j7 + 1)))) else
some (.inl (1, (j7 + 1)))) else
some (.inl (1, (j7 + 1)))) else
if j6 = 0 then (some (.inl (0, (j7 + 1)))) else
bnd (rd 24 heard (3 * j7)) fun v19 =>
if v19 = x1 then (bnd (rd 24 heard ((3 * j7) + 2)) fun v21 =>
if v21 = 1 then (some (.inl (1, (j7 + 1)))) else
some (.inl (0, (j7 + 1)))) else
some (.inl (1, (j7 + 1)))
def b_X10_thick_1 (heard : (Nat → Int32)) (hears : Int32) (x1 : Int32) (j3 : Int32) (j4 : Int32) : Option ((Int32 × Int32) ⊕ (Int32 × Int32)) :=
if 10 ≤ j4 then (some (.inr (j3, j4))) else
bnd (lp (u2 (b_X10_thick_2 heard hears j4 x1)) FU (1, 0)) <| u2 fun j6x j7x =>
if j6x = 0 then (some (.inl ((j3 ||| 0), (j4 + 1)))) else
some (.inl ((j3 ||| (1 <<< (j4 &&& 31))), (j4 + 1)))
def f_X10_thick (x1 : Int32) (hears : Int32) (heard : (Nat → Int32)) : Option (Int32) :=
  bnd (f_X10_in x1 0 9) <|  fun r1 =>
  if r1 = 0 then (some (-1)) else
  bnd (lp (u2 (b_X10_thick_1 heard hears x1)) FU (0, 1)) <| u2 fun j3x j4x =>
  some j3x
def b_X10_whole_1 (x1 : Int32) (x2 : Int32) (j7 : Int32) (j8 : Int32) (j9 : Int32) : Option ((Int32 × Int32 × Int32) ⊕ (Int32 × Int32 × Int32)) :=
if (2 * x1) ≤ j9 then (some (.inr (j7, j8, j9))) else
some (.inl ((j7 * (10 - x2)), (j8 * 10), (j9 + 1)))
def b_X10_whole_2  (j11 : Int32) (j12 : Int32) : Option ((Int32 × Int32) ⊕ (Int32 × Int32)) :=
if j12 ≤ 0 then (some (.inr (j11, j12))) else
bnd (rmI j11 j12) fun v14 =>
some (.inl (j12, v14))
def f_X10_whole (x1 : Int32) (x2 : Int32) (x3 : Int32) : Option (Int32) :=
  bnd (f_X10_in x1 0 4) <|  fun r1 =>
  if r1 = 0 then (some (-1)) else
  bnd (f_X10_in x2 0 10) <|  fun r3 =>
  if r3 = 0 then (some (-1)) else
  bnd (f_X10_in x3 0 1) <|  fun r5 =>
  if r5 = 0 then (some (-1)) else
  bnd (lp (u3 (b_X10_whole_1 x1 x2)) FU (1, 1, 0)) <| u3 fun j7x j8x j9x =>
  bnd (lp (u2 b_X10_whole_2) FU (j7x, j8x)) <| u2 fun j11x j12x =>
  if x3 = 0 then (bnd (dvI j7x j11x) fun v17 =>
  some v17) else
  bnd (dvI j8x j11x) fun v16 =>
  some v16
def b_X10_together_1 (x1 : Int32) (x2 : Int32) (j5 : Int64) (j6 : Int64) (j7 : Int64) (j8 : Int64) (j9 : Int64) (j10 : Int32) : Option ((Int64 × Int64 × Int64 × Int64 × Int64 × Int32) ⊕ (Int64 × Int64 × Int64 × Int64 × Int64 × Int32)) :=
if (2 * x1) ≤ j10 then (some (.inr (j5, j6, j7, j8, j9, j10))) else
bnd (some (j6 * (Int32.toInt64 (100 - (((j10 / 2) + 1) * x2))))) fun v12 =>
bnd (rmI j10 x1) fun v13 =>
bnd (some (j7 * (Int32.toInt64 (100 - ((v13 + 1) * x2))))) fun v14 =>
some (.inl ((j5 * 100), v12, v14, ((100 * j8) + (100 * j6)), ((100 * j9) + (100 * j7)), (j10 + 1)))
def f_X10_together (x1 : Int32) (x2 : Int32) : Option (Int32) :=
  bnd (f_X10_in x1 0 3) <|  fun r1 =>
  if r1 = 0 then (some (-1)) else
  bnd (f_X10_in x2 0 33) <|  fun r3 =>
  if r3 = 0 then (some (-1)) else
  bnd (lp (u6 (b_X10_together_1 x1 x2)) FU (1, 1, 1, 0, 0, 0)) <| u6 fun j5x j6x j7x j8x j9x j10x =>
  bnd (dvL (10000 * (j8x - j9x)) j5x) fun v15 =>
  some ((Int64.toInt32 v15) + 100000)
def b_X10_firstGo_2 (j1 : Int32) (now_ : (Nat → Int32)) (j4 : Int32) : Option ((Int32) ⊕ ((Int32) ⊕ (Int32 × (Nat → Int32)))) :=
bnd (rd 52 now_ 1) fun v5 =>
if v5 ≤ j4 then (some (.inr (.inl j4))) else
bnd (f_X10_sideOf j1 now_) <|  fun r7 =>
if r7 = 0 then (bnd (f_X10_areAlike j1 j4 now_) <|  fun r9 =>
if r9 = 0 then (some (.inl (j4 + 1))) else
if j1 ≤ j4 then (bnd (f_X10_leaves j4 52 now_) <|  fun w12 =>
if j1 ≤ j4 then (bnd (f_X10_leaves j1 52 w12) <|  fun w14 =>
some (.inr (.inr (1, w14)))) else
bnd (f_X10_leaves j4 52 w12) <|  fun w15 =>
some (.inr (.inr (1, w15)))) else
bnd (f_X10_leaves j1 52 now_) <|  fun w16 =>
if j1 ≤ j4 then (bnd (f_X10_leaves j1 52 w16) <|  fun w18 =>
some (.inr (.inr (1, w18)))) else
bnd (f_X10_leaves j4 52 w16) <|  fun w19 =>
some (.inr (.inr (1, w19)))) else
some (.inr (.inl j4))
def b_X10_firstGo_1 (now_ : (Nat → Int32)) (j1 : Int32) : Option ((Int32) ⊕ ((Int32) ⊕ (Int32 × (Nat → Int32)))) :=
bnd (rd 52 now_ 1) fun v2 =>
if v2 ≤ j1 then (some (.inr (.inl j1))) else
bndE (lp ((b_X10_firstGo_2 j1 now_)) FU 0) (fun j4x =>
some (.inl (j1 + 1))) (fun q => some (.inr (.inr q)))
def f_X10_firstGo (now_ : (Nat → Int32)) : Option (Int32 × (Nat → Int32)) :=
  bndE (lp ((b_X10_firstGo_1 now_)) FU 0) (fun j1x =>
  some (0, now_)) (fun q => some q)
def b_X10_year_1 (x1 : Int32) (x2 : Int32) (j8 : Int32) (j9 : Int32) (w10 : (Nat → Int32)) : Option ((Int32 × Int32 × (Nat → Int32)) ⊕ (Int32 × Int32 × (Nat → Int32))) :=
if x2 ≤ j9 then (some (.inr (j8, j9, w10))) else
bnd (some (((7919 * (Int32.toInt64 x1)) + (6151 * (Int32.toInt64 j9))) + 1)) fun v12 =>
bnd (some (Int64.toInt32 (((v12 * v12) - (v12 * v12) / 65521 * 65521) / 4))) fun v13 =>
bnd (rd 52 w10 1) fun v14 =>
if 10 ≤ v14 then (bnd (f_X10_firstGo w10) <| u2 fun r16 w17 =>
if r16 = 0 then (bnd (rd 52 w17 0) fun v19 =>
bnd (wr 52 w17 0 (v19 + 1)) fun a20 =>
some (.inl ((j8 + 0), (j9 + 1), a20))) else
bnd (rd 52 w17 0) fun v21 =>
bnd (wr 52 w17 0 (v21 + 1)) fun a22 =>
some (.inl ((j8 + 1), (j9 + 1), a22))) else
bnd (f_X10_puts 0 (v13 - v13 / 2 * 2) (30 + ((v13 / 2) - (v13 / 2) / 12 * 12)) (10 + ((v13 / 32) - (v13 / 32) / 5 * 5)) 52 w10) <|  fun w23 =>
bnd (f_X10_firstGo w23) <| u2 fun r24 w25 =>
if r24 = 0 then (bnd (rd 52 w25 0) fun v27 =>
bnd (wr 52 w25 0 (v27 + 1)) fun a28 =>
some (.inl ((j8 + 0), (j9 + 1), a28))) else
bnd (rd 52 w25 0) fun v29 =>
bnd (wr 52 w25 0 (v29 + 1)) fun a30 =>
some (.inl ((j8 + 1), (j9 + 1), a30))
def f_X10_year (x1 : Int32) (x2 : Int32) (x3 : Int32) (st : (Nat → Int32)) (now_ : (Nat → Int32)) : Option (Int32 × (Nat → Int32)) :=
  bnd (f_X10_in x1 0 9999) <|  fun r1 =>
  if r1 = 0 then (some ((-1), now_)) else
  bnd (f_X10_in x2 1 60) <|  fun r3 =>
  if r3 = 0 then (some ((-1), now_)) else
  bnd (f_X10_in x3 0 1) <|  fun r5 =>
  if r5 = 0 then (some ((-1), now_)) else
  bnd (f_X10_asItIs st now_) <|  fun w7 =>
  bnd (lp (u3 (b_X10_year_1 x1 x2)) FU (0, 0, w7)) <| u3 fun j8x j9x w10x =>
  if x3 = 0 then (some (j8x, w10x)) else
  bnd (rd 52 w10x 1) fun v32 =>
  some (v32, w10x)
def f_X10_keep (keeps : Int32) (st : (Nat → Int32)) (kept : (Nat → Int32)) : Option (Int32 × Int32 × (Nat → Int32)) :=
  if keeps = 2 then (some ((-3), keeps, kept)) else
  bnd (f_X10_copies (52 * keeps) 0 52 104 52 kept st) <|  fun w2 =>
  some ((keeps + 1), (keeps + 1), w2)
def f_X10_back (acts : Int32) (keeps : Int32) (st : (Nat → Int32)) (kept : (Nat → Int32)) : Option (Int32 × (Nat → Int32) × Int32 × Int32) :=
  if keeps = 0 then (some ((-2), st, acts, keeps)) else
  bnd (f_X10_copies 0 (52 * (keeps - 1)) 52 52 104 st kept) <|  fun w2 =>
  some ((keeps - 1), w2, 0, (keeps - 1))
def b_X10_knots_1 (knot : (Nat → Int32)) (log_ : Int32) (j1 : Int32) (j2 : Int32) : Option ((Int32 × Int32) ⊕ (Int32 × Int32)) :=
if log_ ≤ j2 then (some (.inr (j1, j2))) else
bnd (rd 40 knot j2) fun v4 =>
if v4 = 0 then (some (.inl ((j1 + 0), (j2 + 1)))) else
some (.inl ((j1 + 1), (j2 + 1)))
def f_X10_knots (log_ : Int32) (knot : (Nat → Int32)) : Option (Int32) :=
  bnd (lp (u2 (b_X10_knots_1 knot log_)) FU (0, 0)) <| u2 fun j1x j2x =>
  some j1x
def b_X10_holed_1 (st : (Nat → Int32)) (j1 : Int32) (j2 : Int32) : Option ((Int32 × Int32) ⊕ (Int32 × Int32)) :=
bnd (rd 52 st 1) fun v3 =>
if v3 ≤ j2 then (some (.inr (j1, j2))) else
bnd (rd 52 st (2 + (5 * j2))) fun v5 =>
if v5 = 2 then (some (.inl ((j1 + 1), (j2 + 1)))) else
some (.inl ((j1 + 0), (j2 + 1)))
def f_X10_holed (st : (Nat → Int32)) : Option (Int32) :=
  bnd (lp (u2 (b_X10_holed_1 st)) FU (0, 0)) <| u2 fun j1x j2x =>
  some j1x
def f_X10_count (x1 : Int32) (feetMany : Int32) (log_ : Int32) (stocking : Int32) (acts : Int32) (keeps : Int32) (hears : Int32) (texted : Int32) (knot : (Nat → Int32)) (st : (Nat → Int32)) : Option (Int32) :=
  if x1 = 0 then (bnd (rd 52 st 1) fun v2 =>
  some v2) else
  if x1 = 1 then (some feetMany) else
  if x1 = 2 then (bnd (rd 52 st 0) fun v5 =>
  some v5) else
  if x1 = 3 then (bnd (f_X10_knots log_ knot) <|  fun r7 =>
  some r7) else
  if x1 = 4 then (bnd (f_X10_holed st) <|  fun r9 =>
  some r9) else
  if x1 = 5 then (some hears) else
  if x1 = 6 then (some acts) else
  if x1 = 7 then (some keeps) else
  if x1 = 8 then (some texted) else
  if x1 = 9 then (some stocking) else
  some (-1)
def f_X9_write (x1 : Int32) (text_length : Int32) (text_letters : (Nat → Int32)) : Option (Int32 × (Nat → Int32) × Int32) :=
  bnd (f_X9_within x1 32 126) <|  fun r1 =>
  if r1 = 0 then (some ((-1), text_letters, text_length)) else
  if text_length < 200 then (bnd (f_X5_append x1 text_length text_letters) <| u2 fun w4 w5 =>
  some (w5, w4, w5)) else
  some ((-3), text_letters, text_length)
def f_X9_wipe (text_length : Int32) : Option (Int32 × Int32) :=
  bnd (f_X5_clear) <|  fun w1 =>
  some (text_length, w1)
def f_X9_fault (text_length : Int32) (text_letters : (Nat → Int32)) (reader_told : Int32) (reader_shelf_cells : (Nat → Int32)) (reader_waiting_lefts : (Nat → Int32)) (reader_waiting_rights : (Nat → Int32)) (reader_numbers : (Nat → Int32)) : Option (Int32 × (Nat → Int32) × Int32 × Int32 × (Nat → Int32) × (Nat → Int32) × Int32 × Int32 × Int32 × Int32 × Int64 × (Nat → Int32) × Int32) :=
  bnd (f_X3_read reader_told reader_shelf_cells reader_waiting_lefts reader_waiting_rights reader_numbers text_length text_letters) <| u13 fun r1 w2 w3 w4 w5 w6 w7 w8 w9 w10 w11 w12 w13 =>
  some (r1, w2, w3, w4, w5, w6, w7, w8, w9, w10, w11, w12, w13)
def f_X9_clog (x1 : Int32) (x2 : Int32) (shelf_clogs : Int32) (shelf_day : Int32) (shelf_cells : (Nat → Int32)) : Option (Int32) :=
  bnd (f_X4_holds x1 shelf_clogs) <|  fun r1 =>
  if r1 = 0 then (some (-1)) else
  bnd (f_X9_within x2 0 4) <|  fun r3 =>
  if r3 = 0 then (some (-1)) else
  if x2 = 2 then (bnd (f_X4_sizeOn x1 shelf_day shelf_clogs shelf_cells) <|  fun r9 =>
  some r9) else
  if x2 = 3 then (bnd (f_X4_weightOn x1 shelf_day shelf_clogs shelf_cells) <|  fun r8 =>
  some r8) else
  bnd (f_X4_cell x1 x2 shelf_clogs shelf_cells) <|  fun r7 =>
  some r7
def f_X9_feet (x1 : Int32) (x2 : Int32) (waiting_number : Int32) (waiting_lefts : (Nat → Int32)) (waiting_rights : (Nat → Int32)) : Option (Int32) :=
  bnd (f_X9_within x1 0 (waiting_number - 1)) <|  fun r1 =>
  if r1 = 0 then (some (-1)) else
  bnd (f_X9_isSide x2) <|  fun r3 =>
  if r3 = 0 then (some (-1)) else
  bnd (f_X6_foot x1 x2 waiting_lefts waiting_rights) <|  fun r5 =>
  some r5
def f_X9_mates (x1 : Int32) (shelf_clogs : Int32) (shelf_day : Int32) (shelf_cells : (Nat → Int32)) : Option (Int32) :=
  bnd (f_X4_holds x1 shelf_clogs) <|  fun r1 =>
  if r1 = 0 then (some (-1)) else
  bnd (f_X4_matesOf x1 shelf_clogs shelf_day shelf_cells) <|  fun r3 =>
  some r3
def f_X9_pairs (x1 : Int32) (shelf_clogs : Int32) (shelf_day : Int32) (shelf_cells : (Nat → Int32)) (pairing_lefts : Int32) (pairing_clogs : Int32) (pairing_number : Int32) (pairing_apart : Int32) (pairing_sets : (Nat → Int32)) (pairing_mates : (Nat → Int32)) (pairing_sizes : (Nat → Int32)) (pairing_partners : (Nat → Int32)) : Option (Int32 × (Nat → Int32) × (Nat → Int32) × (Nat → Int32) × (Nat → Int32) × Int32 × Int32 × Int32 × Int32) :=
  bnd (f_X9_within x1 (-2) (shelf_clogs - 1)) <|  fun r1 =>
  if r1 = 0 then (some ((-1), pairing_sets, pairing_mates, pairing_sizes, pairing_partners, pairing_lefts, pairing_clogs, pairing_number, pairing_apart)) else
  bnd (f_X1_look pairing_mates pairing_sizes shelf_clogs shelf_day shelf_cells) <| u4 fun w3 w4 w5 w6 =>
  bnd (f_X1_match w5 w6 pairing_sets w3 w4 pairing_partners) <| u4 fun w7 w8 w9 w10 =>
  if x1 = (-1) then (some (w9, w7, w3, w4, w8, w5, w6, w9, w10)) else
  if x1 = (-2) then (some (w10, w7, w3, w4, w8, w5, w6, w9, w10)) else
  bnd (f_X1_partnerOf x1 w6 w8) <|  fun r13 =>
  some (r13, w7, w3, w4, w8, w5, w6, w9, w10)
def f_X9_leftOver (x1 : Int32) (shelf_clogs : Int32) (shelf_day : Int32) (shelf_cells : (Nat → Int32)) (pairing_lefts : Int32) (pairing_clogs : Int32) (pairing_number : Int32) (pairing_apart : Int32) (pairing_sets : (Nat → Int32)) (pairing_mates : (Nat → Int32)) (pairing_sizes : (Nat → Int32)) (pairing_partners : (Nat → Int32)) : Option (Int32 × (Nat → Int32) × (Nat → Int32) × (Nat → Int32) × (Nat → Int32) × Int32 × Int32 × Int32 × Int32) :=
  bnd (f_X9_isSide x1) <|  fun r1 =>
  if r1 = 0 then (some ((-1), pairing_sets, pairing_mates, pairing_sizes, pairing_partners, pairing_lefts, pairing_clogs, pairing_number, pairing_apart)) else
  bnd (f_X1_look pairing_mates pairing_sizes shelf_clogs shelf_day shelf_cells) <| u4 fun w3 w4 w5 w6 =>
  bnd (f_X1_match w5 w6 pairing_sets w3 w4 pairing_partners) <| u4 fun w7 w8 w9 w10 =>
  bnd (f_X4_ofSide x1 shelf_clogs shelf_cells) <|  fun r11 =>
  bnd (f_J6_bitCount_0f7a4 r11) <|  fun r12 =>
  some ((r12 - w9), w7, w3, w4, w8, w5, w6, w9, w10)
def f_X9_served (shelf_clogs : Int32) (shelf_day : Int32) (shelf_cells : (Nat → Int32)) (waiting_number : Int32) (waiting_stocking : Int32) (waiting_lefts : (Nat → Int32)) (waiting_rights : (Nat → Int32)) (pairing_sets : (Nat → Int32)) (pairing_mates : (Nat → Int32)) (pairing_sizes : (Nat → Int32)) : Option (Int32 × (Nat → Int32) × (Nat → Int32) × (Nat → Int32) × Int32 × Int32) :=
  bnd (f_X1_look pairing_mates pairing_sizes shelf_clogs shelf_day shelf_cells) <| u4 fun w1 w2 w3 w4 =>
  bnd (f_X1_serve w3 w4 pairing_sets w1 w2 waiting_number waiting_stocking waiting_lefts waiting_rights) <| u2 fun r5 w6 =>
  some (r5, w6, w1, w2, w3, w4)
def b_X9_whose_1 (shelf_cells : (Nat → Int32)) (shelf_clogs : Int32) (shelf_day : Int32) (waiting_lefts : (Nat → Int32)) (waiting_number : Int32) (waiting_rights : (Nat → Int32)) (waiting_stocking : Int32) (x1 : Int32) (j3 : Int32) (j4 : Int32) : Option ((Int32 × Int32) ⊕ (Int32 × Int32)) :=
if waiting_number ≤ j4 then (some (.inr (j3, j4))) else
bnd (f_X4_cell x1 1 shelf_clogs shelf_cells) <|  fun r6 =>
bnd (f_X4_sizeOn x1 shelf_day shelf_clogs shelf_cells) <|  fun r7 =>
bnd (f_X6_suits j4 r6 r7 waiting_stocking waiting_lefts waiting_rights) <|  fun r8 =>
if r8 = 0 then (some (.inl (j3, (j4 + 1)))) else
some (.inl ((j3 ||| (1 <<< (j4 &&& 31))), (j4 + 1)))
def f_X9_whose (x1 : Int32) (shelf_clogs : Int32) (shelf_day : Int32) (shelf_cells : (Nat → Int32)) (waiting_number : Int32) (waiting_stocking : Int32) (waiting_lefts : (Nat → Int32)) (waiting_rights : (Nat → Int32)) : Option (Int32) :=
  bnd (f_X4_holds x1 shelf_clogs) <|  fun r1 =>
  if r1 = 0 then (some (-1)) else
  bnd (lp (u2 (b_X9_whose_1 shelf_cells shelf_clogs shelf_day waiting_lefts waiting_number waiting_rights waiting_stocking x1)) FU (0, 0)) <| u2 fun j3x j4x =>
  some j3x
def b_X9_alikeBy_1 (shelf_cells : (Nat → Int32)) (shelf_clogs : Int32) (shelf_day : Int32) (x1 : Int32) (x2 : Int32) (j5 : Int32) : Option ((Int32) ⊕ ((Int32) ⊕ (Int32))) :=
if 60 < j5 then (some (.inr (.inl j5))) else
bnd (f_X4_areAlikeOn x1 x2 (shelf_day + j5) shelf_clogs shelf_cells) <|  fun r7 =>
if r7 = 0 then (some (.inl (j5 + 1))) else
some (.inr (.inr j5))
def f_X9_alikeBy (x1 : Int32) (x2 : Int32) (shelf_clogs : Int32) (shelf_day : Int32) (shelf_cells : (Nat → Int32)) : Option (Int32) :=
  bnd (f_X4_isOfSide x1 0 shelf_clogs shelf_cells) <|  fun r1 =>
  if r1 = 0 then (some (-1)) else
  bnd (f_X4_isOfSide x2 1 shelf_clogs shelf_cells) <|  fun r3 =>
  if r3 = 0 then (some (-1)) else
  bndE (lp ((b_X9_alikeBy_1 shelf_cells shelf_clogs shelf_day x1 x2)) FU 0) (fun j5x =>
  some (-4)) (fun q => some q)
def b_X9_dry_1 (r5 : Int32) (shelf_cells : (Nat → Int32)) (shelf_clogs : Int32) (shelf_day : Int32) (x1 : Int32) (j7 : Int32) : Option ((Int32) ⊕ (Int32)) :=
if 30 ≤ j7 then (some (.inr j7)) else
bnd (f_X4_sizeOn x1 (shelf_day + j7) shelf_clogs shelf_cells) <|  fun r9 =>
if r9 = r5 then (some (.inr j7)) else
some (.inl (j7 + 1))
def f_X9_dry (x1 : Int32) (x2 : Int32) (shelf_clogs : Int32) (shelf_day : Int32) (shelf_cells : (Nat → Int32)) : Option (Int32) :=
  bnd (f_X4_holds x1 shelf_clogs) <|  fun r1 =>
  if r1 = 0 then (some (-1)) else
  bnd (f_X9_within x2 0 1) <|  fun r3 =>
  if r3 = 0 then (some (-1)) else
  bnd (f_X4_sizeOn x1 (shelf_day + 30) shelf_clogs shelf_cells) <|  fun r5 =>
  if x2 = 1 then (some r5) else
  bnd (lp ((b_X9_dry_1 r5 shelf_cells shelf_clogs shelf_day x1)) FU 0) <| fun j7x =>
  some j7x
def f_X9_sawn (x1 : Int32) (log_length : Int32) (log_block : Int32) (log_knots : Int64) : Option (Int32) :=
  if (-1) ≤ x1 then (bnd (f_X0_saw x1 log_length log_block log_knots) <|  fun r2 =>
  some r2) else
  some (-1)
def b_X9_sizes_1 (shelf_cells : (Nat → Int32)) (shelf_clogs : Int32) (shelf_day : Int32) (x1 : Int32) (j5 : Int32) (j6 : Int32) (j7 : Int32) : Option ((Int32 × Int32 × Int32) ⊕ (Int32 × Int32 × Int32)) :=
if 72 < j7 then (some (.inr (j5, j6, j7))) else
bnd (f_X4_unholedFrom j7 x1 shelf_clogs shelf_day shelf_cells) <|  fun r9 =>
if r9 ≤ j5 then (some (.inl (j5, j6, (j7 + 1)))) else
some (.inl (r9, j7, (j7 + 1)))
def f_X9_sizes (x1 : Int32) (x2 : Int32) (shelf_clogs : Int32) (shelf_day : Int32) (shelf_cells : (Nat → Int32)) : Option (Int32) :=
  bnd (f_X9_within x1 1 5) <|  fun r1 =>
  if r1 = 0 then (some (-1)) else
  bnd (f_X9_within x2 0 1) <|  fun r3 =>
  if r3 = 0 then (some (-1)) else
  bnd (lp (u3 (b_X9_sizes_1 shelf_cells shelf_clogs shelf_day x1)) FU ((-1), 0, 1)) <| u3 fun j5x j6x j7x =>
  if x2 = 0 then (some j6x) else
  some j5x
def f_X9_heard (x1 : Int32) (x2 : Int32) (x3 : Int32) (walls_sounds : Int32) (walls_clogs : (Nat → Int32)) (walls_limits : (Nat → Int32)) (walls_clears : (Nat → Int32)) : Option (Int32 × (Nat → Int32) × (Nat → Int32) × (Nat → Int32) × Int32) :=
  bnd (f_X9_within x1 0 9) <|  fun r1 =>
  if r1 = 0 then (some ((-1), walls_clogs, walls_limits, walls_clears, walls_sounds)) else
  bnd (f_X9_within x2 1 9) <|  fun r3 =>
  if r3 = 0 then (some ((-1), walls_clogs, walls_limits, walls_clears, walls_sounds)) else
  bnd (f_X9_within x3 0 1) <|  fun r5 =>
  if r5 = 0 then (some ((-1), walls_clogs, walls_limits, walls_clears, walls_sounds)) else
  if walls_sounds < 8 then (bnd (f_X7_add x1 x2 x3 walls_sounds walls_clogs walls_limits walls_clears) <| u4 fun w8 w9 w10 w11 =>
  some (w11, w8, w9, w10, w11)) else
  some ((-3), walls_clogs, walls_limits, walls_clears, walls_sounds)
def f_X9_forget (walls_sounds : Int32) : Option (Int32 × Int32) :=
  some (walls_sounds, 0)
def f_X9_thick (x1 : Int32) (walls_sounds : Int32) (walls_clogs : (Nat → Int32)) (walls_limits : (Nat → Int32)) (walls_clears : (Nat → Int32)) : Option (Int32) :=
  bnd (f_X9_within x1 0 9) <|  fun r1 =>
  if r1 = 0 then (some (-1)) else
  bnd (f_X7_thicknesses x1 walls_sounds walls_clogs walls_limits walls_clears) <|  fun r3 =>
  some r3
def f_X9_whole (x1 : Int32) (x2 : Int32) (x3 : Int32) : Option (Int32) :=
  bnd (f_X9_within x1 0 4) <|  fun r1 =>
  if r1 = 0 then (some (-1)) else
  bnd (f_X9_within x2 0 10) <|  fun r3 =>
  if r3 = 0 then (some (-1)) else
  bnd (f_X9_within x3 0 1) <|  fun r5 =>
  if r5 = 0 then (some (-1)) else
  bnd (f_X9_commonDivisorWithTen (10 - x2)) <|  fun r7 =>
  bnd (some (if 1 < r7 then r7 else 1)) fun v8 =>
  if x3 = 0 then (bnd (dvI (10 - x2) v8) fun v12 =>
  bnd (f_X9_power v12 (2 * x1)) <|  fun r13 =>
  some (Int64.toInt32 r13)) else
  bnd (dvI 10 v8) fun v10 =>
  bnd (f_X9_power v10 (2 * x1)) <|  fun r11 =>
  some (Int64.toInt32 r11)
def f_X9_together (x1 : Int32) (x2 : Int32) : Option (Int32) :=
  bnd (f_X9_within x1 0 3) <|  fun r1 =>
  if r1 = 0 then (some (-1)) else
  bnd (f_X9_within x2 0 33) <|  fun r3 =>
  if r3 = 0 then (some (-1)) else
  if x1 = 0 then (some 100000) else
  bnd (f_X9_cutsInTheMean x1 x2 1) <|  fun r6 =>
  bnd (f_X9_cutsInTheMean x1 x2 0) <|  fun r7 =>
  bnd (f_X9_power 100 ((2 * x1) - 1)) <|  fun r8 =>
  bnd (some (if r8 < 1 then 1 else r8)) fun v9 =>
  bnd (dvL (10000 * (r6 - r7)) v9) fun v10 =>
  some ((Int64.toInt32 v10) + 100000)
def f_X9_year (x1 : Int32) (x2 : Int32) (x3 : Int32) (shelf_clogs : Int32) (shelf_day : Int32) (shelf_cells : (Nat → Int32)) (draws_wentAsPairs : Int32) (draws_shelf_clogs : Int32) (draws_shelf_day : Int32) (draws_shelf_cells : (Nat → Int32)) : Option (Int32 × (Nat → Int32) × Int32 × Int32 × Int32) :=
  bnd (f_X9_within x1 0 9999) <|  fun r1 =>
  if r1 = 0 then (some ((-1), draws_shelf_cells, draws_shelf_clogs, draws_shelf_day, draws_wentAsPairs)) else
  bnd (f_X9_within x2 1 60) <|  fun r3 =>
  if r3 = 0 then (some ((-1), draws_shelf_cells, draws_shelf_clogs, draws_shelf_day, draws_wentAsPairs)) else
  bnd (f_X9_within x3 0 1) <|  fun r5 =>
  if r5 = 0 then (some ((-1), draws_shelf_cells, draws_shelf_clogs, draws_shelf_day, draws_wentAsPairs)) else
  bnd (f_X8_live x1 x2 draws_shelf_cells shelf_clogs shelf_day shelf_cells) <| u4 fun w7 w8 w9 w10 =>
  if x3 = 0 then (some (w10, w7, w8, w9, w10)) else
  some (w8, w7, w8, w9, w10)
def f_X9_count (x1 : Int32) (text_length : Int32) (shelf_clogs : Int32) (shelf_day : Int32) (shelf_cells : (Nat → Int32)) (waiting_number : Int32) (waiting_stocking : Int32) (log_length : Int32) (log_knots : Int64) (walls_sounds : Int32) (acts_height : Int32) (kept_height : Int32) : Option (Int32) :=
  if x1 = 0 then (some shelf_clogs) else
  if x1 = 1 then (some waiting_number) else
  if x1 = 2 then (some shelf_day) else
  if x1 = 3 then (bnd (f_X0_knotsInside log_length log_knots) <|  fun r5 =>
  some r5) else
  if x1 = 4 then (bnd (f_X4_holedOnes shelf_clogs shelf_cells) <|  fun r7 =>
  some r7) else
  if x1 = 5 then (some walls_sounds) else
  if x1 = 6 then (some acts_height) else
  if x1 = 7 then (some kept_height) else
  if x1 = 8 then (some text_length) else
  if x1 = 9 then (some waiting_stocking) else
  some (-1)
def f_X9_pass (x1 : Int32) (shelf_clogs : Int32) (shelf_day : Int32) (shelf_cells : (Nat → Int32)) (acts_height : Int32) (acts_pp : (Nat → Nat)) (acts_CC : (Nat → Nat → Int32)) (acts_CK : (Nat → Int32)) (acts_CY : (Nat → Int32)) : Option (Int32 × Int32 × (Nat → Nat) × (Nat → Nat → Int32) × (Nat → Int32) × (Nat → Int32) × Int32) :=
  bnd (f_X9_within x1 1 60) <|  fun r1 =>
  if r1 = 0 then (some ((-1), shelf_day, acts_pp, acts_CC, acts_CK, acts_CY, acts_height)) else
  if (shelf_day + x1) ≤ 999 then (bnd (f_X2_push_8 acts_height acts_pp acts_CC acts_CK acts_CY shelf_clogs shelf_day shelf_cells) <| u5 fun w4 w5 w6 w7 w8 =>
  some ((shelf_day + x1), (shelf_day + x1), w4, w5, w6, w7, w8)) else
  some ((-2), shelf_day, acts_pp, acts_CC, acts_CK, acts_CY, acts_height)
def f_X9_come (x1 : Int32) (x2 : Int32) (x3 : Int32) (x4 : Int32) (shelf_clogs : Int32) (shelf_day : Int32) (shelf_cells : (Nat → Int32)) (acts_height : Int32) (acts_pp : (Nat → Nat)) (acts_CC : (Nat → Nat → Int32)) (acts_CK : (Nat → Int32)) (acts_CY : (Nat → Int32)) : Option (Int32 × (Nat → Int32) × Int32 × (Nat → Nat) × (Nat → Nat → Int32) × (Nat → Int32) × (Nat → Int32) × Int32) :=
  bnd (f_X9_isClog x1 x2 x3 x4) <|  fun r1 =>
  if r1 = 0 then (some ((-1), shelf_cells, shelf_clogs, acts_pp, acts_CC, acts_CK, acts_CY, acts_height)) else
  if shelf_clogs < 10 then (bnd (f_X2_push_8 acts_height acts_pp acts_CC acts_CK acts_CY shelf_clogs shelf_day shelf_cells) <| u5 fun w4 w5 w6 w7 w8 =>
  bnd (f_X4_add x1 x2 x3 x4 shelf_clogs shelf_day shelf_cells) <| u2 fun w9 w10 =>
  some ((w10 - 1), w9, w10, w4, w5, w6, w7, w8)) else
  some ((-3), shelf_cells, shelf_clogs, acts_pp, acts_CC, acts_CK, acts_CY, acts_height)
def f_X9_go (x1 : Int32) (x2 : Int32) (shelf_clogs : Int32) (shelf_day : Int32) (shelf_cells : (Nat → Int32)) (acts_height : Int32) (acts_pp : (Nat → Nat)) (acts_CC : (Nat → Nat → Int32)) (acts_CK : (Nat → Int32)) (acts_CY : (Nat → Int32)) : Option (Int32 × (Nat → Int32) × Int32 × (Nat → Nat) × (Nat → Nat → Int32) × (Nat → Int32) × (Nat → Int32) × Int32) :=
  bnd (f_X4_holds x1 shelf_clogs) <|  fun r1 =>
  if r1 = 0 then (some ((-1), shelf_cells, shelf_clogs, acts_pp, acts_CC, acts_CK, acts_CY, acts_height)) else
  bnd (f_X4_holds x2 shelf_clogs) <|  fun r3 =>
  if r3 = 0 then (some ((-1), shelf_cells, shelf_clogs, acts_pp, acts_CC, acts_CK, acts_CY, acts_height)) else
  bnd (f_X4_areAlikeOn x1 x2 shelf_day shelf_clogs shelf_cells) <|  fun r5 =>
  if r5 = 0 then (some ((-2), shelf_cells, shelf_clogs, acts_pp, acts_CC, acts_CK, acts_CY, acts_height)) else
  bnd (f_X2_push_8 acts_height acts_pp acts_CC acts_CK acts_CY shelf_clogs shelf_day shelf_cells) <| u5 fun w7 w8 w9 w10 w11 =>
  bnd (f_X4_removeTwo x1 x2 shelf_clogs shelf_cells) <| u2 fun w12 w13 =>
  some (w13, w12, w13, w7, w8, w9, w10, w11)
def f_X9_hole (x1 : Int32) (shelf_clogs : Int32) (shelf_day : Int32) (shelf_cells : (Nat → Int32)) (acts_height : Int32) (acts_pp : (Nat → Nat)) (acts_CC : (Nat → Nat → Int32)) (acts_CK : (Nat → Int32)) (acts_CY : (Nat → Int32)) : Option (Int32 × (Nat → Int32) × (Nat → Nat) × (Nat → Nat → Int32) × (Nat → Int32) × (Nat → Int32) × Int32) :=
  bnd (f_X4_holds x1 shelf_clogs) <|  fun r1 =>
  if r1 = 0 then (some ((-1), shelf_cells, acts_pp, acts_CC, acts_CK, acts_CY, acts_height)) else
  bnd (f_X4_cell x1 0 shelf_clogs shelf_cells) <|  fun r3 =>
  if r3 = 2 then (some ((-2), shelf_cells, acts_pp, acts_CC, acts_CK, acts_CY, acts_height)) else
  bnd (f_X2_push_8 acts_height acts_pp acts_CC acts_CK acts_CY shelf_clogs shelf_day shelf_cells) <| u5 fun w5 w6 w7 w8 w9 =>
  bnd (f_X4_pierce x1 shelf_clogs shelf_cells) <|  fun w10 =>
  some (r3, w10, w5, w6, w7, w8, w9)
def f_X9_undo (shelf_clogs : Int32) (shelf_day : Int32) (shelf_cells : (Nat → Int32)) (acts_height : Int32) (acts_pp : (Nat → Nat)) (acts_CC : (Nat → Nat → Int32)) (acts_CK : (Nat → Int32)) (acts_CY : (Nat → Int32)) : Option (Int32 × (Nat → Int32) × Int32 × Int32 × Int32) :=
  bnd (f_X2_popInto_8 acts_height acts_pp acts_CC acts_CK acts_CY shelf_clogs shelf_day shelf_cells) <| u5 fun r1 w2 w3 w4 w5 =>
  if r1 = 0 then (some ((-2), w3, w4, w5, w2)) else
  some (w2, w3, w4, w5, w2)
def f_X9_keep (shelf_clogs : Int32) (shelf_day : Int32) (shelf_cells : (Nat → Int32)) (kept_height : Int32) (kept_pp : (Nat → Nat)) (kept_CC : (Nat → Nat → Int32)) (kept_CK : (Nat → Int32)) (kept_CY : (Nat → Int32)) : Option (Int32 × (Nat → Nat) × (Nat → Nat → Int32) × (Nat → Int32) × (Nat → Int32) × Int32) :=
  bnd (f_X2_isFull_2 kept_height) <|  fun r1 =>
  if r1 = 0 then (bnd (f_X2_push_2 kept_height kept_pp kept_CC kept_CK kept_CY shelf_clogs shelf_day shelf_cells) <| u5 fun w3 w4 w5 w6 w7 =>
  some (w7, w3, w4, w5, w6, w7)) else
  some ((-3), kept_pp, kept_CC, kept_CK, kept_CY, kept_height)
def f_X9_back (shelf_clogs : Int32) (shelf_day : Int32) (shelf_cells : (Nat → Int32)) (acts_height : Int32) (kept_height : Int32) (kept_pp : (Nat → Nat)) (kept_CC : (Nat → Nat → Int32)) (kept_CK : (Nat → Int32)) (kept_CY : (Nat → Int32)) : Option (Int32 × (Nat → Int32) × Int32 × Int32 × Int32 × Int32) :=
  bnd (f_X2_popInto_2 kept_height kept_pp kept_CC kept_CK kept_CY shelf_clogs shelf_day shelf_cells) <| u5 fun r1 w2 w3 w4 w5 =>
  if r1 = 0 then (some ((-2), w3, w4, w5, acts_height, w2)) else
  bnd (f_X2_clear_8) <|  fun w7 =>
  some (w2, w3, w4, w5, w7, w2)
def f_X9_layText (text_length : Int32) (text_letters : (Nat → Int32)) (reader_told : Int32) (reader_shelf_cells : (Nat → Int32)) (reader_waiting_lefts : (Nat → Int32)) (reader_waiting_rights : (Nat → Int32)) (reader_numbers : (Nat → Int32)) (shelf_clogs : Int32) (shelf_day : Int32) (shelf_cells : (Nat → Int32)) (waiting_number : Int32) (waiting_stocking : Int32) (waiting_lefts : (Nat → Int32)) (waiting_rights : (Nat → Int32)) (log_length : Int32) (log_block : Int32) (log_knots : Int64) (walls_sounds : Int32) (acts_height : Int32) (kept_height : Int32) : Option (Int32 × (Nat → Int32) × Int32 × Int32 × (Nat → Int32) × (Nat → Int32) × Int32 × Int32 × Int32 × Int32 × Int64 × (Nat → Int32) × Int32 × (Nat → Int32) × Int32 × Int32 × (Nat → Int32) × (Nat → Int32) × Int32 × Int32 × Int32 × Int32 × Int64 × Int32 × Int32 × Int32) :=
  bnd (f_X3_read reader_told reader_shelf_cells reader_waiting_lefts reader_waiting_rights reader_numbers text_length text_letters) <| u13 fun r1 w2 w3 w4 w5 w6 w7 w8 w9 w10 w11 w12 w13 =>
  if r1 = (-4) then (if w3 = 0 then (some (0, w2, w3, w4, w5, w6, w7, w8, w9, w10, w11, w12, w13, shelf_cells, shelf_clogs, shelf_day, waiting_lefts, waiting_rights, waiting_number, waiting_stocking, log_length, log_block, log_knots, walls_sounds, acts_height, kept_height)) else
  bnd (f_X4_copy shelf_cells w3 w4 w2) <| u3 fun w16 w17 w18 =>
  bnd (f_X6_copy waiting_lefts waiting_rights w7 w8 w5 w6) <| u4 fun w19 w20 w21 w22 =>
  bnd (f_X0_copy w9 w10 w11) <| u3 fun w23 w24 w25 =>
  bnd (f_X2_clear_8) <|  fun w26 =>
  bnd (f_X2_clear_2) <|  fun w27 =>
  some (1, w2, w3, w4, w5, w6, w7, w8, w9, w10, w11, w12, w13, w16, w17, w18, w19, w20, w21, w22, w23, w24, w25, 0, w26, w27)) else
  some (0, w2, w3, w4, w5, w6, w7, w8, w9, w10, w11, w12, w13, shelf_cells, shelf_clogs, shelf_day, waiting_lefts, waiting_rights, waiting_number, waiting_stocking, log_length, log_block, log_knots, walls_sounds, acts_height, kept_height)
def f_X9_lay (text_length : Int32) (text_letters : (Nat → Int32)) (reader_told : Int32) (reader_shelf_cells : (Nat → Int32)) (reader_waiting_lefts : (Nat → Int32)) (reader_waiting_rights : (Nat → Int32)) (reader_numbers : (Nat → Int32)) (shelf_clogs : Int32) (shelf_day : Int32) (shelf_cells : (Nat → Int32)) (waiting_number : Int32) (waiting_stocking : Int32) (waiting_lefts : (Nat → Int32)) (waiting_rights : (Nat → Int32)) (log_length : Int32) (log_block : Int32) (log_knots : Int64) (walls_sounds : Int32) (acts_height : Int32) (kept_height : Int32) : Option (Int32 × (Nat → Int32) × Int32 × Int32 × (Nat → Int32) × (Nat → Int32) × Int32 × Int32 × Int32 × Int32 × Int64 × (Nat → Int32) × Int32 × (Nat → Int32) × Int32 × Int32 × (Nat → Int32) × (Nat → Int32) × Int32 × Int32 × Int32 × Int32 × Int64 × Int32 × Int32 × Int32) :=
  bnd (f_X9_layText text_length text_letters reader_told reader_shelf_cells reader_waiting_lefts reader_waiting_rights reader_numbers shelf_clogs shelf_day shelf_cells waiting_number waiting_stocking waiting_lefts waiting_rights log_length log_block log_knots walls_sounds acts_height kept_height) <| u26 fun r1 w2 w3 w4 w5 w6 w7 w8 w9 w10 w11 w12 w13 w14 w15 w16 w17 w18 w19 w20 w21 w22 w23 w24 w25 w26 =>
  if r1 = 0 then (some ((-2), w2, w3, w4, w5, w6, w7, w8, w9, w10, w11, w12, w13, w14, w15, w16, w17, w18, w19, w20, w21, w22, w23, w24, w25, w26)) else
  some (w15, w2, w3, w4, w5, w6, w7, w8, w9, w10, w11, w12, w13, w14, w15, w16, w17, w18, w19, w20, w21, w22, w23, w24, w25, w26)
def f_X10_init : Option (Int32 × Int32 × Int32 × Int32 × Int32 × Int32 × Int32 × Int32 × Int32 × Int32 × Int32 × Int32 × Int32 × Int32 × Int32 × (Nat → Int32) × (Nat → Int32) × (Nat → Int32) × (Nat → Int32) × (Nat → Int32) × (Nat → Int32) × (Nat → Int32) × (Nat → Int32) × (Nat → Int32) × (Nat → Int32) × (Nat → Int32) × (Nat → Int32) × (Nat → Int32) × (Nat → Int32) × (Nat → Int32) × (Nat → Int32) × (Nat → Int32)) :=
  bnd (f_X10_clearTold (fun _ => 0) (fun _ => 0)) <| u6 fun w1 w2 w3 w4 w5 w6 =>
  bnd (f_X10_tellsClog 0 0 40 10 w1) <|  fun w7 =>
  bnd (f_X10_tellsClog 1 0 48 14 w7) <|  fun w8 =>
  bnd (f_X10_tellsClog 0 1 41 11 w8) <|  fun w9 =>
  bnd (f_X10_tellsClog 2 1 44 9 w9) <|  fun w10 =>
  bnd (f_X10_tellsClog 3 1 44 12 w10) <|  fun w11 =>
  bnd (f_X10_tellsClog 1 1 36 13 w11) <|  fun w12 =>
  bnd (f_X10_tellsClog 0 0 33 8 w12) <|  fun w13 =>
  bnd (f_X10_tellsFeet 38 39 w2 (fun _ => 0)) <| u2 fun w14 w15 =>
  bnd (f_X10_tellsFeet 42 40 w14 w15) <| u2 fun w16 w17 =>
  bnd (wr 40 w5 7 (vp_nar .boolean 1)) fun a18 =>
  bnd (wr 40 a18 14 (vp_nar .boolean 1)) fun a19 =>
  bnd (f_X10_settles w16 23 5 w6 (fun _ => 0) (fun _ => 0) (fun _ => 0) w13 w17 a19) <| u10 fun w20 w21 w22 w23 w24 w25 w26 w27 w28 w29 =>
  some (w20, w22, w23, w25, w27, w28, w29, 0, 0, w16, 23, 5, w6, 0, 0, w21, w24, w26, (fun _ => 0), (fun _ => 0), (fun _ => 0), (fun _ => 0), (fun _ => 0), w13, w17, a19, (fun _ => 0), (fun _ => 0), (fun _ => 0), (fun _ => 0), (fun _ => 0), (fun _ => 0))
