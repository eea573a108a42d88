def fJ_bitCount (x0 : Int64) : Int32 :=
  let y9 := (x0 - ((x0.toUInt64 >>> ((1 : Int32).toInt64.toUInt64 &&& Int64.toUInt64 63)).toInt64 &&& (6148914691236517205 : Int64)))
  let y23 := ((y9 &&& (3689348814741910323 : Int64)) + ((y9.toUInt64 >>> ((2 : Int32).toInt64.toUInt64 &&& Int64.toUInt64 63)).toInt64 &&& (3689348814741910323 : Int64)))
  let y33 := ((y23 + (y23.toUInt64 >>> ((4 : Int32).toInt64.toUInt64 &&& Int64.toUInt64 63)).toInt64) &&& (1085102592571150095 : Int64))
  let y40 := (y33 + (y33.toUInt64 >>> ((8 : Int32).toInt64.toUInt64 &&& Int64.toUInt64 63)).toInt64)
  let y47 := (y40 + (y40.toUInt64 >>> ((16 : Int32).toInt64.toUInt64 &&& Int64.toUInt64 63)).toInt64)
  let y54 := (y47 + (y47.toUInt64 >>> ((32 : Int32).toInt64.toUInt64 &&& Int64.toUInt64 63)).toInt64)
  (y54.toInt32 &&& (127 : Int32))

def fX_cellAt (x0 : Int32) (x1 : Int32) : Option (Int32) :=
  some ((x0 * (7 : Int32)) + x1)
abbrev wl_fX_cellAt (cI cZ cJ cQ : ClassId) : va_W := []
def fX_bit (x0 : Int32) : Option (Int64) :=
  if x0 < (0 : Int32) then
    some (0 : Int64)
  else
    if (42 : Int32) ≤ x0 then
      some (0 : Int64)
    else
      some ((1 : Int64) <<< (x0.toInt64 &&& 63))
abbrev wl_fX_bit (cI cZ cJ cQ : ClassId) : va_W := []
def fBoard_cellsInFields_L4 (F : Nat) (inField_0 : Nat → Int32) : Nat → Int64 → Int32 → Option (Int64 × Int32)
  | 0, _, _ => none
  | N + 1, l1, l3 =>
    if (42 : Int32) ≤ l3 then
      some (l1, l3)
    else
      (o_rd 42 inField_0 l3).bind fun v1 =>
      (show Option (Int64) from
        if v1 = (0 : Int32) then
          some (0 : Int64)
        else
          (fX_bit l3).bind fun s2 =>
          some s2).bind fun j3 =>
      fBoard_cellsInFields_L4 F inField_0 N (l1 ||| j3) (l3 + (1 : Int32))
def fBoard_cellsInFields (F : Nat) (inField_0 : Nat → Int32) : Option (Int64) :=
  (fBoard_cellsInFields_L4 F inField_0 F (0 : Int64) (0 : Int32)).bind fun r4 =>
  some r4.1
abbrev wl_fBoard_cellsInFields (cI cZ cJ cQ : ClassId) (a_0 a_0inField a_0number a_0first a_0last : Nat) (inField_0 : Nat → Int32) : va_W := [(a_0, .inr (0, [.ref a_0number, .ref a_0inField, .ref a_0first, .ref a_0last])), (a_0inField, .inl (cZ, 42, .inl inField_0))]
def fBoard_cellsWithNumber_L4 (F : Nat) (number_0 : Nat → Int32) : Nat → Int64 → Int32 → Option (Int64 × Int32)
  | 0, _, _ => none
  | N + 1, l1, l3 =>
    if (42 : Int32) ≤ l3 then
      some (l1, l3)
    else
      (o_rd 42 number_0 l3).bind fun v1 =>
      (show Option (Int64) from
        if v1 = (0 : Int32) then
          some (0 : Int64)
        else
          (fX_bit l3).bind fun s2 =>
          some s2).bind fun j3 =>
      fBoard_cellsWithNumber_L4 F number_0 N (l1 ||| j3) (l3 + (1 : Int32))
def fBoard_cellsWithNumber (F : Nat) (number_0 : Nat → Int32) : Option (Int64) :=
  (fBoard_cellsWithNumber_L4 F number_0 F (0 : Int64) (0 : Int32)).bind fun r4 =>
  some r4.1
abbrev wl_fBoard_cellsWithNumber (cI cZ cJ cQ : ClassId) (a_0 a_0number a_0inField a_0first a_0last : Nat) (number_0 : Nat → Int32) : va_W := [(a_0, .inr (0, [.ref a_0number, .ref a_0inField, .ref a_0first, .ref a_0last])), (a_0number, .inl (cI, 42, .inl number_0))]
def fX_lowestCell (x0 : Int64) : Option (Int32) :=
  if ¬ x0 = (0 : Int64) then
    some (fJ_bitCount ((x0 &&& (-x0)) - (1 : Int64)))
  else
    some (42 : Int32)
abbrev wl_fX_lowestCell (cI cZ cJ cQ : ClassId) : va_W := []
def fX_isCell (x0 : Int32) : Option (Int32) :=
  if x0 < (0 : Int32) then
    some (0 : Int32)
  else
    if (42 : Int32) ≤ x0 then
      some (0 : Int32)
    else
      some (1 : Int32)
abbrev wl_fX_isCell (cI cZ cJ cQ : ClassId) : va_W := []
def fBoard_numberIn (x1 : Int32) (number_0 : Nat → Int32) : Option (Int32) :=
  (fX_isCell x1).bind fun s1 =>
  if s1 = (0 : Int32) then
    some (0 : Int32)
  else
    (o_rd 42 number_0 x1).bind fun v2 =>
    some v2
abbrev wl_fBoard_numberIn (cI cZ cJ cQ : ClassId) (a_0 a_0number a_0inField a_0first a_0last : Nat) (number_0 : Nat → Int32) : va_W := [(a_0, .inr (0, [.ref a_0number, .ref a_0inField, .ref a_0first, .ref a_0last])), (a_0number, .inl (cI, 42, .inl number_0))]
def fX_isInside (x0 : Int32) (x1 : Int32) (x2 : Int32) : Option (Int32) :=
  if x0 < x1 then
    some (0 : Int32)
  else
    if x2 < x0 then
      some (0 : Int32)
    else
      if (x0 - x0 / (7 : Int32) * (7 : Int32)) < (x1 - x1 / (7 : Int32) * (7 : Int32)) then
        some (0 : Int32)
      else
        if (x2 - x2 / (7 : Int32) * (7 : Int32)) < (x0 - x0 / (7 : Int32) * (7 : Int32)) then
          some (0 : Int32)
        else
          some (1 : Int32)
abbrev wl_fX_isInside (cI cZ cJ cQ : ClassId) : va_W := []
def fX_cellsOf_L5 (F : Nat) (l0 : Int32) (l1 : Int32) : Nat → Int64 → Int32 → Option (Int64 × Int32)
  | 0, _, _ => none
  | N + 1, l2, l4 =>
    if (42 : Int32) ≤ l4 then
      some (l2, l4)
    else
      (fX_isInside l4 l0 l1).bind fun s1 =>
      (show Option (Int64) from
        if s1 = (0 : Int32) then
          some (0 : Int64)
        else
          (fX_bit l4).bind fun s2 =>
          some s2).bind fun j3 =>
      fX_cellsOf_L5 F l0 l1 N (l2 ||| j3) (l4 + (1 : Int32))
def fX_cellsOf (F : Nat) (x0 : Int32) (x1 : Int32) : Option (Int64) :=
  (fX_cellsOf_L5 F x0 x1 F (0 : Int64) (0 : Int32)).bind fun r4 =>
  some r4.1
abbrev wl_fX_cellsOf (cI cZ cJ cQ : ClassId) : va_W := []
def fX_has (x0 : Int64) (x1 : Int32) : Option (Int32) :=
  (fX_bit x1).bind fun s1 =>
  if (x0 &&& s1) = (0 : Int64) then
    some (0 : Int32)
  else
    some (1 : Int32)
abbrev wl_fX_has (cI cZ cJ cQ : ClassId) : va_W := []
def fBoard_sumIn_L5 (F : Nat) (l1 : Int64) (number_0 : Nat → Int32) : Nat → Int32 → Int32 → Option (Int32 × Int32)
  | 0, _, _ => none
  | N + 1, l3, l4 =>
    if (42 : Int32) ≤ l4 then
      some (l3, l4)
    else
      (fX_has l1 l4).bind fun s1 =>
      (show Option (Int32) from
        if s1 = (0 : Int32) then
          some (0 : Int32)
        else
          (o_rd 42 number_0 l4).bind fun v2 =>
          some v2).bind fun j3 =>
      fBoard_sumIn_L5 F l1 number_0 N (l3 + j3) (l4 + (1 : Int32))
def fBoard_sumIn (F : Nat) (x1 : Int64) (number_0 : Nat → Int32) : Option (Int32) :=
  (fBoard_sumIn_L5 F x1 number_0 F (0 : Int32) (0 : Int32)).bind fun r4 =>
  some r4.1
abbrev wl_fBoard_sumIn (cI cZ cJ cQ : ClassId) (a_0 a_0number a_0inField a_0first a_0last : Nat) (number_0 : Nat → Int32) : va_W := [(a_0, .inr (0, [.ref a_0number, .ref a_0inField, .ref a_0first, .ref a_0last])), (a_0number, .inl (cI, 42, .inl number_0))]
def fX_rowsOf (x0 : Int32) (x1 : Int32) : Option (Int32) :=
  some (((x1 / (7 : Int32)) - (x0 / (7 : Int32))) + (1 : Int32))
abbrev wl_fX_rowsOf (cI cZ cJ cQ : ClassId) : va_W := []
def fX_columnsOf (x0 : Int32) (x1 : Int32) : Option (Int32) :=
  some (((x1 - x1 / (7 : Int32) * (7 : Int32)) - (x0 - x0 / (7 : Int32) * (7 : Int32))) + (1 : Int32))
abbrev wl_fX_columnsOf (cI cZ cJ cQ : ClassId) : va_W := []
def fX_sizeOf (x0 : Int32) (x1 : Int32) : Option (Int32) :=
  (fX_rowsOf x0 x1).bind fun s1 =>
  (fX_columnsOf x0 x1).bind fun s2 =>
  some (s1 * s2)
abbrev wl_fX_sizeOf (cI cZ cJ cQ : ClassId) : va_W := []
def fBoard_reason (F : Nat) (x1 : Int32) (x2 : Int32) (number_0 : Nat → Int32) (inField_0 : Nat → Int32) : Option (Int32) :=
  (fX_cellsOf F x1 x2).bind fun s1 =>
  (fBoard_cellsWithNumber F number_0).bind fun s2 =>
  (fBoard_cellsInFields F inField_0).bind fun s3 =>
  if (s1 &&& s3) = (0 : Int64) then
    if ¬ (fJ_bitCount (s1 &&& s2)) = (0 : Int32) then
      if (fJ_bitCount (s1 &&& s2)) ≤ (1 : Int32) then
        (fBoard_sumIn F s1 number_0).bind fun s4 =>
        (fX_sizeOf x1 x2).bind fun s5 =>
        if ¬ s4 = s5 then
          some (4 : Int32)
        else
          some (0 : Int32)
      else
        some (3 : Int32)
    else
      some (2 : Int32)
  else
    some (1 : Int32)
abbrev wl_fBoard_reason (cI cZ cJ cQ : ClassId) (a_0 a_0number a_0inField a_0first a_0last : Nat) (number_0 : Nat → Int32) (inField_0 : Nat → Int32) : va_W := [(a_0, .inr (0, [.ref a_0number, .ref a_0inField, .ref a_0first, .ref a_0last])), (a_0number, .inl (cI, 42, .inl number_0)), (a_0inField, .inl (cZ, 42, .inl inField_0))]
def fBoard_copy_L7 (F : Nat) (number_1 : Nat → Int32) (inField_1 : Nat → Int32) (first_1 : Nat → Int32) (last_1 : Nat → Int32) : Nat → Int32 → (Nat → Int32) → (Nat → Int32) → (Nat → Int32) → (Nat → Int32) → Option (Int32 × (Nat → Int32) × (Nat → Int32) × (Nat → Int32) × (Nat → Int32))
  | 0, _, _, _, _, _ => none
  | N + 1, l2, number_0, inField_0, first_0, last_0 =>
    if (42 : Int32) ≤ l2 then
      some (l2, number_0, inField_0, first_0, last_0)
    else
      (o_rd 42 number_1 l2).bind fun v1 =>
      (o_wrI 42 number_0 l2 v1).bind fun w2 =>
      (o_rd 42 inField_1 l2).bind fun v3 =>
      (o_wrZ 42 inField_0 l2 v3).bind fun w4 =>
      (o_rd 42 first_1 l2).bind fun v5 =>
      (o_wrI 42 first_0 l2 v5).bind fun w6 =>
      (o_rd 42 last_1 l2).bind fun v7 =>
      (o_wrI 42 last_0 l2 v7).bind fun w8 =>
      fBoard_copy_L7 F number_1 inField_1 first_1 last_1 N (l2 + (1 : Int32)) w2 w4 w6 w8
def fBoard_copy (F : Nat) (number_1 : Nat → Int32) (number_0 : Nat → Int32) (inField_1 : Nat → Int32) (inField_0 : Nat → Int32) (first_1 : Nat → Int32) (first_0 : Nat → Int32) (last_1 : Nat → Int32) (last_0 : Nat → Int32) : Option ((Nat → Int32) × (Nat → Int32) × (Nat → Int32) × (Nat → Int32)) :=
  (fBoard_copy_L7 F number_1 inField_1 first_1 last_1 F (0 : Int32) number_0 inField_0 first_0 last_0).bind fun r9 =>
  some (r9.2.1, r9.2.2.1, r9.2.2.2.1, r9.2.2.2.2)
abbrev wl_fBoard_copy (cI cZ cJ cQ : ClassId) (a_0 a_1 a_1number a_0number a_1inField a_0inField a_1first a_0first a_1last a_0last : Nat) (number_1 : Nat → Int32) (number_0 : Nat → Int32) (inField_1 : Nat → Int32) (inField_0 : Nat → Int32) (first_1 : Nat → Int32) (first_0 : Nat → Int32) (last_1 : Nat → Int32) (last_0 : Nat → Int32) : va_W := [(a_0, .inr (0, [.ref a_0number, .ref a_0inField, .ref a_0first, .ref a_0last])), (a_1, .inr (0, [.ref a_1number, .ref a_1inField, .ref a_1first, .ref a_1last])), (a_1number, .inl (cI, 42, .inl number_1)), (a_0number, .inl (cI, 42, .inl number_0)), (a_1inField, .inl (cZ, 42, .inl inField_1)), (a_0inField, .inl (cZ, 42, .inl inField_0)), (a_1first, .inl (cI, 42, .inl first_1)), (a_0first, .inl (cI, 42, .inl first_0)), (a_1last, .inl (cI, 42, .inl last_1)), (a_0last, .inl (cI, 42, .inl last_0))]
def fBoard_place_L2 (F : Nat) (l1 : Int32) (l2 : Int32) : Nat → Int32 → (Nat → Int32) → (Nat → Int32) → (Nat → Int32) → Option (Int32 × (Nat → Int32) × (Nat → Int32) × (Nat → Int32))
  | 0, _, _, _, _ => none
  | N + 1, l3, inField_0, first_0, last_0 =>
    if (42 : Int32) ≤ l3 then
      some (l3, inField_0, first_0, last_0)
    else
      (fX_isInside l3 l1 l2).bind fun s1 =>
      (show Option ((Nat → Int32) × (Nat → Int32) × (Nat → Int32)) from
        if s1 = (0 : Int32) then
          some (inField_0, first_0, last_0)
        else
          (o_wrZ 42 inField_0 l3 (1 : Int32)).bind fun w2 =>
          (o_wrI 42 first_0 l3 l1).bind fun w3 =>
          (o_wrI 42 last_0 l3 l2).bind fun w4 =>
          some (w2, w3, w4)).bind fun j5 =>
      fBoard_place_L2 F l1 l2 N (l3 + (1 : Int32)) j5.1 j5.2.1 j5.2.2
def fBoard_place (F : Nat) (x1 : Int32) (x2 : Int32) (inField_0 : Nat → Int32) (first_0 : Nat → Int32) (last_0 : Nat → Int32) : Option ((Nat → Int32) × (Nat → Int32) × (Nat → Int32)) :=
  (fBoard_place_L2 F x1 x2 F (0 : Int32) inField_0 first_0 last_0).bind fun r6 =>
  some (r6.2.1, r6.2.2.1, r6.2.2.2)
abbrev wl_fBoard_place (cI cZ cJ cQ : ClassId) (a_0 a_0inField a_0first a_0last a_0number : Nat) (inField_0 : Nat → Int32) (first_0 : Nat → Int32) (last_0 : Nat → Int32) : va_W := [(a_0, .inr (0, [.ref a_0number, .ref a_0inField, .ref a_0first, .ref a_0last])), (a_0inField, .inl (cZ, 42, .inl inField_0)), (a_0first, .inl (cI, 42, .inl first_0)), (a_0last, .inl (cI, 42, .inl last_0))]
def fBoard_hasField (x1 : Int32) (inField_0 : Nat → Int32) : Option (Int32) :=
  (fX_isCell x1).bind fun s1 =>
  if s1 = (0 : Int32) then
    some (0 : Int32)
  else
    (o_rd 42 inField_0 x1).bind fun v2 =>
    if v2 = (0 : Int32) then
      some (0 : Int32)
    else
      some (1 : Int32)
abbrev wl_fBoard_hasField (cI cZ cJ cQ : ClassId) (a_0 a_0inField a_0number a_0first a_0last : Nat) (inField_0 : Nat → Int32) : va_W := [(a_0, .inr (0, [.ref a_0number, .ref a_0inField, .ref a_0first, .ref a_0last])), (a_0inField, .inl (cZ, 42, .inl inField_0))]
def fBoard_sizeOfField (x1 : Int32) (first_0 : Nat → Int32) (last_0 : Nat → Int32) : Option (Int32) :=
  (fX_isCell x1).bind fun s1 =>
  if s1 = (0 : Int32) then
    some (0 : Int32)
  else
    (o_rd 42 first_0 x1).bind fun v2 =>
    (o_rd 42 last_0 x1).bind fun v3 =>
    (fX_sizeOf v2 v3).bind fun s4 =>
    some s4
abbrev wl_fBoard_sizeOfField (cI cZ cJ cQ : ClassId) (a_0 a_0first a_0last a_0number a_0inField : Nat) (first_0 : Nat → Int32) (last_0 : Nat → Int32) : va_W := [(a_0, .inr (0, [.ref a_0number, .ref a_0inField, .ref a_0first, .ref a_0last])), (a_0first, .inl (cI, 42, .inl first_0)), (a_0last, .inl (cI, 42, .inl last_0))]
def fBoard_firstOfField (x1 : Int32) (first_0 : Nat → Int32) : Option (Int32) :=
  (fX_isCell x1).bind fun s1 =>
  if s1 = (0 : Int32) then
    some (0 : Int32)
  else
    (o_rd 42 first_0 x1).bind fun v2 =>
    some v2
abbrev wl_fBoard_firstOfField (cI cZ cJ cQ : ClassId) (a_0 a_0first a_0number a_0inField a_0last : Nat) (first_0 : Nat → Int32) : va_W := [(a_0, .inr (0, [.ref a_0number, .ref a_0inField, .ref a_0first, .ref a_0last])), (a_0first, .inl (cI, 42, .inl first_0))]
def fBoard_setNumber (x1 : Int32) (x2 : Int32) (number_0 : Nat → Int32) : Option ((Nat → Int32)) :=
  (fX_isCell x1).bind fun s1 =>
  if s1 = (0 : Int32) then
    some number_0
  else
    (o_wrI 42 number_0 x1 x2).bind fun w2 =>
    some w2
abbrev wl_fBoard_setNumber (cI cZ cJ cQ : ClassId) (a_0 a_0number a_0inField a_0first a_0last : Nat) (number_0 : Nat → Int32) : va_W := [(a_0, .inr (0, [.ref a_0number, .ref a_0inField, .ref a_0first, .ref a_0last])), (a_0number, .inl (cI, 42, .inl number_0))]
def fBoard_removeFields_L2 (F : Nat) : Nat → Int32 → (Nat → Int32) → Option (Int32 × (Nat → Int32))
  | 0, _, _ => none
  | N + 1, l1, inField_0 =>
    if (42 : Int32) ≤ l1 then
      some (l1, inField_0)
    else
      (o_wrZ 42 inField_0 l1 (0 : Int32)).bind fun w1 =>
      fBoard_removeFields_L2 F N (l1 + (1 : Int32)) w1
def fBoard_removeFields (F : Nat) (inField_0 : Nat → Int32) : Option ((Nat → Int32)) :=
  (fBoard_removeFields_L2 F F (0 : Int32) inField_0).bind fun r2 =>
  some r2.2
abbrev wl_fBoard_removeFields (cI cZ cJ cQ : ClassId) (a_0 a_0inField a_0number a_0first a_0last : Nat) (inField_0 : Nat → Int32) : va_W := [(a_0, .inr (0, [.ref a_0number, .ref a_0inField, .ref a_0first, .ref a_0last])), (a_0inField, .inl (cZ, 42, .inl inField_0))]
def fBoard_removeNumbers_L2 (F : Nat) : Nat → Int32 → (Nat → Int32) → Option (Int32 × (Nat → Int32))
  | 0, _, _ => none
  | N + 1, l1, number_0 =>
    if (42 : Int32) ≤ l1 then
      some (l1, number_0)
    else
      (o_wrI 42 number_0 l1 (0 : Int32)).bind fun w1 =>
      fBoard_removeNumbers_L2 F N (l1 + (1 : Int32)) w1
def fBoard_removeNumbers (F : Nat) (number_0 : Nat → Int32) : Option ((Nat → Int32)) :=
  (fBoard_removeNumbers_L2 F F (0 : Int32) number_0).bind fun r2 =>
  some r2.2
abbrev wl_fBoard_removeNumbers (cI cZ cJ cQ : ClassId) (a_0 a_0number a_0inField a_0first a_0last : Nat) (number_0 : Nat → Int32) : va_W := [(a_0, .inr (0, [.ref a_0number, .ref a_0inField, .ref a_0first, .ref a_0last])), (a_0number, .inl (cI, 42, .inl number_0))]
def fBoard_isCorner (x1 : Int32) (inField_0 : Nat → Int32) (first_0 : Nat → Int32) : Option (Int32) :=
  (fX_isCell x1).bind fun s1 =>
  if s1 = (0 : Int32) then
    some (0 : Int32)
  else
    (o_rd 42 inField_0 x1).bind fun v2 =>
    if v2 = (0 : Int32) then
      some (0 : Int32)
    else
      (o_rd 42 first_0 x1).bind fun v3 =>
      if ¬ v3 = x1 then
        some (0 : Int32)
      else
        some (1 : Int32)
abbrev wl_fBoard_isCorner (cI cZ cJ cQ : ClassId) (a_0 a_0inField a_0first a_0number a_0last : Nat) (inField_0 : Nat → Int32) (first_0 : Nat → Int32) : va_W := [(a_0, .inr (0, [.ref a_0number, .ref a_0inField, .ref a_0first, .ref a_0last])), (a_0inField, .inl (cZ, 42, .inl inField_0)), (a_0first, .inl (cI, 42, .inl first_0))]
def fBoard_countFields_L4 (F : Nat) (inField_0 : Nat → Int32) (first_0 : Nat → Int32) : Nat → Int32 → Int32 → Option (Int32 × Int32)
  | 0, _, _ => none
  | N + 1, l1, l2 =>
    if (42 : Int32) ≤ l2 then
      some (l1, l2)
    else
      (fBoard_isCorner l2 inField_0 first_0).bind fun s1 =>
      (show Option (Int32) from
        if s1 = (0 : Int32) then
          some (0 : Int32)
        else
          some (1 : Int32)).bind fun j2 =>
      fBoard_countFields_L4 F inField_0 first_0 N (l1 + j2) (l2 + (1 : Int32))
def fBoard_countFields (F : Nat) (inField_0 : Nat → Int32) (first_0 : Nat → Int32) : Option (Int32) :=
  (fBoard_countFields_L4 F inField_0 first_0 F (0 : Int32) (0 : Int32)).bind fun r3 =>
  some r3.1
abbrev wl_fBoard_countFields (cI cZ cJ cQ : ClassId) (a_0 a_0inField a_0first a_0number a_0last : Nat) (inField_0 : Nat → Int32) (first_0 : Nat → Int32) : va_W := [(a_0, .inr (0, [.ref a_0number, .ref a_0inField, .ref a_0first, .ref a_0last])), (a_0inField, .inl (cZ, 42, .inl inField_0)), (a_0first, .inl (cI, 42, .inl first_0))]
def fBoard_addsUp (F : Nat) (inField_0 : Nat → Int32) (number_0 : Nat → Int32) : Option (Int32) :=
  (fBoard_cellsInFields F inField_0).bind fun s1 =>
  (fBoard_sumIn F ((4398046511103 : Int64) &&& (s1 ^^^ (-1 : Int64))) number_0).bind fun s2 =>
  if ¬ s2 = (fJ_bitCount ((4398046511103 : Int64) &&& (s1 ^^^ (-1 : Int64)))) then
    some (0 : Int32)
  else
    some (1 : Int32)
abbrev wl_fBoard_addsUp (cI cZ cJ cQ : ClassId) (a_0 a_0inField a_0number a_0first a_0last : Nat) (inField_0 : Nat → Int32) (number_0 : Nat → Int32) : va_W := [(a_0, .inr (0, [.ref a_0number, .ref a_0inField, .ref a_0first, .ref a_0last])), (a_0inField, .inl (cZ, 42, .inl inField_0)), (a_0number, .inl (cI, 42, .inl number_0))]
def fBoard_openNumbers (F : Nat) (number_0 : Nat → Int32) (inField_0 : Nat → Int32) : Option (Int64) :=
  (fBoard_cellsWithNumber F number_0).bind fun s1 =>
  (fBoard_cellsInFields F inField_0).bind fun s2 =>
  some (s1 &&& (s2 ^^^ (-1 : Int64)))
abbrev wl_fBoard_openNumbers (cI cZ cJ cQ : ClassId) (a_0 a_0number a_0inField a_0first a_0last : Nat) (number_0 : Nat → Int32) (inField_0 : Nat → Int32) : va_W := [(a_0, .inr (0, [.ref a_0number, .ref a_0inField, .ref a_0first, .ref a_0last])), (a_0number, .inl (cI, 42, .inl number_0)), (a_0inField, .inl (cZ, 42, .inl inField_0))]
def fBoard_removeField_L8 (F : Nat) (l2 : Int32) (first_0 : Nat → Int32) : Nat → Int32 → (Nat → Int32) → Option (Int32 × (Nat → Int32))
  | 0, _, _ => none
  | N + 1, l3, inField_0 =>
    if (42 : Int32) ≤ l3 then
      some (l3, inField_0)
    else
      (o_rd 42 inField_0 l3).bind fun v2 =>
      (show Option ((Nat → Int32)) from
        if v2 = (0 : Int32) then
          some inField_0
        else
          (o_rd 42 first_0 l3).bind fun v3 =>
          if ¬ v3 = l2 then
            some inField_0
          else
            (o_wrZ 42 inField_0 l3 (0 : Int32)).bind fun w4 =>
            some w4).bind fun j5 =>
      fBoard_removeField_L8 F l2 first_0 N (l3 + (1 : Int32)) j5
def fBoard_removeField (F : Nat) (x1 : Int32) (first_0 : Nat → Int32) (inField_0 : Nat → Int32) : Option ((Nat → Int32)) :=
  (fBoard_firstOfField x1 first_0).bind fun s1 =>
  (fBoard_removeField_L8 F s1 first_0 F (0 : Int32) inField_0).bind fun r6 =>
  some r6.2
abbrev wl_fBoard_removeField (cI cZ cJ cQ : ClassId) (a_0 a_0first a_0inField a_0number a_0last : Nat) (first_0 : Nat → Int32) (inField_0 : Nat → Int32) : va_W := [(a_0, .inr (0, [.ref a_0number, .ref a_0inField, .ref a_0first, .ref a_0last])), (a_0first, .inl (cI, 42, .inl first_0)), (a_0inField, .inl (cZ, 42, .inl inField_0))]
def fBoard_countFieldsMissingIn_L4 (F : Nat) (inField_0 : Nat → Int32) (first_0 : Nat → Int32) (inField_1 : Nat → Int32) (first_1 : Nat → Int32) (last_1 : Nat → Int32) (last_0 : Nat → Int32) : Nat → Int32 → Int32 → Option (Int32 × Int32)
  | 0, _, _ => none
  | N + 1, l2, l3 =>
    if (42 : Int32) ≤ l3 then
      some (l2, l3)
    else
      (fBoard_isCorner l3 inField_0 first_0).bind fun s1 =>
      (show Option (Int32) from
        if s1 = (0 : Int32) then
          some l2
        else
          (fBoard_isCorner l3 inField_1 first_1).bind fun s2 =>
          if s2 = (0 : Int32) then
            some (l2 + (1 : Int32))
          else
            (o_rd 42 last_1 l3).bind fun v3 =>
            (o_rd 42 last_0 l3).bind fun v4 =>
            if v3 = v4 then
              some l2
            else
              some (l2 + (1 : Int32))).bind fun j5 =>
      fBoard_countFieldsMissingIn_L4 F inField_0 first_0 inField_1 first_1 last_1 last_0 N j5 (l3 + (1 : Int32))
def fBoard_countFieldsMissingIn (F : Nat) (inField_0 : Nat → Int32) (first_0 : Nat → Int32) (inField_1 : Nat → Int32) (first_1 : Nat → Int32) (last_1 : Nat → Int32) (last_0 : Nat → Int32) : Option (Int32) :=
  (fBoard_countFieldsMissingIn_L4 F inField_0 first_0 inField_1 first_1 last_1 last_0 F (0 : Int32) (0 : Int32)).bind fun r6 =>
  some r6.1
abbrev wl_fBoard_countFieldsMissingIn (cI cZ cJ cQ : ClassId) (a_0 a_0inField a_0first a_1 a_1inField a_1first a_1last a_0last a_0number a_1number : Nat) (inField_0 : Nat → Int32) (first_0 : Nat → Int32) (inField_1 : Nat → Int32) (first_1 : Nat → Int32) (last_1 : Nat → Int32) (last_0 : Nat → Int32) : va_W := [(a_0, .inr (0, [.ref a_0number, .ref a_0inField, .ref a_0first, .ref a_0last])), (a_0inField, .inl (cZ, 42, .inl inField_0)), (a_0first, .inl (cI, 42, .inl first_0)), (a_1, .inr (0, [.ref a_1number, .ref a_1inField, .ref a_1first, .ref a_1last])), (a_1inField, .inl (cZ, 42, .inl inField_1)), (a_1first, .inl (cI, 42, .inl first_1)), (a_1last, .inl (cI, 42, .inl last_1)), (a_0last, .inl (cI, 42, .inl last_0))]
set_option maxHeartbeats 4000000 in
set_option maxRecDepth 100000 in
theorem c_fJ_bitCount (l : Launch) (dC : Nat → ClassId) (dI : Nat → Nat → Nat) (cI cZ cJ cQ : ClassId) (sz : Nat) (x0 : Int64) : Met l yJ13_bitCount_95d88 wsJ13_bitCount_95d88 ({ frames := 0, cells := 0, slots := 0, locals := 0 } : Room) (va_Pc [.long x0] (wlP (dC, dI) (wlT cI cZ cJ cQ) [] sz)) (va_Qi (fun (v : Int32) (_ : Unit) => v = fJ_bitCount x0) (wlQ (dC, dI) (va_A [] sz) []) (va_A [] sz)) 0 0 (va_A [] sz) := by
  refine wh_ofWi (lv := [(0, .long x0)]) RJ13 (by decide) rfl rfl (Nat.le_of_ble_eq_true rfl) rfl ?_
  intro p e s m below meth c A QQ hx hb hml hown hts hP hK hN hD hA hret ls hl
  have hS : va_S A s.heap s.heap [] := va_S.rf
  refine lv_lload_n hx hb dJ13_bitCount_95d88_0 rfl (lv_at hl 0 rfl) ?_
  refine lv_lload_n hx hb dJ13_bitCount_95d88_1 rfl (lv_at hl 0 rfl) ?_
  refine lv_iconst (v := 1) hx hb dJ13_bitCount_95d88_2 (by decide) ?_
  refine lv_lushr hx hb dJ13_bitCount_95d88_3 rfl ?_
  refine lv_ldc2 hx hb hown (hts (.constantLong RJ13 314 (6148914691236517205)) (List.mem_of_getElem? (i := 1) rfl)) dJ13_bitCount_95d88_4 ?_
  refine lv_land hx hb dJ13_bitCount_95d88_7 ?_
  refine lv_lsub hx hb dJ13_bitCount_95d88_8 ?_
  refine lv_topl (fun y9 ey9 => ?_)
  refine lv_lstore_n (lv' := [(0, .long y9)]) hx hb dJ13_bitCount_95d88_9 rfl hl (by decide) rfl (fun ls hl => ?_)
  refine lv_lload_n hx hb dJ13_bitCount_95d88_10 rfl (lv_at hl 0 rfl) ?_
  refine lv_ldc2 hx hb hown (hts (.constantLong RJ13 316 (3689348814741910323)) (List.mem_of_getElem? (i := 2) rfl)) dJ13_bitCount_95d88_11 ?_
  refine lv_land hx hb dJ13_bitCount_95d88_14 ?_
  refine lv_lload_n hx hb dJ13_bitCount_95d88_15 rfl (lv_at hl 0 rfl) ?_
  refine lv_iconst (v := 2) hx hb dJ13_bitCount_95d88_16 (by decide) ?_
  refine lv_lushr hx hb dJ13_bitCount_95d88_17 rfl ?_
  refine lv_ldc2 hx hb hown (hts (.constantLong RJ13 316 (3689348814741910323)) (List.mem_of_getElem? (i := 2) rfl)) dJ13_bitCount_95d88_18 ?_
  refine lv_land hx hb dJ13_bitCount_95d88_21 ?_
  refine lv_ladd hx hb dJ13_bitCount_95d88_22 ?_
  refine lv_topl (fun y23 ey23 => ?_)
  refine lv_lstore_n (lv' := [(0, .long y23)]) hx hb dJ13_bitCount_95d88_23 rfl hl (by decide) rfl (fun ls hl => ?_)
  refine lv_lload_n hx hb dJ13_bitCount_95d88_24 rfl (lv_at hl 0 rfl) ?_
  refine lv_lload_n hx hb dJ13_bitCount_95d88_25 rfl (lv_at hl 0 rfl) ?_
  refine lv_iconst (v := 4) hx hb dJ13_bitCount_95d88_26 (by decide) ?_
  refine lv_lushr hx hb dJ13_bitCount_95d88_27 rfl ?_
  refine lv_ladd hx hb dJ13_bitCount_95d88_28 ?_
  refine lv_ldc2 hx hb hown (hts (.constantLong RJ13 318 (1085102592571150095)) (List.mem_of_getElem? (i := 3) rfl)) dJ13_bitCount_95d88_29 ?_
  refine lv_land hx hb dJ13_bitCount_95d88_32 ?_
  refine lv_topl (fun y33 ey33 => ?_)
  refine lv_lstore_n (lv' := [(0, .long y33)]) hx hb dJ13_bitCount_95d88_33 rfl hl (by decide) rfl (fun ls hl => ?_)
  refine lv_lload_n hx hb dJ13_bitCount_95d88_34 rfl (lv_at hl 0 rfl) ?_
  refine lv_lload_n hx hb dJ13_bitCount_95d88_35 rfl (lv_at hl 0 rfl) ?_
  refine lv_bipush (v := 8) hx hb dJ13_bitCount_95d88_36 (by decide) ?_
  refine lv_lushr hx hb dJ13_bitCount_95d88_38 rfl ?_
  refine lv_ladd hx hb dJ13_bitCount_95d88_39 ?_
  refine lv_topl (fun y40 ey40 => ?_)
  refine lv_lstore_n (lv' := [(0, .long y40)]) hx hb dJ13_bitCount_95d88_40 rfl hl (by decide) rfl (fun ls hl => ?_)
  refine lv_lload_n hx hb dJ13_bitCount_95d88_41 rfl (lv_at hl 0 rfl) ?_
  refine lv_lload_n hx hb dJ13_bitCount_95d88_42 rfl (lv_at hl 0 rfl) ?_
  refine lv_bipush (v := 16) hx hb dJ13_bitCount_95d88_43 (by decide) ?_
  refine lv_lushr hx hb dJ13_bitCount_95d88_45 rfl ?_
  refine lv_ladd hx hb dJ13_bitCount_95d88_46 ?_
  refine lv_topl (fun y47 ey47 => ?_)
  refine lv_lstore_n (lv' := [(0, .long y47)]) hx hb dJ13_bitCount_95d88_47 rfl hl (by decide) rfl (fun ls hl => ?_)
  refine lv_lload_n hx hb dJ13_bitCount_95d88_48 rfl (lv_at hl 0 rfl) ?_
  refine lv_lload_n hx hb dJ13_bitCount_95d88_49 rfl (lv_at hl 0 rfl) ?_
  refine lv_bipush (v := 32) hx hb dJ13_bitCount_95d88_50 (by decide) ?_
  refine lv_lushr hx hb dJ13_bitCount_95d88_52 rfl ?_
  refine lv_ladd hx hb dJ13_bitCount_95d88_53 ?_
  refine lv_topl (fun y54 ey54 => ?_)
  refine lv_lstore_n (lv' := [(0, .long y54)]) hx hb dJ13_bitCount_95d88_54 rfl hl (by decide) rfl (fun ls hl => ?_)
  refine lv_lload_n hx hb dJ13_bitCount_95d88_55 rfl (lv_at hl 0 rfl) ?_
  refine lv_l2i hx hb dJ13_bitCount_95d88_56 rfl ?_
  refine lv_bipush (v := 127) hx hb dJ13_bitCount_95d88_57 (by decide) ?_
  refine lv_iand hx hb dJ13_bitCount_95d88_59 ?_
  have er : (y54.toInt32 &&& (127 : Int32)) = fJ_bitCount x0 := by
    subst ey9 ey23 ey33 ey40 ey47 ey54; rfl
  rw [er]
  exact hret _ _ _ _ hP hD hS dJ13_bitCount_95d88_60

set_option maxHeartbeats 4000000 in
set_option maxRecDepth 100000 in
theorem c_fX_cellAt (l : Launch) (dC : Nat → ClassId) (dI : Nat → Nat → Nat) (cI cZ cJ cQ : ClassId) (sz : Nat) {x0 : Int32} {x1 : Int32} {out : Int32} (hf : fX_cellAt x0 x1 = some out) : Met l yX9_cellAt wsX9_cellAt ({ frames := 0, cells := 0, slots := 0, locals := 0 } : Room) (va_Pc [.int x0, .int x1] (wlP (dC, dI) (wlT cI cZ cJ cQ) (wl_fX_cellAt cI cZ cJ cQ) sz)) (va_Qi (fun (v : Int32) (_ : Unit) => v = out) (wlQ (dC, dI) (va_A (wl_fX_cellAt cI cZ cJ cQ) sz) (wl_fX_cellAt cI cZ cJ cQ)) (va_A (wl_fX_cellAt cI cZ cJ cQ) sz)) 0 0 (va_A (wl_fX_cellAt cI cZ cJ cQ) sz) := by
  refine wh_ofWi (lv := [(0, .int x0), (1, .int x1)]) RX9 (by decide) rfl rfl (Nat.le_of_ble_eq_true rfl) rfl ?_
  intro p e s m below meth c A QQ hx hb hml hown hts hP hK hN hD hA hret ls hl
  have hS : va_S A s.heap s.heap [] := va_S.rf
  unfold fX_cellAt at hf
  refine lv_iload_n hx hb dX9_cellAt_0 rfl (lv_at hl 0 rfl) ?_
  refine lv_bipush (v := 7) hx hb dX9_cellAt_1 (by decide) ?_
  refine lv_imul hx hb dX9_cellAt_3 ?_
  refine lv_iload_n hx hb dX9_cellAt_4 rfl (lv_at hl 1 rfl) ?_
  refine lv_iadd hx hb dX9_cellAt_5 ?_
  obtain rfl := Option.some.inj hf
  exact hret _ _ _ _ hP hD hS dX9_cellAt_6
set_option maxHeartbeats 4000000 in
set_option maxRecDepth 100000 in
theorem c_fX_bit (l : Launch) (dC : Nat → ClassId) (dI : Nat → Nat → Nat) (cI cZ cJ cQ : ClassId) (sz : Nat) {x0 : Int32} {out : Int64} (hf : fX_bit x0 = some out) : Met l yX9_bit wsX9_bit ({ frames := 0, cells := 0, slots := 0, locals := 0 } : Room) (va_Pc [.int x0] (wlP (dC, dI) (wlT cI cZ cJ cQ) (wl_fX_bit cI cZ cJ cQ) sz)) (va_Ql (fun (v : Int64) (_ : Unit) => v = out) (wlQ (dC, dI) (va_A (wl_fX_bit cI cZ cJ cQ) sz) (wl_fX_bit cI cZ cJ cQ)) (va_A (wl_fX_bit cI cZ cJ cQ) sz)) 0 0 (va_A (wl_fX_bit cI cZ cJ cQ) sz) := by
  refine wh_ofWl (lv := [(0, .int x0)]) RX9 (by decide) rfl rfl (Nat.le_of_ble_eq_true rfl) rfl ?_
  intro p e s m below meth c A QQ hx hb hml hown hts hP hK hN hD hA hret ls hl
  have hS : va_S A s.heap s.heap [] := va_S.rf
  unfold fX_bit at hf
  refine lv_iload_n hx hb dX9_bit_0 rfl (lv_at hl 0 rfl) ?_
  refine lv_if_lt (tgt := 16) hx hb dX9_bit_1 (by decide) (fun cc => ?_) (fun cc => ?_)
  · replace hf := hf_pos cc hf
    refine lv_lconst (v := 0) hx hb dX9_bit_16 (by decide) ?_
    obtain rfl := Option.some.inj hf
    exact hret _ _ _ _ hP hD hS dX9_bit_17
  · replace hf := hf_neg cc hf
    refine lv_iload_n hx hb dX9_bit_4 rfl (lv_at hl 0 rfl) ?_
    refine lv_bipush (v := 42) hx hb dX9_bit_5 (by decide) ?_
    refine lv_icmp_ge (tgt := 16) hx hb dX9_bit_7 (by decide) (fun cc => ?_) (fun cc => ?_)
    · replace hf := hf_pos cc hf
      refine lv_lconst (v := 0) hx hb dX9_bit_16 (by decide) ?_
      obtain rfl := Option.some.inj hf
      exact hret _ _ _ _ hP hD hS dX9_bit_17
    · replace hf := hf_neg cc hf
      refine lv_lconst (v := 1) hx hb dX9_bit_10 (by decide) ?_
      refine lv_iload_n hx hb dX9_bit_11 rfl (lv_at hl 0 rfl) ?_
      refine lv_lshl hx hb dX9_bit_12 rfl ?_
      refine lv_goto (tgt := 17) hx hb dX9_bit_13 (by decide) ?_
      obtain rfl := Option.some.inj hf
      exact hret _ _ _ _ hP hD hS dX9_bit_17
set_option maxHeartbeats 4000000 in
set_option maxRecDepth 100000 in
theorem c_fBoard_cellsInFields (l : Launch) (dC : Nat → ClassId) (dI : Nat → Nat → Nat) (cI cZ cJ cQ : ClassId) (a_0 a_0inField a_0number a_0first a_0last : Nat) (sz : Nat) {F : Nat} {inField_0 : Nat → Int32} {out : Int64} (hf : fBoard_cellsInFields F inField_0 = some out) : Met l yX0_cellsInFields wsX0_cellsInFields ({ frames := 1, cells := 0, slots := 0, locals := 20 } : Room) (va_Pc [.ref a_0] (wlP (dC, dI) (wlT cI cZ cJ cQ) (wl_fBoard_cellsInFields cI cZ cJ cQ a_0 a_0inField a_0number a_0first a_0last inField_0) sz)) (va_Ql (fun (v : Int64) (_ : Unit) => v = out) (wlQ (dC, dI) (va_A (wl_fBoard_cellsInFields cI cZ cJ cQ a_0 a_0inField a_0number a_0first a_0last inField_0) sz) (wl_fBoard_cellsInFields cI cZ cJ cQ a_0 a_0inField a_0number a_0first a_0last inField_0)) (va_A (wl_fBoard_cellsInFields cI cZ cJ cQ a_0 a_0inField a_0number a_0first a_0last inField_0) sz)) 0 0 (va_A (wl_fBoard_cellsInFields cI cZ cJ cQ a_0 a_0inField a_0number a_0first a_0last inField_0) sz) := by
  refine wh_ofWl (lv := [(0, .ref a_0)]) RX0 (by decide) rfl rfl (Nat.le_of_ble_eq_true rfl) rfl ?_
  intro p e s m below meth c A QQ hx hb hml hown hts hP hK hN hD hA hret ls hl
  have hS : va_S A s.heap s.heap [] := va_S.rf
  have hiX0 : ∀ w ∈ wsX00, w ∈ wsX0_cellsInFields := (fun _ h => List.mem_cons_of_mem _ (List.mem_append_right _ (h)))
  unfold fBoard_cellsInFields at hf
  refine lv_lconst (v := 0) hx hb dX0_cellsInFields_0 (by decide) ?_
  refine lv_lstore_n (lv' := [(1, .long (0 : Int64)), (0, .ref a_0)]) hx hb dX0_cellsInFields_1 rfl hl (by decide) rfl (fun ls hl => ?_)
  refine lv_iconst (v := 0) hx hb dX0_cellsInFields_2 (by decide) ?_
  refine lv_istore_n (lv' := [(3, .int (0 : Int32)), (1, .long (0 : Int64)), (0, .ref a_0)]) hx hb dX0_cellsInFields_3 rfl hl (by decide) rfl (fun ls hl => ?_)
  obtain ⟨r4, h_r4, hf⟩ := hf_bind hf
  have hE_1 : ∀ (H : Heap) (locs : List Loc) (ls : Array Slot), lv_has ls 4 [(1, .long r4.1)] → va_P (dC, dI) vwCl (wl_fBoard_cellsInFields cI cZ cJ cQ a_0 a_0inField a_0number a_0first a_0last inField_0) H → va_D A (wl_fBoard_cellsInFields cI cZ cJ cQ a_0 a_0inField a_0number a_0first a_0last inField_0) → va_S A s.heap H locs → W p l e ({ frames := 1, cells := 0, slots := 0, locals := 20 } : Room) s m [.ref a_0].toArray below meth c H locs 0 0 QQ (F0 m 36 ls []) := by
    intro H locs ls hl hP hD hS
    refine lv_lload_n hx hb dX0_cellsInFields_36 rfl (lv_at hl 0 rfl) ?_
    obtain rfl := Option.some.inj hf
    exact hret _ _ _ _ hP hD hS dX0_cellsInFields_37
  have hL_2 : ∀ (N : Nat) (l1_3 : Int64) (l3_4 : Int32), fBoard_cellsInFields_L4 F inField_0 N l1_3 l3_4 = some r4 → ∀ (H : Heap) (locs : List Loc) (ls : Array Slot), lv_has ls 4 [(0, .ref a_0), (1, .long l1_3), (3, .int l3_4)] → va_P (dC, dI) vwCl (wl_fBoard_cellsInFields cI cZ cJ cQ a_0 a_0inField a_0number a_0first a_0last inField_0) H → va_D A (wl_fBoard_cellsInFields cI cZ cJ cQ a_0 a_0inField a_0number a_0first a_0last inField_0) → va_S A s.heap H locs → W p l e ({ frames := 1, cells := 0, slots := 0, locals := 20 } : Room) s m [.ref a_0].toArray below meth c H locs 0 0 QQ (F0 m 4 ls []) := by
    intro N
    induction N with
    | zero => intro l1_3 l3_4 hf; exact nomatch (show none = some _ from hf)
    | succ N ih =>
      intro l1_3 l3_4 hf H locs ls hl hP hD hS
      rw [fBoard_cellsInFields_L4] at hf
      refine lv_iload_n hx hb dX0_cellsInFields_4 rfl (lv_at hl 2 rfl) ?_
      refine lv_bipush (v := 42) hx hb dX0_cellsInFields_5 (by decide) ?_
      refine lv_icmp_ge (tgt := 36) hx hb dX0_cellsInFields_7 (by decide) (fun cc => ?_) (fun cc => ?_)
      · replace hf := hf_pos cc hf
        obtain rfl := Option.some.inj hf
        exact hE_1 _ _ _ (lv_sub hl [1] rfl) hP hD hS
      · replace hf := hf_neg cc hf
        refine lv_lload_n hx hb dX0_cellsInFields_10 rfl (lv_at hl 1 rfl) ?_
        refine lv_aload_n hx hb dX0_cellsInFields_11 rfl (lv_at hl 0 rfl) ?_
        refine va_get (D := (dC, dI)) (ci := 0) (C := RX0) (T := TX0) (N := 4) hx hb hts hiX0 hown hK hP 0 rfl rfl 1 (by decide) (hts (.fieldLink RX0 15 "PaddockFields$Board" "inField" "[Z") (List.mem_cons_of_mem _ (List.mem_append_left _ (List.mem_of_getElem? (i := 0) rfl)))) (fun _ h9 => h9) rfl dX0_cellsInFields_12 ?_
        refine lv_iload_n hx hb dX0_cellsInFields_15 rfl (lv_at hl 2 rfl) ?_
        obtain ⟨v1, h_v1, hf⟩ := hf_bind hf
        refine wh_ldZ (D := (dC, dI)) hx hb hK hP 1 1 rfl rfl h_v1 dX0_cellsInFields_16 ?_
        obtain ⟨j3, h_j3, hf⟩ := hf_bind hf
        have hJ_5 : ∀ (H : Heap) (locs : List Loc) (ls : Array Slot), lv_has ls 4 [(0, .ref a_0), (3, .int l3_4)] → va_P (dC, dI) vwCl (wl_fBoard_cellsInFields cI cZ cJ cQ a_0 a_0inField a_0number a_0first a_0last inField_0) H → va_D A (wl_fBoard_cellsInFields cI cZ cJ cQ a_0 a_0inField a_0number a_0first a_0last inField_0) → va_S A s.heap H locs → W p l e ({ frames := 1, cells := 0, slots := 0, locals := 20 } : Room) s m [.ref a_0].toArray below meth c H locs 0 0 QQ (F0 m 28 ls [.long j3, .long l1_3]) := by
          intro H locs ls hl hP hD hS
          refine lv_lor hx hb dX0_cellsInFields_28 ?_
          refine lv_lstore_n (lv' := [(1, .long (l1_3 ||| j3)), (0, .ref a_0), (3, .int l3_4)]) hx hb dX0_cellsInFields_29 rfl hl (by decide) rfl (fun ls hl => ?_)
          refine lv_iinc (v := (l3_4 + (1 : Int32))) (lv' := [(3, .int (l3_4 + (1 : Int32))), (1, .long (l1_3 ||| j3)), (0, .ref a_0)]) hx hb dX0_cellsInFields_30 hl (k := 2) rfl rfl (by decide) rfl (fun ls hl => ?_)
          refine lv_goto (tgt := 4) hx hb dX0_cellsInFields_33 (by decide) ?_
          exact ih _ _ hf _ _ _ (lv_sub hl [2, 1, 0] rfl) hP hD hS
        clear hf
        have hf := h_j3
        clear h_j3
        refine lv_if_eq (tgt := 27) hx hb dX0_cellsInFields_17 (by decide) (fun cc => ?_) (fun cc => ?_)
        · replace hf := hf_pos cc hf
          refine lv_lconst (v := 0) hx hb dX0_cellsInFields_27 (by decide) ?_
          obtain rfl := Option.some.inj hf
          exact hJ_5 _ _ _ (lv_sub hl [0, 2] rfl) hP hD hS
        · replace hf := hf_neg cc hf
          refine lv_iload_n hx hb dX0_cellsInFields_20 rfl (lv_at hl 2 rfl) ?_
          obtain ⟨s2, h_s2, hf⟩ := hf_bind hf
          refine wh_calll (D := (dC, dI)) (ws' := (wl_fBoard_cellsInFields cI cZ cJ cQ a_0 a_0inField a_0number a_0first a_0last inField_0)) (va_runSN (As := [.int l3_4]) (rest := [.long l1_3]) ⟨hx, hb, hml, hown, hts⟩ (c_fX_bit l dC dI cI cZ cJ cQ _ h_s2) ⟨va_cnB 1 hts gX0_cellsInFields_X9_bit_n44 rfl rfl rfl (hN (RX0, 44, yX9_bit) (List.mem_of_getElem? (i := 14) rfl)) (hts (.initialized RX9) (List.mem_cons_of_mem _ (List.mem_append_left _ (List.mem_of_getElem? (i := 2) rfl)))) (by decide +kernel) ⟨Nat.le_of_ble_eq_true rfl, Nat.le_of_ble_eq_true rfl⟩, (hts (.static yX9_bit) (List.mem_cons_of_mem _ (List.mem_append_left _ (List.mem_of_getElem? (i := 1) rfl)))), trivial⟩ (wh_preS hK hN hP hD [] rfl rfl) rfl rfl hl.1 rfl (lv_room (Nat.le_of_ble_eq_true rfl)) dX0_cellsInFields_21 ⟨Nat.le_refl _, Nat.le_refl _⟩) hP hD hS hA [] [0, 1] [0, 1] rfl rfl rfl rfl (fun H locs hP hD hS => ?_)
          refine lv_goto (tgt := 28) hx hb dX0_cellsInFields_24 (by decide) ?_
          obtain rfl := Option.some.inj hf
          exact hJ_5 _ _ _ (lv_sub hl [0, 2] rfl) hP hD hS
  exact hL_2 _ _ _ h_r4 _ _ _ (lv_sub hl [2, 1, 0] rfl) hP hD hS
set_option maxHeartbeats 4000000 in
set_option maxRecDepth 100000 in
theorem c_fBoard_cellsWithNumber (l : Launch) (dC : Nat → ClassId) (dI : Nat → Nat → Nat) (cI cZ cJ cQ : ClassId) (a_0 a_0number a_0inField a_0first a_0last : Nat) (sz : Nat) {F : Nat} {number_0 : Nat → Int32} {out : Int64} (hf : fBoard_cellsWithNumber F number_0 = some out) : Met l yX0_cellsWithNumber wsX0_cellsWithNumber ({ frames := 1, cells := 0, slots := 0, locals := 20 } : Room) (va_Pc [.ref a_0] (wlP (dC, dI) (wlT cI cZ cJ cQ) (wl_fBoard_cellsWithNumber cI cZ cJ cQ a_0 a_0number a_0inField a_0first a_0last number_0) sz)) (va_Ql (fun (v : Int64) (_ : Unit) => v = out) (wlQ (dC, dI) (va_A (wl_fBoard_cellsWithNumber cI cZ cJ cQ a_0 a_0number a_0inField a_0first a_0last number_0) sz) (wl_fBoard_cellsWithNumber cI cZ cJ cQ a_0 a_0number a_0inField a_0first a_0last number_0)) (va_A (wl_fBoard_cellsWithNumber cI cZ cJ cQ a_0 a_0number a_0inField a_0first a_0last number_0) sz)) 0 0 (va_A (wl_fBoard_cellsWithNumber cI cZ cJ cQ a_0 a_0number a_0inField a_0first a_0last number_0) sz) := by
  refine wh_ofWl (lv := [(0, .ref a_0)]) RX0 (by decide) rfl rfl (Nat.le_of_ble_eq_true rfl) rfl ?_
  intro p e s m below meth c A QQ hx hb hml hown hts hP hK hN hD hA hret ls hl
  have hS : va_S A s.heap s.heap [] := va_S.rf
  have hiX0 : ∀ w ∈ wsX00, w ∈ wsX0_cellsWithNumber := (fun _ h => List.mem_cons_of_mem _ (List.mem_append_right _ (h)))
  unfold fBoard_cellsWithNumber at hf
  refine lv_lconst (v := 0) hx hb dX0_cellsWithNumber_0 (by decide) ?_
  refine lv_lstore_n (lv' := [(1, .long (0 : Int64)), (0, .ref a_0)]) hx hb dX0_cellsWithNumber_1 rfl hl (by decide) rfl (fun ls hl => ?_)
  refine lv_iconst (v := 0) hx hb dX0_cellsWithNumber_2 (by decide) ?_
  refine lv_istore_n (lv' := [(3, .int (0 : Int32)), (1, .long (0 : Int64)), (0, .ref a_0)]) hx hb dX0_cellsWithNumber_3 rfl hl (by decide) rfl (fun ls hl => ?_)
  obtain ⟨r4, h_r4, hf⟩ := hf_bind hf
  have hE_1 : ∀ (H : Heap) (locs : List Loc) (ls : Array Slot), lv_has ls 4 [(1, .long r4.1)] → va_P (dC, dI) vwCl (wl_fBoard_cellsWithNumber cI cZ cJ cQ a_0 a_0number a_0inField a_0first a_0last number_0) H → va_D A (wl_fBoard_cellsWithNumber cI cZ cJ cQ a_0 a_0number a_0inField a_0first a_0last number_0) → va_S A s.heap H locs → W p l e ({ frames := 1, cells := 0, slots := 0, locals := 20 } : Room) s m [.ref a_0].toArray below meth c H locs 0 0 QQ (F0 m 36 ls []) := by
    intro H locs ls hl hP hD hS
    refine lv_lload_n hx hb dX0_cellsWithNumber_36 rfl (lv_at hl 0 rfl) ?_
    obtain rfl := Option.some.inj hf
    exact hret _ _ _ _ hP hD hS dX0_cellsWithNumber_37
  have hL_2 : ∀ (N : Nat) (l1_3 : Int64) (l3_4 : Int32), fBoard_cellsWithNumber_L4 F number_0 N l1_3 l3_4 = some r4 → ∀ (H : Heap) (locs : List Loc) (ls : Array Slot), lv_has ls 4 [(0, .ref a_0), (1, .long l1_3), (3, .int l3_4)] → va_P (dC, dI) vwCl (wl_fBoard_cellsWithNumber cI cZ cJ cQ a_0 a_0number a_0inField a_0first a_0last number_0) H → va_D A (wl_fBoard_cellsWithNumber cI cZ cJ cQ a_0 a_0number a_0inField a_0first a_0last number_0) → va_S A s.heap H locs → W p l e ({ frames := 1, cells := 0, slots := 0, locals := 20 } : Room) s m [.ref a_0].toArray below meth c H locs 0 0 QQ (F0 m 4 ls []) := by
    intro N
    induction N with
    | zero => intro l1_3 l3_4 hf; exact nomatch (show none = some _ from hf)
    | succ N ih =>
      intro l1_3 l3_4 hf H locs ls hl hP hD hS
      rw [fBoard_cellsWithNumber_L4] at hf
      refine lv_iload_n hx hb dX0_cellsWithNumber_4 rfl (lv_at hl 2 rfl) ?_
      refine lv_bipush (v := 42) hx hb dX0_cellsWithNumber_5 (by decide) ?_
      refine lv_icmp_ge (tgt := 36) hx hb dX0_cellsWithNumber_7 (by decide) (fun cc => ?_) (fun cc => ?_)
      · replace hf := hf_pos cc hf
        obtain rfl := Option.some.inj hf
        exact hE_1 _ _ _ (lv_sub hl [1] rfl) hP hD hS
      · replace hf := hf_neg cc hf
        refine lv_lload_n hx hb dX0_cellsWithNumber_10 rfl (lv_at hl 1 rfl) ?_
        refine lv_aload_n hx hb dX0_cellsWithNumber_11 rfl (lv_at hl 0 rfl) ?_
        refine va_get (D := (dC, dI)) (ci := 0) (C := RX0) (T := TX0) (N := 4) hx hb hts hiX0 hown hK hP 0 rfl rfl 0 (by decide) (hts (.fieldLink RX0 9 "PaddockFields$Board" "number" "[I") (List.mem_cons_of_mem _ (List.mem_append_left _ (List.mem_of_getElem? (i := 0) rfl)))) (fun _ h9 => h9) rfl dX0_cellsWithNumber_12 ?_
        refine lv_iload_n hx hb dX0_cellsWithNumber_15 rfl (lv_at hl 2 rfl) ?_
        obtain ⟨v1, h_v1, hf⟩ := hf_bind hf
        refine wh_ldI (D := (dC, dI)) hx hb hK hP 1 0 rfl rfl h_v1 dX0_cellsWithNumber_16 ?_
        obtain ⟨j3, h_j3, hf⟩ := hf_bind hf
        have hJ_5 : ∀ (H : Heap) (locs : List Loc) (ls : Array Slot), lv_has ls 4 [(0, .ref a_0), (3, .int l3_4)] → va_P (dC, dI) vwCl (wl_fBoard_cellsWithNumber cI cZ cJ cQ a_0 a_0number a_0inField a_0first a_0last number_0) H → va_D A (wl_fBoard_cellsWithNumber cI cZ cJ cQ a_0 a_0number a_0inField a_0first a_0last number_0) → va_S A s.heap H locs → W p l e ({ frames := 1, cells := 0, slots := 0, locals := 20 } : Room) s m [.ref a_0].toArray below meth c H locs 0 0 QQ (F0 m 28 ls [.long j3, .long l1_3]) := by
          intro H locs ls hl hP hD hS
          refine lv_lor hx hb dX0_cellsWithNumber_28 ?_
          refine lv_lstore_n (lv' := [(1, .long (l1_3 ||| j3)), (0, .ref a_0), (3, .int l3_4)]) hx hb dX0_cellsWithNumber_29 rfl hl (by decide) rfl (fun ls hl => ?_)
          refine lv_iinc (v := (l3_4 + (1 : Int32))) (lv' := [(3, .int (l3_4 + (1 : Int32))), (1, .long (l1_3 ||| j3)), (0, .ref a_0)]) hx hb dX0_cellsWithNumber_30 hl (k := 2) rfl rfl (by decide) rfl (fun ls hl => ?_)
          refine lv_goto (tgt := 4) hx hb dX0_cellsWithNumber_33 (by decide) ?_
          exact ih _ _ hf _ _ _ (lv_sub hl [2, 1, 0] rfl) hP hD hS
        clear hf
        have hf := h_j3
        clear h_j3
        refine lv_if_eq (tgt := 27) hx hb dX0_cellsWithNumber_17 (by decide) (fun cc => ?_) (fun cc => ?_)
        · replace hf := hf_pos cc hf
          refine lv_lconst (v := 0) hx hb dX0_cellsWithNumber_27 (by decide) ?_
          obtain rfl := Option.some.inj hf
          exact hJ_5 _ _ _ (lv_sub hl [0, 2] rfl) hP hD hS
        · replace hf := hf_neg cc hf
          refine lv_iload_n hx hb dX0_cellsWithNumber_20 rfl (lv_at hl 2 rfl) ?_
          obtain ⟨s2, h_s2, hf⟩ := hf_bind hf
          refine wh_calll (D := (dC, dI)) (ws' := (wl_fBoard_cellsWithNumber cI cZ cJ cQ a_0 a_0number a_0inField a_0first a_0last number_0)) (va_runSN (As := [.int l3_4]) (rest := [.long l1_3]) ⟨hx, hb, hml, hown, hts⟩ (c_fX_bit l dC dI cI cZ cJ cQ _ h_s2) ⟨va_cnB 1 hts gX0_cellsWithNumber_X9_bit_n44 rfl rfl rfl (hN (RX0, 44, yX9_bit) (List.mem_of_getElem? (i := 14) rfl)) (hts (.initialized RX9) (List.mem_cons_of_mem _ (List.mem_append_left _ (List.mem_of_getElem? (i := 2) rfl)))) (by decide +kernel) ⟨Nat.le_of_ble_eq_true rfl, Nat.le_of_ble_eq_true rfl⟩, (hts (.static yX9_bit) (List.mem_cons_of_mem _ (List.mem_append_left _ (List.mem_of_getElem? (i := 1) rfl)))), trivial⟩ (wh_preS hK hN hP hD [] rfl rfl) rfl rfl hl.1 rfl (lv_room (Nat.le_of_ble_eq_true rfl)) dX0_cellsWithNumber_21 ⟨Nat.le_refl _, Nat.le_refl _⟩) hP hD hS hA [] [0, 1] [0, 1] rfl rfl rfl rfl (fun H locs hP hD hS => ?_)
          refine lv_goto (tgt := 28) hx hb dX0_cellsWithNumber_24 (by decide) ?_
          obtain rfl := Option.some.inj hf
          exact hJ_5 _ _ _ (lv_sub hl [0, 2] rfl) hP hD hS
  exact hL_2 _ _ _ h_r4 _ _ _ (lv_sub hl [2, 1, 0] rfl) hP hD hS
set_option maxHeartbeats 4000000 in
set_option maxRecDepth 100000 in
theorem c_fX_lowestCell (l : Launch) (dC : Nat → ClassId) (dI : Nat → Nat → Nat) (cI cZ cJ cQ : ClassId) (sz : Nat) {x0 : Int64} {out : Int32} (hf : fX_lowestCell x0 = some out) : Met l yX9_lowestCell wsX9_lowestCell ({ frames := 1, cells := 0, slots := 0, locals := 21 } : Room) (va_Pc [.long x0] (wlP (dC, dI) (wlT cI cZ cJ cQ) (wl_fX_lowestCell cI cZ cJ cQ) sz)) (va_Qi (fun (v : Int32) (_ : Unit) => v = out) (wlQ (dC, dI) (va_A (wl_fX_lowestCell cI cZ cJ cQ) sz) (wl_fX_lowestCell cI cZ cJ cQ)) (va_A (wl_fX_lowestCell cI cZ cJ cQ) sz)) 0 0 (va_A (wl_fX_lowestCell cI cZ cJ cQ) sz) := by
  refine wh_ofWi (lv := [(0, .long x0)]) RX9 (by decide) rfl rfl (Nat.le_of_ble_eq_true rfl) rfl ?_
  intro p e s m below meth c A QQ hx hb hml hown hts hP hK hN hD hA hret ls hl
  have hS : va_S A s.heap s.heap [] := va_S.rf
  unfold fX_lowestCell at hf
  refine lv_lload_n hx hb dX9_lowestCell_0 rfl (lv_at hl 0 rfl) ?_
  refine lv_lconst (v := 0) hx hb dX9_lowestCell_1 (by decide) ?_
  refine W.lcmp hx hb dX9_lowestCell_2 ?_
  refine lv_if_ne (tgt := 11) hx hb dX9_lowestCell_3 (by decide) (fun cc => ?_) (fun cc => ?_)
  · replace hf := hf_pos (mt (lg_cmp_eq _ _).mpr cc) hf
    refine lv_lload_n hx hb dX9_lowestCell_11 rfl (lv_at hl 0 rfl) ?_
    refine lv_lload_n hx hb dX9_lowestCell_12 rfl (lv_at hl 0 rfl) ?_
    refine lv_lneg hx hb dX9_lowestCell_13 ?_
    refine lv_land hx hb dX9_lowestCell_14 ?_
    refine lv_lconst (v := 1) hx hb dX9_lowestCell_15 (by decide) ?_
    refine lv_lsub hx hb dX9_lowestCell_16 ?_
    refine wh_calli (ws' := (wl_fX_lowestCell cI cZ cJ cQ)) (va_runS (As := [.long ((x0 &&& (-x0)) - (1 : Int64))]) (rest := []) ⟨hx, hb, hml, hown, hts⟩ (c_fJ_bitCount l dC dI cI cZ cJ cQ _ ((x0 &&& (-x0)) - (1 : Int64))) (va_cwS 1 hts gX9_lowestCell_J13_bitCount_95d88 rfl rfl rfl (by decide +kernel) ⟨Nat.le_of_ble_eq_true rfl, Nat.le_of_ble_eq_true rfl⟩) (wh_preS hK hN hP hD [] rfl rfl) rfl rfl hl.1 rfl (lv_room (Nat.le_of_ble_eq_true rfl)) dX9_lowestCell_17 ⟨Nat.le_refl _, Nat.le_refl _⟩) hP hD hS hA [] [] [] rfl rfl rfl rfl (fun H locs hP hD hS => ?_)
    obtain rfl := Option.some.inj hf
    exact hret _ _ _ _ hP hD hS dX9_lowestCell_20
  · replace hf := hf_neg (not_not_intro ((lg_cmp_eq _ _).mp cc)) hf
    refine lv_bipush (v := 42) hx hb dX9_lowestCell_6 (by decide) ?_
    refine lv_goto (tgt := 20) hx hb dX9_lowestCell_8 (by decide) ?_
    obtain rfl := Option.some.inj hf
    exact hret _ _ _ _ hP hD hS dX9_lowestCell_20
set_option maxHeartbeats 4000000 in
set_option maxRecDepth 100000 in
theorem c_fX_isCell (l : Launch) (dC : Nat → ClassId) (dI : Nat → Nat → Nat) (cI cZ cJ cQ : ClassId) (sz : Nat) {x0 : Int32} {out : Int32} (hf : fX_isCell x0 = some out) : Met l yX9_isCell wsX9_isCell ({ frames := 0, cells := 0, slots := 0, locals := 0 } : Room) (va_Pc [.int x0] (wlP (dC, dI) (wlT cI cZ cJ cQ) (wl_fX_isCell cI cZ cJ cQ) sz)) (va_Qi (fun (v : Int32) (_ : Unit) => v = out) (wlQ (dC, dI) (va_A (wl_fX_isCell cI cZ cJ cQ) sz) (wl_fX_isCell cI cZ cJ cQ)) (va_A (wl_fX_isCell cI cZ cJ cQ) sz)) 0 0 (va_A (wl_fX_isCell cI cZ cJ cQ) sz) := by
  refine wh_ofWz (lv := [(0, .int x0)]) RX9 (by decide) rfl rfl (Nat.le_of_ble_eq_true rfl) rfl ?_
  intro p e s m below meth c A QQ hx hb hml hown hts hP hK hN hD hA hret ls hl
  have hS : va_S A s.heap s.heap [] := va_S.rf
  unfold fX_isCell at hf
  refine lv_iload_n hx hb dX9_isCell_0 rfl (lv_at hl 0 rfl) ?_
  refine lv_if_lt (tgt := 14) hx hb dX9_isCell_1 (by decide) (fun cc => ?_) (fun cc => ?_)
  · replace hf := hf_pos cc hf
    refine lv_iconst (v := 0) hx hb dX9_isCell_14 (by decide) ?_
    obtain rfl := Option.some.inj hf
    exact hret _ _ _ _ (by decide) hP hD hS dX9_isCell_15
  · replace hf := hf_neg cc hf
    refine lv_iload_n hx hb dX9_isCell_4 rfl (lv_at hl 0 rfl) ?_
    refine lv_bipush (v := 42) hx hb dX9_isCell_5 (by decide) ?_
    refine lv_icmp_ge (tgt := 14) hx hb dX9_isCell_7 (by decide) (fun cc => ?_) (fun cc => ?_)
    · replace hf := hf_pos cc hf
      refine lv_iconst (v := 0) hx hb dX9_isCell_14 (by decide) ?_
      obtain rfl := Option.some.inj hf
      exact hret _ _ _ _ (by decide) hP hD hS dX9_isCell_15
    · replace hf := hf_neg cc hf
      refine lv_iconst (v := 1) hx hb dX9_isCell_10 (by decide) ?_
      refine lv_goto (tgt := 15) hx hb dX9_isCell_11 (by decide) ?_
      obtain rfl := Option.some.inj hf
      exact hret _ _ _ _ (by decide) hP hD hS dX9_isCell_15
set_option maxHeartbeats 4000000 in
set_option maxRecDepth 100000 in
theorem c_fBoard_numberIn (l : Launch) (dC : Nat → ClassId) (dI : Nat → Nat → Nat) (cI cZ cJ cQ : ClassId) (a_0 a_0number a_0inField a_0first a_0last : Nat) (sz : Nat) {x1 : Int32} {number_0 : Nat → Int32} {out : Int32} (hf : fBoard_numberIn x1 number_0 = some out) : Met l yX0_numberIn wsX0_numberIn ({ frames := 1, cells := 0, slots := 0, locals := 20 } : Room) (va_Pc [.ref a_0, .int x1] (wlP (dC, dI) (wlT cI cZ cJ cQ) (wl_fBoard_numberIn cI cZ cJ cQ a_0 a_0number a_0inField a_0first a_0last number_0) sz)) (va_Qi (fun (v : Int32) (_ : Unit) => v = out) (wlQ (dC, dI) (va_A (wl_fBoard_numberIn cI cZ cJ cQ a_0 a_0number a_0inField a_0first a_0last number_0) sz) (wl_fBoard_numberIn cI cZ cJ cQ a_0 a_0number a_0inField a_0first a_0last number_0)) (va_A (wl_fBoard_numberIn cI cZ cJ cQ a_0 a_0number a_0inField a_0first a_0last number_0) sz)) 0 0 (va_A (wl_fBoard_numberIn cI cZ cJ cQ a_0 a_0number a_0inField a_0first a_0last number_0) sz) := by
  refine wh_ofWi (lv := [(0, .ref a_0), (1, .int x1)]) RX0 (by decide) rfl rfl (Nat.le_of_ble_eq_true rfl) rfl ?_
  intro p e s m below meth c A QQ hx hb hml hown hts hP hK hN hD hA hret ls hl
  have hS : va_S A s.heap s.heap [] := va_S.rf
  have hiX0 : ∀ w ∈ wsX00, w ∈ wsX0_numberIn := (fun _ h => List.mem_cons_of_mem _ (List.mem_append_right _ (h)))
  unfold fBoard_numberIn at hf
  refine lv_iload_n hx hb dX0_numberIn_0 rfl (lv_at hl 1 rfl) ?_
  obtain ⟨s1, h_s1, hf⟩ := hf_bind hf
  refine wh_calli (D := (dC, dI)) (ws' := (wl_fBoard_numberIn cI cZ cJ cQ a_0 a_0number a_0inField a_0first a_0last number_0)) (va_runSN (As := [.int x1]) (rest := []) ⟨hx, hb, hml, hown, hts⟩ (c_fX_isCell l dC dI cI cZ cJ cQ _ h_s1) ⟨va_cnB 1 hts gX0_numberIn_X9_isCell_n25 rfl rfl rfl (hN (RX0, 25, yX9_isCell) (List.mem_of_getElem? (i := 11) rfl)) (hts (.initialized RX9) (List.mem_cons_of_mem _ (List.mem_append_left _ (List.mem_of_getElem? (i := 2) rfl)))) (by decide +kernel) ⟨Nat.le_of_ble_eq_true rfl, Nat.le_of_ble_eq_true rfl⟩, (hts (.static yX9_isCell) (List.mem_cons_of_mem _ (List.mem_append_left _ (List.mem_of_getElem? (i := 1) rfl)))), trivial⟩ (wh_preS hK hN hP hD [] rfl rfl) rfl rfl hl.1 rfl (lv_room (Nat.le_of_ble_eq_true rfl)) dX0_numberIn_1 ⟨Nat.le_refl _, Nat.le_refl _⟩) hP hD hS hA [] [0, 1] [0, 1] rfl rfl rfl rfl (fun H locs hP hD hS => ?_)
  refine lv_if_eq (tgt := 16) hx hb dX0_numberIn_4 (by decide) (fun cc => ?_) (fun cc => ?_)
  · replace hf := hf_pos cc hf
    refine lv_iconst (v := 0) hx hb dX0_numberIn_16 (by decide) ?_
    obtain rfl := Option.some.inj hf
    exact hret _ _ _ _ hP hD hS dX0_numberIn_17
  · replace hf := hf_neg cc hf
    refine lv_aload_n hx hb dX0_numberIn_7 rfl (lv_at hl 0 rfl) ?_
    refine va_get (D := (dC, dI)) (ci := 0) (C := RX0) (T := TX0) (N := 4) hx hb hts hiX0 hown hK hP 0 rfl rfl 0 (by decide) (hts (.fieldLink RX0 9 "PaddockFields$Board" "number" "[I") (List.mem_cons_of_mem _ (List.mem_append_left _ (List.mem_of_getElem? (i := 0) rfl)))) (fun _ h9 => h9) rfl dX0_numberIn_8 ?_
    refine lv_iload_n hx hb dX0_numberIn_11 rfl (lv_at hl 1 rfl) ?_
    obtain ⟨v2, h_v2, hf⟩ := hf_bind hf
    refine wh_ldI (D := (dC, dI)) hx hb hK hP 1 0 rfl rfl h_v2 dX0_numberIn_12 ?_
    refine lv_goto (tgt := 17) hx hb dX0_numberIn_13 (by decide) ?_
    obtain rfl := Option.some.inj hf
    exact hret _ _ _ _ hP hD hS dX0_numberIn_17
set_option maxHeartbeats 4000000 in
set_option maxRecDepth 100000 in
theorem c_fX_isInside (l : Launch) (dC : Nat → ClassId) (dI : Nat → Nat → Nat) (cI cZ cJ cQ : ClassId) (sz : Nat) {x0 : Int32} {x1 : Int32} {x2 : Int32} {out : Int32} (hf : fX_isInside x0 x1 x2 = some out) : Met l yX9_isInside wsX9_isInside ({ frames := 0, cells := 0, slots := 0, locals := 0 } : Room) (va_Pc [.int x0, .int x1, .int x2] (wlP (dC, dI) (wlT cI cZ cJ cQ) (wl_fX_isInside cI cZ cJ cQ) sz)) (va_Qi (fun (v : Int32) (_ : Unit) => v = out) (wlQ (dC, dI) (va_A (wl_fX_isInside cI cZ cJ cQ) sz) (wl_fX_isInside cI cZ cJ cQ)) (va_A (wl_fX_isInside cI cZ cJ cQ) sz)) 0 0 (va_A (wl_fX_isInside cI cZ cJ cQ) sz) := by
  refine wh_ofWz (lv := [(0, .int x0), (1, .int x1), (2, .int x2)]) RX9 (by decide) rfl rfl (Nat.le_of_ble_eq_true rfl) rfl ?_
  intro p e s m below meth c A QQ hx hb hml hown hts hP hK hN hD hA hret ls hl
  have hS : va_S A s.heap s.heap [] := va_S.rf
  unfold fX_isInside at hf
  refine lv_iload_n hx hb dX9_isInside_0 rfl (lv_at hl 0 rfl) ?_
  refine lv_bipush (v := 7) hx hb dX9_isInside_1 (by decide) ?_
  refine lv_irem hx hb dX9_isInside_3 (by decide) ?_
  refine lv_istore_n (lv' := [(3, .int (x0 - x0 / (7 : Int32) * (7 : Int32))), (0, .int x0), (1, .int x1), (2, .int x2)]) hx hb dX9_isInside_4 rfl hl (by decide) rfl (fun ls hl => ?_)
  refine lv_iload_n hx hb dX9_isInside_5 rfl (lv_at hl 1 rfl) ?_
  refine lv_iload_n hx hb dX9_isInside_6 rfl (lv_at hl 2 rfl) ?_
  refine lv_icmp_lt (tgt := 35) hx hb dX9_isInside_7 (by decide) (fun cc => ?_) (fun cc => ?_)
  · replace hf := hf_pos cc hf
    refine lv_iconst (v := 0) hx hb dX9_isInside_35 (by decide) ?_
    obtain rfl := Option.some.inj hf
    exact hret _ _ _ _ (by decide) hP hD hS dX9_isInside_36
  · replace hf := hf_neg cc hf
    refine lv_iload_n hx hb dX9_isInside_10 rfl (lv_at hl 1 rfl) ?_
    refine lv_iload_n hx hb dX9_isInside_11 rfl (lv_at hl 3 rfl) ?_
    refine lv_icmp_gt (tgt := 35) hx hb dX9_isInside_12 (by decide) (fun cc => ?_) (fun cc => ?_)
    · replace hf := hf_pos cc hf
      refine lv_iconst (v := 0) hx hb dX9_isInside_35 (by decide) ?_
      obtain rfl := Option.some.inj hf
      exact hret _ _ _ _ (by decide) hP hD hS dX9_isInside_36
    · replace hf := hf_neg cc hf
      refine lv_iload_n hx hb dX9_isInside_15 rfl (lv_at hl 0 rfl) ?_
      refine lv_iload_n hx hb dX9_isInside_16 rfl (lv_at hl 2 rfl) ?_
      refine lv_bipush (v := 7) hx hb dX9_isInside_17 (by decide) ?_
      refine lv_irem hx hb dX9_isInside_19 (by decide) ?_
      refine lv_icmp_lt (tgt := 35) hx hb dX9_isInside_20 (by decide) (fun cc => ?_) (fun cc => ?_)
      · replace hf := hf_pos cc hf
        refine lv_iconst (v := 0) hx hb dX9_isInside_35 (by decide) ?_
        obtain rfl := Option.some.inj hf
        exact hret _ _ _ _ (by decide) hP hD hS dX9_isInside_36
      · replace hf := hf_neg cc hf
        refine lv_iload_n hx hb dX9_isInside_23 rfl (lv_at hl 0 rfl) ?_
        refine lv_iload_n hx hb dX9_isInside_24 rfl (lv_at hl 3 rfl) ?_
        refine lv_bipush (v := 7) hx hb dX9_isInside_25 (by decide) ?_
        refine lv_irem hx hb dX9_isInside_27 (by decide) ?_
        refine lv_icmp_gt (tgt := 35) hx hb dX9_isInside_28 (by decide) (fun cc => ?_) (fun cc => ?_)
        · replace hf := hf_pos cc hf
          refine lv_iconst (v := 0) hx hb dX9_isInside_35 (by decide) ?_
          obtain rfl := Option.some.inj hf
          exact hret _ _ _ _ (by decide) hP hD hS dX9_isInside_36
        · replace hf := hf_neg cc hf
          refine lv_iconst (v := 1) hx hb dX9_isInside_31 (by decide) ?_
          refine lv_goto (tgt := 36) hx hb dX9_isInside_32 (by decide) ?_
          obtain rfl := Option.some.inj hf
          exact hret _ _ _ _ (by decide) hP hD hS dX9_isInside_36
set_option maxHeartbeats 4000000 in
set_option maxRecDepth 100000 in
theorem c_fX_cellsOf (l : Launch) (dC : Nat → ClassId) (dI : Nat → Nat → Nat) (cI cZ cJ cQ : ClassId) (sz : Nat) {F : Nat} {x0 : Int32} {x1 : Int32} {out : Int64} (hf : fX_cellsOf F x0 x1 = some out) : Met l yX9_cellsOf wsX9_cellsOf ({ frames := 1, cells := 0, slots := 0, locals := 23 } : Room) (va_Pc [.int x0, .int x1] (wlP (dC, dI) (wlT cI cZ cJ cQ) (wl_fX_cellsOf cI cZ cJ cQ) sz)) (va_Ql (fun (v : Int64) (_ : Unit) => v = out) (wlQ (dC, dI) (va_A (wl_fX_cellsOf cI cZ cJ cQ) sz) (wl_fX_cellsOf cI cZ cJ cQ)) (va_A (wl_fX_cellsOf cI cZ cJ cQ) sz)) 0 0 (va_A (wl_fX_cellsOf cI cZ cJ cQ) sz) := by
  refine wh_ofWl (lv := [(0, .int x0), (1, .int x1)]) RX9 (by decide) rfl rfl (Nat.le_of_ble_eq_true rfl) rfl ?_
  intro p e s m below meth c A QQ hx hb hml hown hts hP hK hN hD hA hret ls hl
  have hS : va_S A s.heap s.heap [] := va_S.rf
  unfold fX_cellsOf at hf
  refine lv_lconst (v := 0) hx hb dX9_cellsOf_0 (by decide) ?_
  refine lv_lstore_n (lv' := [(2, .long (0 : Int64)), (0, .int x0), (1, .int x1)]) hx hb dX9_cellsOf_1 rfl hl (by decide) rfl (fun ls hl => ?_)
  refine lv_iconst (v := 0) hx hb dX9_cellsOf_2 (by decide) ?_
  refine lv_istore (lv' := [(4, .int (0 : Int32)), (2, .long (0 : Int64)), (0, .int x0), (1, .int x1)]) hx hb dX9_cellsOf_3 hl (by decide) rfl (fun ls hl => ?_)
  obtain ⟨r4, h_r4, hf⟩ := hf_bind hf
  have hE_1 : ∀ (H : Heap) (locs : List Loc) (ls : Array Slot), lv_has ls 5 [(2, .long r4.1)] → va_P (dC, dI) vwCl (wl_fX_cellsOf cI cZ cJ cQ) H → va_D A (wl_fX_cellsOf cI cZ cJ cQ) → va_S A s.heap H locs → W p l e ({ frames := 1, cells := 0, slots := 0, locals := 23 } : Room) s m [.int x0, .int x1].toArray below meth c H locs 0 0 QQ (F0 m 40 ls []) := by
    intro H locs ls hl hP hD hS
    refine lv_lload_n hx hb dX9_cellsOf_40 rfl (lv_at hl 0 rfl) ?_
    obtain rfl := Option.some.inj hf
    exact hret _ _ _ _ hP hD hS dX9_cellsOf_41
  have hL_2 : ∀ (N : Nat) (l2_3 : Int64) (l4_4 : Int32), fX_cellsOf_L5 F x0 x1 N l2_3 l4_4 = some r4 → ∀ (H : Heap) (locs : List Loc) (ls : Array Slot), lv_has ls 5 [(0, .int x0), (1, .int x1), (2, .long l2_3), (4, .int l4_4)] → va_P (dC, dI) vwCl (wl_fX_cellsOf cI cZ cJ cQ) H → va_D A (wl_fX_cellsOf cI cZ cJ cQ) → va_S A s.heap H locs → W p l e ({ frames := 1, cells := 0, slots := 0, locals := 23 } : Room) s m [.int x0, .int x1].toArray below meth c H locs 0 0 QQ (F0 m 5 ls []) := by
    intro N
    induction N with
    | zero => intro l2_3 l4_4 hf; exact nomatch (show none = some _ from hf)
    | succ N ih =>
      intro l2_3 l4_4 hf H locs ls hl hP hD hS
      rw [fX_cellsOf_L5] at hf
      refine lv_iload hx hb dX9_cellsOf_5 (lv_at hl 3 rfl) ?_
      refine lv_bipush (v := 42) hx hb dX9_cellsOf_7 (by decide) ?_
      refine lv_icmp_ge (tgt := 40) hx hb dX9_cellsOf_9 (by decide) (fun cc => ?_) (fun cc => ?_)
      · replace hf := hf_pos cc hf
        obtain rfl := Option.some.inj hf
        exact hE_1 _ _ _ (lv_sub hl [2] rfl) hP hD hS
      · replace hf := hf_neg cc hf
        refine lv_lload_n hx hb dX9_cellsOf_12 rfl (lv_at hl 2 rfl) ?_
        refine lv_iload hx hb dX9_cellsOf_13 (lv_at hl 3 rfl) ?_
        refine lv_iload_n hx hb dX9_cellsOf_15 rfl (lv_at hl 0 rfl) ?_
        refine lv_iload_n hx hb dX9_cellsOf_16 rfl (lv_at hl 1 rfl) ?_
        obtain ⟨s1, h_s1, hf⟩ := hf_bind hf
        refine wh_calli (D := (dC, dI)) (ws' := (wl_fX_cellsOf cI cZ cJ cQ)) (va_runS (As := [.int l4_4, .int x0, .int x1]) (rest := [.long l2_3]) ⟨hx, hb, hml, hown, hts⟩ (c_fX_isInside l dC dI cI cZ cJ cQ _ h_s1) (va_cwS 3 hts gX9_cellsOf_X9_isInside rfl rfl rfl (by decide +kernel) ⟨Nat.le_of_ble_eq_true rfl, Nat.le_of_ble_eq_true rfl⟩) (wh_preS hK hN hP hD [] rfl rfl) rfl rfl hl.1 rfl (lv_room (Nat.le_of_ble_eq_true rfl)) dX9_cellsOf_17 ⟨Nat.le_refl _, Nat.le_refl _⟩) hP hD hS hA [] [] [] rfl rfl rfl rfl (fun H locs hP hD hS => ?_)
        obtain ⟨j3, h_j3, hf⟩ := hf_bind hf
        have hJ_5 : ∀ (H : Heap) (locs : List Loc) (ls : Array Slot), lv_has ls 5 [(0, .int x0), (1, .int x1), (4, .int l4_4)] → va_P (dC, dI) vwCl (wl_fX_cellsOf cI cZ cJ cQ) H → va_D A (wl_fX_cellsOf cI cZ cJ cQ) → va_S A s.heap H locs → W p l e ({ frames := 1, cells := 0, slots := 0, locals := 23 } : Room) s m [.int x0, .int x1].toArray below meth c H locs 0 0 QQ (F0 m 32 ls [.long j3, .long l2_3]) := by
          intro H locs ls hl hP hD hS
          refine lv_lor hx hb dX9_cellsOf_32 ?_
          refine lv_lstore_n (lv' := [(2, .long (l2_3 ||| j3)), (0, .int x0), (1, .int x1), (4, .int l4_4)]) hx hb dX9_cellsOf_33 rfl hl (by decide) rfl (fun ls hl => ?_)
          refine lv_iinc (v := (l4_4 + (1 : Int32))) (lv' := [(4, .int (l4_4 + (1 : Int32))), (2, .long (l2_3 ||| j3)), (0, .int x0), (1, .int x1)]) hx hb dX9_cellsOf_34 hl (k := 3) rfl rfl (by decide) rfl (fun ls hl => ?_)
          refine lv_goto (tgt := 5) hx hb dX9_cellsOf_37 (by decide) ?_
          exact ih _ _ hf _ _ _ (lv_sub hl [2, 3, 1, 0] rfl) hP hD hS
        clear hf
        have hf := h_j3
        clear h_j3
        refine lv_if_eq (tgt := 31) hx hb dX9_cellsOf_20 (by decide) (fun cc => ?_) (fun cc => ?_)
        · replace hf := hf_pos cc hf
          refine lv_lconst (v := 0) hx hb dX9_cellsOf_31 (by decide) ?_
          obtain rfl := Option.some.inj hf
          exact hJ_5 _ _ _ (lv_sub hl [0, 1, 3] rfl) hP hD hS
        · replace hf := hf_neg cc hf
          refine lv_iload hx hb dX9_cellsOf_23 (lv_at hl 3 rfl) ?_
          obtain ⟨s2, h_s2, hf⟩ := hf_bind hf
          refine wh_calll (D := (dC, dI)) (ws' := (wl_fX_cellsOf cI cZ cJ cQ)) (va_runS (As := [.int l4_4]) (rest := [.long l2_3]) ⟨hx, hb, hml, hown, hts⟩ (c_fX_bit l dC dI cI cZ cJ cQ _ h_s2) (va_cwS 1 hts gX9_cellsOf_X9_bit rfl rfl rfl (by decide +kernel) ⟨Nat.le_of_ble_eq_true rfl, Nat.le_of_ble_eq_true rfl⟩) (wh_preS hK hN hP hD [] rfl rfl) rfl rfl hl.1 rfl (lv_room (Nat.le_of_ble_eq_true rfl)) dX9_cellsOf_25 ⟨Nat.le_refl _, Nat.le_refl _⟩) hP hD hS hA [] [] [] rfl rfl rfl rfl (fun H locs hP hD hS => ?_)
          refine lv_goto (tgt := 32) hx hb dX9_cellsOf_28 (by decide) ?_
          obtain rfl := Option.some.inj hf
          exact hJ_5 _ _ _ (lv_sub hl [0, 1, 3] rfl) hP hD hS
  exact hL_2 _ _ _ h_r4 _ _ _ (lv_sub hl [2, 3, 1, 0] rfl) hP hD hS
set_option maxHeartbeats 4000000 in
set_option maxRecDepth 100000 in
theorem c_fX_has (l : Launch) (dC : Nat → ClassId) (dI : Nat → Nat → Nat) (cI cZ cJ cQ : ClassId) (sz : Nat) {x0 : Int64} {x1 : Int32} {out : Int32} (hf : fX_has x0 x1 = some out) : Met l yX9_has wsX9_has ({ frames := 1, cells := 0, slots := 0, locals := 20 } : Room) (va_Pc [.long x0, .int x1] (wlP (dC, dI) (wlT cI cZ cJ cQ) (wl_fX_has cI cZ cJ cQ) sz)) (va_Qi (fun (v : Int32) (_ : Unit) => v = out) (wlQ (dC, dI) (va_A (wl_fX_has cI cZ cJ cQ) sz) (wl_fX_has cI cZ cJ cQ)) (va_A (wl_fX_has cI cZ cJ cQ) sz)) 0 0 (va_A (wl_fX_has cI cZ cJ cQ) sz) := by
  refine wh_ofWz (lv := [(0, .long x0), (2, .int x1)]) RX9 (by decide) rfl rfl (Nat.le_of_ble_eq_true rfl) rfl ?_
  intro p e s m below meth c A QQ hx hb hml hown hts hP hK hN hD hA hret ls hl
  have hS : va_S A s.heap s.heap [] := va_S.rf
  unfold fX_has at hf
  refine lv_lload_n hx hb dX9_has_0 rfl (lv_at hl 0 rfl) ?_
  refine lv_iload_n hx hb dX9_has_1 rfl (lv_at hl 1 rfl) ?_
  obtain ⟨s1, h_s1, hf⟩ := hf_bind hf
  refine wh_calll (D := (dC, dI)) (ws' := (wl_fX_has cI cZ cJ cQ)) (va_runS (As := [.int x1]) (rest := [.long x0]) ⟨hx, hb, hml, hown, hts⟩ (c_fX_bit l dC dI cI cZ cJ cQ _ h_s1) (va_cwS 1 hts gX9_has_X9_bit rfl rfl rfl (by decide +kernel) ⟨Nat.le_of_ble_eq_true rfl, Nat.le_of_ble_eq_true rfl⟩) (wh_preS hK hN hP hD [] rfl rfl) rfl rfl hl.1 rfl (lv_room (Nat.le_of_ble_eq_true rfl)) dX9_has_2 ⟨Nat.le_refl _, Nat.le_refl _⟩) hP hD hS hA [] [] [] rfl rfl rfl rfl (fun H locs hP hD hS => ?_)
  refine lv_land hx hb dX9_has_5 ?_
  refine lv_lconst (v := 0) hx hb dX9_has_6 (by decide) ?_
  refine W.lcmp hx hb dX9_has_7 ?_
  refine lv_if_eq (tgt := 15) hx hb dX9_has_8 (by decide) (fun cc => ?_) (fun cc => ?_)
  · replace hf := hf_pos ((lg_cmp_eq _ _).mp cc) hf
    refine lv_iconst (v := 0) hx hb dX9_has_15 (by decide) ?_
    obtain rfl := Option.some.inj hf
    exact hret _ _ _ _ (by decide) hP hD hS dX9_has_16
  · replace hf := hf_neg (mt (lg_cmp_eq _ _).mpr cc) hf
    refine lv_iconst (v := 1) hx hb dX9_has_11 (by decide) ?_
    refine lv_goto (tgt := 16) hx hb dX9_has_12 (by decide) ?_
    obtain rfl := Option.some.inj hf
    exact hret _ _ _ _ (by decide) hP hD hS dX9_has_16
set_option maxHeartbeats 4000000 in
set_option maxRecDepth 100000 in
theorem c_fBoard_sumIn (l : Launch) (dC : Nat → ClassId) (dI : Nat → Nat → Nat) (cI cZ cJ cQ : ClassId) (a_0 a_0number a_0inField a_0first a_0last : Nat) (sz : Nat) {F : Nat} {x1 : Int64} {number_0 : Nat → Int32} {out : Int32} (hf : fBoard_sumIn F x1 number_0 = some out) : Met l yX0_sumIn wsX0_sumIn ({ frames := 2, cells := 0, slots := 0, locals := 42 } : Room) (va_Pc [.ref a_0, .long x1] (wlP (dC, dI) (wlT cI cZ cJ cQ) (wl_fBoard_sumIn cI cZ cJ cQ a_0 a_0number a_0inField a_0first a_0last number_0) sz)) (va_Qi (fun (v : Int32) (_ : Unit) => v = out) (wlQ (dC, dI) (va_A (wl_fBoard_sumIn cI cZ cJ cQ a_0 a_0number a_0inField a_0first a_0last number_0) sz) (wl_fBoard_sumIn cI cZ cJ cQ a_0 a_0number a_0inField a_0first a_0last number_0)) (va_A (wl_fBoard_sumIn cI cZ cJ cQ a_0 a_0number a_0inField a_0first a_0last number_0) sz)) 0 0 (va_A (wl_fBoard_sumIn cI cZ cJ cQ a_0 a_0number a_0inField a_0first a_0last number_0) sz) := by
  refine wh_ofWi (lv := [(0, .ref a_0), (1, .long x1)]) RX0 (by decide) rfl rfl (Nat.le_of_ble_eq_true rfl) rfl ?_
  intro p e s m below meth c A QQ hx hb hml hown hts hP hK hN hD hA hret ls hl
  have hS : va_S A s.heap s.heap [] := va_S.rf
  have hiX0 : ∀ w ∈ wsX00, w ∈ wsX0_sumIn := (fun _ h => List.mem_cons_of_mem _ (List.mem_append_right _ (h)))
  unfold fBoard_sumIn at hf
  refine lv_iconst (v := 0) hx hb dX0_sumIn_0 (by decide) ?_
  refine lv_istore_n (lv' := [(3, .int (0 : Int32)), (0, .ref a_0), (1, .long x1)]) hx hb dX0_sumIn_1 rfl hl (by decide) rfl (fun ls hl => ?_)
  refine lv_iconst (v := 0) hx hb dX0_sumIn_2 (by decide) ?_
  refine lv_istore (lv' := [(4, .int (0 : Int32)), (3, .int (0 : Int32)), (0, .ref a_0), (1, .long x1)]) hx hb dX0_sumIn_3 hl (by decide) rfl (fun ls hl => ?_)
  obtain ⟨r4, h_r4, hf⟩ := hf_bind hf
  have hE_1 : ∀ (H : Heap) (locs : List Loc) (ls : Array Slot), lv_has ls 5 [(3, .int r4.1)] → va_P (dC, dI) vwCl (wl_fBoard_sumIn cI cZ cJ cQ a_0 a_0number a_0inField a_0first a_0last number_0) H → va_D A (wl_fBoard_sumIn cI cZ cJ cQ a_0 a_0number a_0inField a_0first a_0last number_0) → va_S A s.heap H locs → W p l e ({ frames := 2, cells := 0, slots := 0, locals := 42 } : Room) s m [.ref a_0, .long x1].toArray below meth c H locs 0 0 QQ (F0 m 41 ls []) := by
    intro H locs ls hl hP hD hS
    refine lv_iload_n hx hb dX0_sumIn_41 rfl (lv_at hl 0 rfl) ?_
    obtain rfl := Option.some.inj hf
    exact hret _ _ _ _ hP hD hS dX0_sumIn_42
  have hL_2 : ∀ (N : Nat) (l3_3 : Int32) (l4_4 : Int32), fBoard_sumIn_L5 F x1 number_0 N l3_3 l4_4 = some r4 → ∀ (H : Heap) (locs : List Loc) (ls : Array Slot), lv_has ls 5 [(0, .ref a_0), (1, .long x1), (3, .int l3_3), (4, .int l4_4)] → va_P (dC, dI) vwCl (wl_fBoard_sumIn cI cZ cJ cQ a_0 a_0number a_0inField a_0first a_0last number_0) H → va_D A (wl_fBoard_sumIn cI cZ cJ cQ a_0 a_0number a_0inField a_0first a_0last number_0) → va_S A s.heap H locs → W p l e ({ frames := 2, cells := 0, slots := 0, locals := 42 } : Room) s m [.ref a_0, .long x1].toArray below meth c H locs 0 0 QQ (F0 m 5 ls []) := by
    intro N
    induction N with
    | zero => intro l3_3 l4_4 hf; exact nomatch (show none = some _ from hf)
    | succ N ih =>
      intro l3_3 l4_4 hf H locs ls hl hP hD hS
      rw [fBoard_sumIn_L5] at hf
      refine lv_iload hx hb dX0_sumIn_5 (lv_at hl 3 rfl) ?_
      refine lv_bipush (v := 42) hx hb dX0_sumIn_7 (by decide) ?_
      refine lv_icmp_ge (tgt := 41) hx hb dX0_sumIn_9 (by decide) (fun cc => ?_) (fun cc => ?_)
      · replace hf := hf_pos cc hf
        obtain rfl := Option.some.inj hf
        exact hE_1 _ _ _ (lv_sub hl [2] rfl) hP hD hS
      · replace hf := hf_neg cc hf
        refine lv_iload_n hx hb dX0_sumIn_12 rfl (lv_at hl 2 rfl) ?_
        refine lv_lload_n hx hb dX0_sumIn_13 rfl (lv_at hl 1 rfl) ?_
        refine lv_iload hx hb dX0_sumIn_14 (lv_at hl 3 rfl) ?_
        obtain ⟨s1, h_s1, hf⟩ := hf_bind hf
        refine wh_calli (D := (dC, dI)) (ws' := (wl_fBoard_sumIn cI cZ cJ cQ a_0 a_0number a_0inField a_0first a_0last number_0)) (va_runSN (As := [.long x1, .int l4_4]) (rest := [.int l3_3]) ⟨hx, hb, hml, hown, hts⟩ (c_fX_has l dC dI cI cZ cJ cQ _ h_s1) ⟨va_cnB 2 hts gX0_sumIn_X9_has_n57 rfl rfl rfl (hN (RX0, 57, yX9_has) (List.mem_of_getElem? (i := 15) rfl)) (hts (.initialized RX9) (List.mem_cons_of_mem _ (List.mem_append_left _ (List.mem_of_getElem? (i := 2) rfl)))) (by decide +kernel) ⟨Nat.le_of_ble_eq_true rfl, Nat.le_of_ble_eq_true rfl⟩, (hts (.static yX9_has) (List.mem_cons_of_mem _ (List.mem_append_left _ (List.mem_of_getElem? (i := 1) rfl)))), trivial⟩ (wh_preS hK hN hP hD [] rfl rfl) rfl rfl hl.1 rfl (lv_room (Nat.le_of_ble_eq_true rfl)) dX0_sumIn_16 ⟨Nat.le_refl _, Nat.le_refl _⟩) hP hD hS hA [] [0, 1] [0, 1] rfl rfl rfl rfl (fun H locs hP hD hS => ?_)
        obtain ⟨j3, h_j3, hf⟩ := hf_bind hf
        have hJ_5 : ∀ (H : Heap) (locs : List Loc) (ls : Array Slot), lv_has ls 5 [(0, .ref a_0), (1, .long x1), (4, .int l4_4)] → va_P (dC, dI) vwCl (wl_fBoard_sumIn cI cZ cJ cQ a_0 a_0number a_0inField a_0first a_0last number_0) H → va_D A (wl_fBoard_sumIn cI cZ cJ cQ a_0 a_0number a_0inField a_0first a_0last number_0) → va_S A s.heap H locs → W p l e ({ frames := 2, cells := 0, slots := 0, locals := 42 } : Room) s m [.ref a_0, .long x1].toArray below meth c H locs 0 0 QQ (F0 m 33 ls [.int j3, .int l3_3]) := by
          intro H locs ls hl hP hD hS
          refine lv_iadd hx hb dX0_sumIn_33 ?_
          refine lv_istore_n (lv' := [(3, .int (l3_3 + j3)), (0, .ref a_0), (1, .long x1), (4, .int l4_4)]) hx hb dX0_sumIn_34 rfl hl (by decide) rfl (fun ls hl => ?_)
          refine lv_iinc (v := (l4_4 + (1 : Int32))) (lv' := [(4, .int (l4_4 + (1 : Int32))), (3, .int (l3_3 + j3)), (0, .ref a_0), (1, .long x1)]) hx hb dX0_sumIn_35 hl (k := 3) rfl rfl (by decide) rfl (fun ls hl => ?_)
          refine lv_goto (tgt := 5) hx hb dX0_sumIn_38 (by decide) ?_
          exact ih _ _ hf _ _ _ (lv_sub hl [2, 3, 1, 0] rfl) hP hD hS
        clear hf
        have hf := h_j3
        clear h_j3
        refine lv_if_eq (tgt := 32) hx hb dX0_sumIn_19 (by decide) (fun cc => ?_) (fun cc => ?_)
        · replace hf := hf_pos cc hf
          refine lv_iconst (v := 0) hx hb dX0_sumIn_32 (by decide) ?_
          obtain rfl := Option.some.inj hf
          exact hJ_5 _ _ _ (lv_sub hl [0, 1, 3] rfl) hP hD hS
        · replace hf := hf_neg cc hf
          refine lv_aload_n hx hb dX0_sumIn_22 rfl (lv_at hl 0 rfl) ?_
          refine va_get (D := (dC, dI)) (ci := 0) (C := RX0) (T := TX0) (N := 4) hx hb hts hiX0 hown hK hP 0 rfl rfl 0 (by decide) (hts (.fieldLink RX0 9 "PaddockFields$Board" "number" "[I") (List.mem_cons_of_mem _ (List.mem_append_left _ (List.mem_of_getElem? (i := 0) rfl)))) (fun _ h9 => h9) rfl dX0_sumIn_23 ?_
          refine lv_iload hx hb dX0_sumIn_26 (lv_at hl 3 rfl) ?_
          obtain ⟨v2, h_v2, hf⟩ := hf_bind hf
          refine wh_ldI (D := (dC, dI)) hx hb hK hP 1 0 rfl rfl h_v2 dX0_sumIn_28 ?_
          refine lv_goto (tgt := 33) hx hb dX0_sumIn_29 (by decide) ?_
          obtain rfl := Option.some.inj hf
          exact hJ_5 _ _ _ (lv_sub hl [0, 1, 3] rfl) hP hD hS
  exact hL_2 _ _ _ h_r4 _ _ _ (lv_sub hl [2, 3, 1, 0] rfl) hP hD hS
set_option maxHeartbeats 4000000 in
set_option maxRecDepth 100000 in
theorem c_fX_rowsOf (l : Launch) (dC : Nat → ClassId) (dI : Nat → Nat → Nat) (cI cZ cJ cQ : ClassId) (sz : Nat) {x0 : Int32} {x1 : Int32} {out : Int32} (hf : fX_rowsOf x0 x1 = some out) : Met l yX9_rowsOf wsX9_rowsOf ({ frames := 0, cells := 0, slots := 0, locals := 0 } : Room) (va_Pc [.int x0, .int x1] (wlP (dC, dI) (wlT cI cZ cJ cQ) (wl_fX_rowsOf cI cZ cJ cQ) sz)) (va_Qi (fun (v : Int32) (_ : Unit) => v = out) (wlQ (dC, dI) (va_A (wl_fX_rowsOf cI cZ cJ cQ) sz) (wl_fX_rowsOf cI cZ cJ cQ)) (va_A (wl_fX_rowsOf cI cZ cJ cQ) sz)) 0 0 (va_A (wl_fX_rowsOf cI cZ cJ cQ) sz) := by
  refine wh_ofWi (lv := [(0, .int x0), (1, .int x1)]) RX9 (by decide) rfl rfl (Nat.le_of_ble_eq_true rfl) rfl ?_
  intro p e s m below meth c A QQ hx hb hml hown hts hP hK hN hD hA hret ls hl
  have hS : va_S A s.heap s.heap [] := va_S.rf
  unfold fX_rowsOf at hf
  refine lv_iload_n hx hb dX9_rowsOf_0 rfl (lv_at hl 1 rfl) ?_
  refine lv_bipush (v := 7) hx hb dX9_rowsOf_1 (by decide) ?_
  refine lv_idiv hx hb dX9_rowsOf_3 (by decide) ?_
  refine lv_iload_n hx hb dX9_rowsOf_4 rfl (lv_at hl 0 rfl) ?_
  refine lv_bipush (v := 7) hx hb dX9_rowsOf_5 (by decide) ?_
  refine lv_idiv hx hb dX9_rowsOf_7 (by decide) ?_
  refine lv_isub hx hb dX9_rowsOf_8 ?_
  refine lv_iconst (v := 1) hx hb dX9_rowsOf_9 (by decide) ?_
  refine lv_iadd hx hb dX9_rowsOf_10 ?_
  obtain rfl := Option.some.inj hf
  exact hret _ _ _ _ hP hD hS dX9_rowsOf_11
set_option maxHeartbeats 4000000 in
set_option maxRecDepth 100000 in
theorem c_fX_columnsOf (l : Launch) (dC : Nat → ClassId) (dI : Nat → Nat → Nat) (cI cZ cJ cQ : ClassId) (sz : Nat) {x0 : Int32} {x1 : Int32} {out : Int32} (hf : fX_columnsOf x0 x1 = some out) : Met l yX9_columnsOf wsX9_columnsOf ({ frames := 0, cells := 0, slots := 0, locals := 0 } : Room) (va_Pc [.int x0, .int x1] (wlP (dC, dI) (wlT cI cZ cJ cQ) (wl_fX_columnsOf cI cZ cJ cQ) sz)) (va_Qi (fun (v : Int32) (_ : Unit) => v = out) (wlQ (dC, dI) (va_A (wl_fX_columnsOf cI cZ cJ cQ) sz) (wl_fX_columnsOf cI cZ cJ cQ)) (va_A (wl_fX_columnsOf cI cZ cJ cQ) sz)) 0 0 (va_A (wl_fX_columnsOf cI cZ cJ cQ) sz) := by
  refine wh_ofWi (lv := [(0, .int x0), (1, .int x1)]) RX9 (by decide) rfl rfl (Nat.le_of_ble_eq_true rfl) rfl ?_
  intro p e s m below meth c A QQ hx hb hml hown hts hP hK hN hD hA hret ls hl
  have hS : va_S A s.heap s.heap [] := va_S.rf
  unfold fX_columnsOf at hf
  refine lv_iload_n hx hb dX9_columnsOf_0 rfl (lv_at hl 1 rfl) ?_
  refine lv_bipush (v := 7) hx hb dX9_columnsOf_1 (by decide) ?_
  refine lv_irem hx hb dX9_columnsOf_3 (by decide) ?_
  refine lv_iload_n hx hb dX9_columnsOf_4 rfl (lv_at hl 0 rfl) ?_
  refine lv_bipush (v := 7) hx hb dX9_columnsOf_5 (by decide) ?_
  refine lv_irem hx hb dX9_columnsOf_7 (by decide) ?_
  refine lv_isub hx hb dX9_columnsOf_8 ?_
  refine lv_iconst (v := 1) hx hb dX9_columnsOf_9 (by decide) ?_
  refine lv_iadd hx hb dX9_columnsOf_10 ?_
  obtain rfl := Option.some.inj hf
  exact hret _ _ _ _ hP hD hS dX9_columnsOf_11
set_option maxHeartbeats 4000000 in
set_option maxRecDepth 100000 in
theorem c_fX_sizeOf (l : Launch) (dC : Nat → ClassId) (dI : Nat → Nat → Nat) (cI cZ cJ cQ : ClassId) (sz : Nat) {x0 : Int32} {x1 : Int32} {out : Int32} (hf : fX_sizeOf x0 x1 = some out) : Met l yX9_sizeOf wsX9_sizeOf ({ frames := 1, cells := 0, slots := 0, locals := 21 } : Room) (va_Pc [.int x0, .int x1] (wlP (dC, dI) (wlT cI cZ cJ cQ) (wl_fX_sizeOf cI cZ cJ cQ) sz)) (va_Qi (fun (v : Int32) (_ : Unit) => v = out) (wlQ (dC, dI) (va_A (wl_fX_sizeOf cI cZ cJ cQ) sz) (wl_fX_sizeOf cI cZ cJ cQ)) (va_A (wl_fX_sizeOf cI cZ cJ cQ) sz)) 0 0 (va_A (wl_fX_sizeOf cI cZ cJ cQ) sz) := by
  refine wh_ofWi (lv := [(0, .int x0), (1, .int x1)]) RX9 (by decide) rfl rfl (Nat.le_of_ble_eq_true rfl) rfl ?_
  intro p e s m below meth c A QQ hx hb hml hown hts hP hK hN hD hA hret ls hl
  have hS : va_S A s.heap s.heap [] := va_S.rf
  unfold fX_sizeOf at hf
  refine lv_iload_n hx hb dX9_sizeOf_0 rfl (lv_at hl 0 rfl) ?_
  refine lv_iload_n hx hb dX9_sizeOf_1 rfl (lv_at hl 1 rfl) ?_
  obtain ⟨s1, h_s1, hf⟩ := hf_bind hf
  refine wh_calli (D := (dC, dI)) (ws' := (wl_fX_sizeOf cI cZ cJ cQ)) (va_runS (As := [.int x0, .int x1]) (rest := []) ⟨hx, hb, hml, hown, hts⟩ (c_fX_rowsOf l dC dI cI cZ cJ cQ _ h_s1) (va_cwS 2 hts gX9_sizeOf_X9_rowsOf rfl rfl rfl (by decide +kernel) ⟨Nat.le_of_ble_eq_true rfl, Nat.le_of_ble_eq_true rfl⟩) (wh_preS hK hN hP hD [] rfl rfl) rfl rfl hl.1 rfl (lv_room (Nat.le_of_ble_eq_true rfl)) dX9_sizeOf_2 ⟨Nat.le_refl _, Nat.le_refl _⟩) hP hD hS hA [] [] [] rfl rfl rfl rfl (fun H locs hP hD hS => ?_)
  refine lv_iload_n hx hb dX9_sizeOf_5 rfl (lv_at hl 0 rfl) ?_
  refine lv_iload_n hx hb dX9_sizeOf_6 rfl (lv_at hl 1 rfl) ?_
  obtain ⟨s2, h_s2, hf⟩ := hf_bind hf
  refine wh_calli (D := (dC, dI)) (ws' := (wl_fX_sizeOf cI cZ cJ cQ)) (va_runS (As := [.int x0, .int x1]) (rest := [.int s1]) ⟨hx, hb, hml, hown, hts⟩ (c_fX_columnsOf l dC dI cI cZ cJ cQ _ h_s2) (va_cwS 2 hts gX9_sizeOf_X9_columnsOf rfl rfl rfl (by decide +kernel) ⟨Nat.le_of_ble_eq_true rfl, Nat.le_of_ble_eq_true rfl⟩) (wh_preS hK hN hP hD [] rfl rfl) rfl rfl hl.1 rfl (lv_room (Nat.le_of_ble_eq_true rfl)) dX9_sizeOf_7 ⟨Nat.le_refl _, Nat.le_refl _⟩) hP hD hS hA [] [] [] rfl rfl rfl rfl (fun H locs hP hD hS => ?_)
  refine lv_imul hx hb dX9_sizeOf_10 ?_
  obtain rfl := Option.some.inj hf
  exact hret _ _ _ _ hP hD hS dX9_sizeOf_11
set_option maxHeartbeats 4000000 in
set_option maxRecDepth 100000 in
theorem c_fBoard_reason (l : Launch) (dC : Nat → ClassId) (dI : Nat → Nat → Nat) (cI cZ cJ cQ : ClassId) (a_0 a_0number a_0inField a_0first a_0last : Nat) (sz : Nat) {F : Nat} {x1 : Int32} {x2 : Int32} {number_0 : Nat → Int32} {inField_0 : Nat → Int32} {out : Int32} (hf : fBoard_reason F x1 x2 number_0 inField_0 = some out) : Met l yX0_reason wsX0_reason ({ frames := 3, cells := 0, slots := 0, locals := 66 } : Room) (va_Pc [.ref a_0, .int x1, .int x2] (wlP (dC, dI) (wlT cI cZ cJ cQ) (wl_fBoard_reason cI cZ cJ cQ a_0 a_0number a_0inField a_0first a_0last number_0 inField_0) sz)) (va_Qi (fun (v : Int32) (_ : Unit) => v = out) (wlQ (dC, dI) (va_A (wl_fBoard_reason cI cZ cJ cQ a_0 a_0number a_0inField a_0first a_0last number_0 inField_0) sz) (wl_fBoard_reason cI cZ cJ cQ a_0 a_0number a_0inField a_0first a_0last number_0 inField_0)) (va_A (wl_fBoard_reason cI cZ cJ cQ a_0 a_0number a_0inField a_0first a_0last number_0 inField_0) sz)) 0 0 (va_A (wl_fBoard_reason cI cZ cJ cQ a_0 a_0number a_0inField a_0first a_0last number_0 inField_0) sz) := by
  refine wh_ofWi (lv := [(0, .ref a_0), (1, .int x1), (2, .int x2)]) RX0 (by decide) rfl rfl (Nat.le_of_ble_eq_true rfl) rfl ?_
  intro p e s m below meth c A QQ hx hb hml hown hts hP hK hN hD hA hret ls hl
  have hS : va_S A s.heap s.heap [] := va_S.rf
  unfold fBoard_reason at hf
  refine lv_iload_n hx hb dX0_reason_0 rfl (lv_at hl 1 rfl) ?_
  refine lv_iload_n hx hb dX0_reason_1 rfl (lv_at hl 2 rfl) ?_
  obtain ⟨s1, h_s1, hf⟩ := hf_bind hf
  refine wh_calll (D := (dC, dI)) (ws' := (wl_fBoard_reason cI cZ cJ cQ a_0 a_0number a_0inField a_0first a_0last number_0 inField_0)) (va_runSN (As := [.int x1, .int x2]) (rest := []) ⟨hx, hb, hml, hown, hts⟩ (c_fX_cellsOf l dC dI cI cZ cJ cQ _ h_s1) ⟨va_cnB 2 hts gX0_reason_X9_cellsOf_n72 rfl rfl rfl (hN (RX0, 72, yX9_cellsOf) (List.mem_of_getElem? (i := 16) rfl)) (hts (.initialized RX9) (List.mem_cons_of_mem _ (List.mem_append_left _ (List.mem_append_left _ (List.mem_of_getElem? (i := 1) rfl))))) (by decide +kernel) ⟨Nat.le_of_ble_eq_true rfl, Nat.le_of_ble_eq_true rfl⟩, (hts (.static yX9_cellsOf) (List.mem_cons_of_mem _ (List.mem_append_left _ (List.mem_append_left _ (List.mem_of_getElem? (i := 0) rfl))))), trivial⟩ (wh_preS hK hN hP hD [] rfl rfl) rfl rfl hl.1 rfl (lv_room (Nat.le_of_ble_eq_true rfl)) dX0_reason_2 ⟨Nat.le_refl _, Nat.le_refl _⟩) hP hD hS hA [] [0, 1, 2] [0, 1, 2] rfl rfl rfl rfl (fun H locs hP hD hS => ?_)
  refine lv_lstore_n (lv' := [(3, .long s1), (0, .ref a_0), (1, .int x1), (2, .int x2)]) hx hb dX0_reason_5 rfl hl (by decide) rfl (fun ls hl => ?_)
  refine lv_lload_n hx hb dX0_reason_6 rfl (lv_at hl 0 rfl) ?_
  refine lv_aload_n hx hb dX0_reason_7 rfl (lv_at hl 1 rfl) ?_
  obtain ⟨s2, h_s2, hf⟩ := hf_bind hf
  refine wh_calll (D := (dC, dI)) (ws' := (wl_fBoard_reason cI cZ cJ cQ a_0 a_0number a_0inField a_0first a_0last number_0 inField_0)) (va_runV (As := []) (rest := [.long s1]) ⟨hx, hb, hml, hown, hts⟩ (c_fBoard_cellsWithNumber l dC dI cI cZ cJ cQ a_0 a_0number a_0inField a_0first a_0last _ h_s2) (cwV 0 hts gX0_reason_X0_cellsWithNumber rfl rfl rfl (by decide +kernel) ⟨Nat.le_of_ble_eq_true rfl, Nat.le_of_ble_eq_true rfl⟩) (wh_preV (C := RX0) (T := TX0) (N := 4) hK hN hP hD [0, 1] rfl rfl 0 0 rfl rfl) rfl rfl hl.1 rfl (lv_room (Nat.le_of_ble_eq_true rfl)) dX0_reason_8 ⟨Nat.le_refl _, Nat.le_refl _⟩) hP hD hS hA [0, 1] [2] [1, 2, 0] rfl rfl rfl rfl (fun H locs hP hD hS => ?_)
  refine lv_land hx hb dX0_reason_11 ?_
  refine wh_calli (ws' := (wl_fBoard_reason cI cZ cJ cQ a_0 a_0number a_0inField a_0first a_0last number_0 inField_0)) (va_runS (As := [.long (s1 &&& s2)]) (rest := []) ⟨hx, hb, hml, hown, hts⟩ (c_fJ_bitCount l dC dI cI cZ cJ cQ _ (s1 &&& s2)) (va_cwS 1 hts gX0_reason_J13_bitCount_95d88 rfl rfl rfl (by decide +kernel) ⟨Nat.le_of_ble_eq_true rfl, Nat.le_of_ble_eq_true rfl⟩) (wh_preS hK hN hP hD [] rfl rfl) rfl rfl hl.1 rfl (lv_room (Nat.le_of_ble_eq_true rfl)) dX0_reason_12 ⟨Nat.le_refl _, Nat.le_refl _⟩) hP hD hS hA [] [0, 1, 2] [0, 1, 2] rfl rfl rfl rfl (fun H locs hP hD hS => ?_)
  refine lv_istore (lv' := [(5, .int (fJ_bitCount (s1 &&& s2))), (3, .long s1), (0, .ref a_0), (1, .int x1), (2, .int x2)]) hx hb dX0_reason_15 hl (by decide) rfl (fun ls hl => ?_)
  refine lv_lload_n hx hb dX0_reason_17 rfl (lv_at hl 1 rfl) ?_
  refine lv_aload_n hx hb dX0_reason_18 rfl (lv_at hl 2 rfl) ?_
  obtain ⟨s3, h_s3, hf⟩ := hf_bind hf
  refine wh_calll (D := (dC, dI)) (ws' := (wl_fBoard_reason cI cZ cJ cQ a_0 a_0number a_0inField a_0first a_0last number_0 inField_0)) (va_runV (As := []) (rest := [.long s1]) ⟨hx, hb, hml, hown, hts⟩ (c_fBoard_cellsInFields l dC dI cI cZ cJ cQ a_0 a_0inField a_0number a_0first a_0last _ h_s3) (cwV 0 hts gX0_reason_X0_cellsInFields rfl rfl rfl (by decide +kernel) ⟨Nat.le_of_ble_eq_true rfl, Nat.le_of_ble_eq_true rfl⟩) (wh_preV (C := RX0) (T := TX0) (N := 4) hK hN hP hD [0, 2] rfl rfl 0 0 rfl rfl) rfl rfl hl.1 rfl (lv_room (Nat.le_of_ble_eq_true rfl)) dX0_reason_19 ⟨Nat.le_refl _, Nat.le_refl _⟩) hP hD hS hA [0, 2] [1] [1, 0, 2] rfl rfl rfl rfl (fun H locs hP hD hS => ?_)
  refine lv_land hx hb dX0_reason_22 ?_
  refine lv_lconst (v := 0) hx hb dX0_reason_23 (by decide) ?_
  refine W.lcmp hx hb dX0_reason_24 ?_
  refine lv_if_eq (tgt := 30) hx hb dX0_reason_25 (by decide) (fun cc => ?_) (fun cc => ?_)
  · replace hf := hf_pos ((lg_cmp_eq _ _).mp cc) hf
    refine lv_iload hx hb dX0_reason_30 (lv_at hl 0 rfl) ?_
    refine lv_if_ne (tgt := 37) hx hb dX0_reason_32 (by decide) (fun cc => ?_) (fun cc => ?_)
    · replace hf := hf_pos cc hf
      refine lv_iload hx hb dX0_reason_37 (lv_at hl 0 rfl) ?_
      refine lv_iconst (v := 1) hx hb dX0_reason_39 (by decide) ?_
      refine lv_icmp_le (tgt := 45) hx hb dX0_reason_40 (by decide) (fun cc => ?_) (fun cc => ?_)
      · replace hf := hf_pos cc hf
        refine lv_aload_n hx hb dX0_reason_45 rfl (lv_at hl 2 rfl) ?_
        refine lv_lload_n hx hb dX0_reason_46 rfl (lv_at hl 1 rfl) ?_
        obtain ⟨s4, h_s4, hf⟩ := hf_bind hf
        refine wh_calli (D := (dC, dI)) (ws' := (wl_fBoard_reason cI cZ cJ cQ a_0 a_0number a_0inField a_0first a_0last number_0 inField_0)) (va_runV (As := [.long s1]) (rest := []) ⟨hx, hb, hml, hown, hts⟩ (c_fBoard_sumIn l dC dI cI cZ cJ cQ a_0 a_0number a_0inField a_0first a_0last _ h_s4) (cwV 1 hts gX0_reason_X0_sumIn rfl rfl rfl (by decide +kernel) ⟨Nat.le_of_ble_eq_true rfl, Nat.le_of_ble_eq_true rfl⟩) (wh_preV (C := RX0) (T := TX0) (N := 4) hK hN hP hD [0, 1] rfl rfl 0 0 rfl rfl) rfl rfl hl.1 rfl (lv_room (Nat.le_of_ble_eq_true rfl)) dX0_reason_47 ⟨Nat.le_refl _, Nat.le_refl _⟩) hP hD hS hA [0, 1] [2] [1, 2, 0] rfl rfl rfl rfl (fun H locs hP hD hS => ?_)
        refine lv_iload_n hx hb dX0_reason_50 rfl (lv_at hl 3 rfl) ?_
        refine lv_iload_n hx hb dX0_reason_51 rfl (lv_at hl 4 rfl) ?_
        obtain ⟨s5, h_s5, hf⟩ := hf_bind hf
        refine wh_calli (D := (dC, dI)) (ws' := (wl_fBoard_reason cI cZ cJ cQ a_0 a_0number a_0inField a_0first a_0last number_0 inField_0)) (va_runSN (As := [.int x1, .int x2]) (rest := [.int s4]) ⟨hx, hb, hml, hown, hts⟩ (c_fX_sizeOf l dC dI cI cZ cJ cQ _ h_s5) ⟨va_cnB 2 hts gX0_reason_X9_sizeOf_n29 rfl rfl rfl (hN (RX0, 29, yX9_sizeOf) (List.mem_of_getElem? (i := 12) rfl)) (hts (.initialized RX9) (List.mem_cons_of_mem _ (List.mem_append_left _ (List.mem_append_left _ (List.mem_of_getElem? (i := 1) rfl))))) (by decide +kernel) ⟨Nat.le_of_ble_eq_true rfl, Nat.le_of_ble_eq_true rfl⟩, (hts (.static yX9_sizeOf) (List.mem_cons_of_mem _ (List.mem_append_left _ (List.mem_append_right _ (List.mem_of_getElem? (i := 9) rfl))))), trivial⟩ (wh_preS hK hN hP hD [] rfl rfl) rfl rfl hl.1 rfl (lv_room (Nat.le_of_ble_eq_true rfl)) dX0_reason_52 ⟨Nat.le_refl _, Nat.le_refl _⟩) hP hD hS hA [] [0, 1, 2] [0, 1, 2] rfl rfl rfl rfl (fun H locs hP hD hS => ?_)
        refine lv_icmp_ne (tgt := 62) hx hb dX0_reason_55 (by decide) (fun cc => ?_) (fun cc => ?_)
        · replace hf := hf_pos cc hf
          refine lv_iconst (v := 4) hx hb dX0_reason_62 (by decide) ?_
          obtain rfl := Option.some.inj hf
          exact hret _ _ _ _ hP hD hS dX0_reason_63
        · replace hf := hf_neg (not_not_intro cc) hf
          refine lv_iconst (v := 0) hx hb dX0_reason_58 (by decide) ?_
          refine lv_goto (tgt := 63) hx hb dX0_reason_59 (by decide) ?_
          obtain rfl := Option.some.inj hf
          exact hret _ _ _ _ hP hD hS dX0_reason_63
      · replace hf := hf_neg cc hf
        refine lv_iconst (v := 3) hx hb dX0_reason_43 (by decide) ?_
        obtain rfl := Option.some.inj hf
        exact hret _ _ _ _ hP hD hS dX0_reason_44
    · replace hf := hf_neg (not_not_intro cc) hf
      refine lv_iconst (v := 2) hx hb dX0_reason_35 (by decide) ?_
      obtain rfl := Option.some.inj hf
      exact hret _ _ _ _ hP hD hS dX0_reason_36
  · replace hf := hf_neg (mt (lg_cmp_eq _ _).mpr cc) hf
    refine lv_iconst (v := 1) hx hb dX0_reason_28 (by decide) ?_
    obtain rfl := Option.some.inj hf
    exact hret _ _ _ _ hP hD hS dX0_reason_29
set_option maxHeartbeats 4000000 in
set_option maxRecDepth 100000 in
theorem c_fBoard_copy (l : Launch) (dC : Nat → ClassId) (dI : Nat → Nat → Nat) (cI cZ cJ cQ : ClassId) (a_0 a_1 a_1number a_0number a_1inField a_0inField a_1first a_0first a_1last a_0last : Nat) (sz : Nat) {F : Nat} {number_1 : Nat → Int32} {number_0 : Nat → Int32} {inField_1 : Nat → Int32} {inField_0 : Nat → Int32} {first_1 : Nat → Int32} {first_0 : Nat → Int32} {last_1 : Nat → Int32} {last_0 : Nat → Int32} {out : (Nat → Int32) × (Nat → Int32) × (Nat → Int32) × (Nat → Int32)} (hf : fBoard_copy F number_1 number_0 inField_1 inField_0 first_1 first_0 last_1 last_0 = some out) : Met l yX0_copy wsX0_copy ({ frames := 0, cells := 0, slots := 0, locals := 0 } : Room) (va_Pc [.ref a_0, .ref a_1] (wlP (dC, dI) (wlT cI cZ cJ cQ) (wl_fBoard_copy cI cZ cJ cQ a_0 a_1 a_1number a_0number a_1inField a_0inField a_1first a_0first a_1last a_0last number_1 number_0 inField_1 inField_0 first_1 first_0 last_1 last_0) sz)) (va_Qv (fun (_ : Unit) => True) (wlQ (dC, dI) (va_A (wl_fBoard_copy cI cZ cJ cQ a_0 a_1 a_1number a_0number a_1inField a_0inField a_1first a_0first a_1last a_0last number_1 number_0 inField_1 inField_0 first_1 first_0 last_1 last_0) sz) (wl_fBoard_copy cI cZ cJ cQ a_0 a_1 a_1number a_0number a_1inField a_0inField a_1first a_0first a_1last a_0last number_1 out.1 inField_1 out.2.1 first_1 out.2.2.1 last_1 out.2.2.2)) (va_A (wl_fBoard_copy cI cZ cJ cQ a_0 a_1 a_1number a_0number a_1inField a_0inField a_1first a_0first a_1last a_0last number_1 number_0 inField_1 inField_0 first_1 first_0 last_1 last_0) sz)) 0 0 (va_A (wl_fBoard_copy cI cZ cJ cQ a_0 a_1 a_1number a_0number a_1inField a_0inField a_1first a_0first a_1last a_0last number_1 number_0 inField_1 inField_0 first_1 first_0 last_1 last_0) sz) := by
  refine wh_ofWv (lv := [(0, .ref a_0), (1, .ref a_1)]) RX0 (by decide) rfl rfl (Nat.le_of_ble_eq_true rfl) rfl ?_
  intro p e s m below meth c A QQ hx hb hml hown hts hP hK hN hD hA hret ls hl
  have hS : va_S A s.heap s.heap [] := va_S.rf
  have hiX0 : ∀ w ∈ wsX00, w ∈ wsX0_copy := (fun _ h => List.mem_cons_of_mem _ (List.mem_append_right _ (h)))
  unfold fBoard_copy at hf
  refine lv_aload_n hx hb dX0_copy_0 rfl (lv_at hl 1 rfl) ?_
  refine lv_ifnonnull (tgt := 5) hx hb dX0_copy_1 (by decide) ?_
  refine lv_iconst (v := 0) hx hb dX0_copy_5 (by decide) ?_
  refine lv_istore_n (lv' := [(2, .int (0 : Int32)), (0, .ref a_0), (1, .ref a_1)]) hx hb dX0_copy_6 rfl hl (by decide) rfl (fun ls hl => ?_)
  obtain ⟨r9, h_r9, hf⟩ := hf_bind hf
  have hE_1 : ∀ (H : Heap) (locs : List Loc) (ls : Array Slot), lv_has ls 3 [] → va_P (dC, dI) vwCl (wl_fBoard_copy cI cZ cJ cQ a_0 a_1 a_1number a_0number a_1inField a_0inField a_1first a_0first a_1last a_0last number_1 r9.2.1 inField_1 r9.2.2.1 first_1 r9.2.2.2.1 last_1 r9.2.2.2.2) H → va_D A (wl_fBoard_copy cI cZ cJ cQ a_0 a_1 a_1number a_0number a_1inField a_0inField a_1first a_0first a_1last a_0last number_1 r9.2.1 inField_1 r9.2.2.1 first_1 r9.2.2.2.1 last_1 r9.2.2.2.2) → va_S A s.heap H locs → W p l e ({ frames := 0, cells := 0, slots := 0, locals := 0 } : Room) s m [.ref a_0, .ref a_1].toArray below meth c H locs 0 0 QQ (F0 m 67 ls []) := by
    intro H locs ls hl hP hD hS
    obtain rfl := Option.some.inj hf
    exact hret _ _ _ _ hP hD hS dX0_copy_67
  have hL_2 : ∀ (N : Nat) (l2_3 : Int32) (number_0_4 : Nat → Int32) (inField_0_5 : Nat → Int32) (first_0_6 : Nat → Int32) (last_0_7 : Nat → Int32), fBoard_copy_L7 F number_1 inField_1 first_1 last_1 N l2_3 number_0_4 inField_0_5 first_0_6 last_0_7 = some r9 → ∀ (H : Heap) (locs : List Loc) (ls : Array Slot), lv_has ls 3 [(0, .ref a_0), (1, .ref a_1), (2, .int l2_3)] → va_P (dC, dI) vwCl (wl_fBoard_copy cI cZ cJ cQ a_0 a_1 a_1number a_0number a_1inField a_0inField a_1first a_0first a_1last a_0last number_1 number_0_4 inField_1 inField_0_5 first_1 first_0_6 last_1 last_0_7) H → va_D A (wl_fBoard_copy cI cZ cJ cQ a_0 a_1 a_1number a_0number a_1inField a_0inField a_1first a_0first a_1last a_0last number_1 number_0_4 inField_1 inField_0_5 first_1 first_0_6 last_1 last_0_7) → va_S A s.heap H locs → W p l e ({ frames := 0, cells := 0, slots := 0, locals := 0 } : Room) s m [.ref a_0, .ref a_1].toArray below meth c H locs 0 0 QQ (F0 m 7 ls []) := by
    intro N
    induction N with
    | zero => intro l2_3 number_0_4 inField_0_5 first_0_6 last_0_7 hf; exact nomatch (show none = some _ from hf)
    | succ N ih =>
      intro l2_3 number_0_4 inField_0_5 first_0_6 last_0_7 hf H locs ls hl hP hD hS
      rw [fBoard_copy_L7] at hf
      refine lv_iload_n hx hb dX0_copy_7 rfl (lv_at hl 2 rfl) ?_
      refine lv_bipush (v := 42) hx hb dX0_copy_8 (by decide) ?_
      refine lv_icmp_ge (tgt := 67) hx hb dX0_copy_10 (by decide) (fun cc => ?_) (fun cc => ?_)
      · replace hf := hf_pos cc hf
        obtain rfl := Option.some.inj hf
        exact hE_1 _ _ _ (lv_sub hl [] rfl) hP hD hS
      · replace hf := hf_neg cc hf
        refine lv_aload_n hx hb dX0_copy_13 rfl (lv_at hl 0 rfl) ?_
        refine va_get (D := (dC, dI)) (ci := 0) (C := RX0) (T := TX0) (N := 4) hx hb hts hiX0 hown hK hP 0 rfl rfl 0 (by decide) (hts (.fieldLink RX0 9 "PaddockFields$Board" "number" "[I") (List.mem_cons_of_mem _ (List.mem_append_left _ (List.mem_of_getElem? (i := 0) rfl)))) (fun _ h9 => h9) rfl dX0_copy_14 ?_
        refine lv_iload_n hx hb dX0_copy_17 rfl (lv_at hl 2 rfl) ?_
        refine lv_aload_n hx hb dX0_copy_18 rfl (lv_at hl 1 rfl) ?_
        refine va_get (D := (dC, dI)) (ci := 0) (C := RX0) (T := TX0) (N := 4) hx hb hts hiX0 hown hK hP 1 rfl rfl 0 (by decide) (hts (.fieldLink RX0 9 "PaddockFields$Board" "number" "[I") (List.mem_cons_of_mem _ (List.mem_append_left _ (List.mem_of_getElem? (i := 0) rfl)))) (fun _ h9 => h9) rfl dX0_copy_19 ?_
        refine lv_iload_n hx hb dX0_copy_22 rfl (lv_at hl 2 rfl) ?_
        obtain ⟨v1, h_v1, hf⟩ := hf_bind hf
        refine wh_ldI (D := (dC, dI)) hx hb hK hP 2 0 rfl rfl h_v1 dX0_copy_23 ?_
        obtain ⟨w2, h_w2, hf⟩ := hf_bind hf
        refine wh_stI (D := (dC, dI)) (ws' := (wl_fBoard_copy cI cZ cJ cQ a_0 a_1 a_1number a_0number a_1inField a_0inField a_1first a_0first a_1last a_0last number_1 w2 inField_1 inField_0_5 first_1 first_0_6 last_1 last_0_7)) hx hb hK hP hD hS 3 0 rfl rfl rfl h_w2 dX0_copy_24 (fun H locs hP hD hS => ?_)
        refine lv_aload_n hx hb dX0_copy_25 rfl (lv_at hl 0 rfl) ?_
        refine va_get (D := (dC, dI)) (ci := 0) (C := RX0) (T := TX0) (N := 4) hx hb hts hiX0 hown hK hP 0 rfl rfl 1 (by decide) (hts (.fieldLink RX0 15 "PaddockFields$Board" "inField" "[Z") (List.mem_cons_of_mem _ (List.mem_append_left _ (List.mem_of_getElem? (i := 1) rfl)))) (fun _ h9 => h9) rfl dX0_copy_26 ?_
        refine lv_iload_n hx hb dX0_copy_29 rfl (lv_at hl 2 rfl) ?_
        refine lv_aload_n hx hb dX0_copy_30 rfl (lv_at hl 1 rfl) ?_
        refine va_get (D := (dC, dI)) (ci := 0) (C := RX0) (T := TX0) (N := 4) hx hb hts hiX0 hown hK hP 1 rfl rfl 1 (by decide) (hts (.fieldLink RX0 15 "PaddockFields$Board" "inField" "[Z") (List.mem_cons_of_mem _ (List.mem_append_left _ (List.mem_of_getElem? (i := 1) rfl)))) (fun _ h9 => h9) rfl dX0_copy_31 ?_
        refine lv_iload_n hx hb dX0_copy_34 rfl (lv_at hl 2 rfl) ?_
        obtain ⟨v3, h_v3, hf⟩ := hf_bind hf
        refine wh_ldZ (D := (dC, dI)) hx hb hK hP 4 1 rfl rfl h_v3 dX0_copy_35 ?_
        obtain ⟨w4, h_w4, hf⟩ := hf_bind hf
        refine wh_stZ (D := (dC, dI)) (ws' := (wl_fBoard_copy cI cZ cJ cQ a_0 a_1 a_1number a_0number a_1inField a_0inField a_1first a_0first a_1last a_0last number_1 w2 inField_1 w4 first_1 first_0_6 last_1 last_0_7)) hx hb hK hP hD hS 5 1 rfl rfl rfl h_w4 dX0_copy_36 (fun H locs hP hD hS => ?_)
        refine lv_aload_n hx hb dX0_copy_37 rfl (lv_at hl 0 rfl) ?_
        refine va_get (D := (dC, dI)) (ci := 0) (C := RX0) (T := TX0) (N := 4) hx hb hts hiX0 hown hK hP 0 rfl rfl 2 (by decide) (hts (.fieldLink RX0 19 "PaddockFields$Board" "first" "[I") (List.mem_cons_of_mem _ (List.mem_append_left _ (List.mem_of_getElem? (i := 2) rfl)))) (fun _ h9 => h9) rfl dX0_copy_38 ?_
        refine lv_iload_n hx hb dX0_copy_41 rfl (lv_at hl 2 rfl) ?_
        refine lv_aload_n hx hb dX0_copy_42 rfl (lv_at hl 1 rfl) ?_
        refine va_get (D := (dC, dI)) (ci := 0) (C := RX0) (T := TX0) (N := 4) hx hb hts hiX0 hown hK hP 1 rfl rfl 2 (by decide) (hts (.fieldLink RX0 19 "PaddockFields$Board" "first" "[I") (List.mem_cons_of_mem _ (List.mem_append_left _ (List.mem_of_getElem? (i := 2) rfl)))) (fun _ h9 => h9) rfl dX0_copy_43 ?_
        refine lv_iload_n hx hb dX0_copy_46 rfl (lv_at hl 2 rfl) ?_
        obtain ⟨v5, h_v5, hf⟩ := hf_bind hf
        refine wh_ldI (D := (dC, dI)) hx hb hK hP 6 0 rfl rfl h_v5 dX0_copy_47 ?_
        obtain ⟨w6, h_w6, hf⟩ := hf_bind hf
        refine wh_stI (D := (dC, dI)) (ws' := (wl_fBoard_copy cI cZ cJ cQ a_0 a_1 a_1number a_0number a_1inField a_0inField a_1first a_0first a_1last a_0last number_1 w2 inField_1 w4 first_1 w6 last_1 last_0_7)) hx hb hK hP hD hS 7 0 rfl rfl rfl h_w6 dX0_copy_48 (fun H locs hP hD hS => ?_)
        refine lv_aload_n hx hb dX0_copy_49 rfl (lv_at hl 0 rfl) ?_
        refine va_get (D := (dC, dI)) (ci := 0) (C := RX0) (T := TX0) (N := 4) hx hb hts hiX0 hown hK hP 0 rfl rfl 3 (by decide) (hts (.fieldLink RX0 22 "PaddockFields$Board" "last" "[I") (List.mem_cons_of_mem _ (List.mem_append_left _ (List.mem_of_getElem? (i := 3) rfl)))) (fun _ h9 => h9) rfl dX0_copy_50 ?_
        refine lv_iload_n hx hb dX0_copy_53 rfl (lv_at hl 2 rfl) ?_
        refine lv_aload_n hx hb dX0_copy_54 rfl (lv_at hl 1 rfl) ?_
        refine va_get (D := (dC, dI)) (ci := 0) (C := RX0) (T := TX0) (N := 4) hx hb hts hiX0 hown hK hP 1 rfl rfl 3 (by decide) (hts (.fieldLink RX0 22 "PaddockFields$Board" "last" "[I") (List.mem_cons_of_mem _ (List.mem_append_left _ (List.mem_of_getElem? (i := 3) rfl)))) (fun _ h9 => h9) rfl dX0_copy_55 ?_
        refine lv_iload_n hx hb dX0_copy_58 rfl (lv_at hl 2 rfl) ?_
        obtain ⟨v7, h_v7, hf⟩ := hf_bind hf
        refine wh_ldI (D := (dC, dI)) hx hb hK hP 8 0 rfl rfl h_v7 dX0_copy_59 ?_
        obtain ⟨w8, h_w8, hf⟩ := hf_bind hf
        refine wh_stI (D := (dC, dI)) (ws' := (wl_fBoard_copy cI cZ cJ cQ a_0 a_1 a_1number a_0number a_1inField a_0inField a_1first a_0first a_1last a_0last number_1 w2 inField_1 w4 first_1 w6 last_1 w8)) hx hb hK hP hD hS 9 0 rfl rfl rfl h_w8 dX0_copy_60 (fun H locs hP hD hS => ?_)
        refine lv_iinc (v := (l2_3 + (1 : Int32))) (lv' := [(2, .int (l2_3 + (1 : Int32))), (0, .ref a_0), (1, .ref a_1)]) hx hb dX0_copy_61 hl (k := 2) rfl rfl (by decide) rfl (fun ls hl => ?_)
        refine lv_goto (tgt := 7) hx hb dX0_copy_64 (by decide) ?_
        exact ih _ _ _ _ _ hf _ _ _ (lv_sub hl [1, 2, 0] rfl) hP hD hS
  exact hL_2 _ _ _ _ _ _ h_r9 _ _ _ (lv_sub hl [1, 2, 0] rfl) hP hD hS
set_option maxHeartbeats 4000000 in
set_option maxRecDepth 100000 in
theorem c_fBoard_place (l : Launch) (dC : Nat → ClassId) (dI : Nat → Nat → Nat) (cI cZ cJ cQ : ClassId) (a_0 a_0inField a_0first a_0last a_0number : Nat) (sz : Nat) {F : Nat} {x1 : Int32} {x2 : Int32} {inField_0 : Nat → Int32} {first_0 : Nat → Int32} {last_0 : Nat → Int32} {out : (Nat → Int32) × (Nat → Int32) × (Nat → Int32)} (hf : fBoard_place F x1 x2 inField_0 first_0 last_0 = some out) : Met l yX0_place wsX0_place ({ frames := 1, cells := 0, slots := 0, locals := 23 } : Room) (va_Pc [.ref a_0, .int x1, .int x2] (wlP (dC, dI) (wlT cI cZ cJ cQ) (wl_fBoard_place cI cZ cJ cQ a_0 a_0inField a_0first a_0last a_0number inField_0 first_0 last_0) sz)) (va_Qv (fun (_ : Unit) => True) (wlQ (dC, dI) (va_A (wl_fBoard_place cI cZ cJ cQ a_0 a_0inField a_0first a_0last a_0number inField_0 first_0 last_0) sz) (wl_fBoard_place cI cZ cJ cQ a_0 a_0inField a_0first a_0last a_0number out.1 out.2.1 out.2.2)) (va_A (wl_fBoard_place cI cZ cJ cQ a_0 a_0inField a_0first a_0last a_0number inField_0 first_0 last_0) sz)) 0 0 (va_A (wl_fBoard_place cI cZ cJ cQ a_0 a_0inField a_0first a_0last a_0number inField_0 first_0 last_0) sz) := by
  refine wh_ofWv (lv := [(0, .ref a_0), (1, .int x1), (2, .int x2)]) RX0 (by decide) rfl rfl (Nat.le_of_ble_eq_true rfl) rfl ?_
  intro p e s m below meth c A QQ hx hb hml hown hts hP hK hN hD hA hret ls hl
  have hS : va_S A s.heap s.heap [] := va_S.rf
  have hiX0 : ∀ w ∈ wsX00, w ∈ wsX0_place := (fun _ h => List.mem_cons_of_mem _ (List.mem_append_right _ (h)))
  unfold fBoard_place at hf
  refine lv_iconst (v := 0) hx hb dX0_place_0 (by decide) ?_
  refine lv_istore_n (lv' := [(3, .int (0 : Int32)), (0, .ref a_0), (1, .int x1), (2, .int x2)]) hx hb dX0_place_1 rfl hl (by decide) rfl (fun ls hl => ?_)
  obtain ⟨r6, h_r6, hf⟩ := hf_bind hf
  have hE_1 : ∀ (H : Heap) (locs : List Loc) (ls : Array Slot), lv_has ls 4 [] → va_P (dC, dI) vwCl (wl_fBoard_place cI cZ cJ cQ a_0 a_0inField a_0first a_0last a_0number r6.2.1 r6.2.2.1 r6.2.2.2) H → va_D A (wl_fBoard_place cI cZ cJ cQ a_0 a_0inField a_0first a_0last a_0number r6.2.1 r6.2.2.1 r6.2.2.2) → va_S A s.heap H locs → W p l e ({ frames := 1, cells := 0, slots := 0, locals := 23 } : Room) s m [.ref a_0, .int x1, .int x2].toArray below meth c H locs 0 0 QQ (F0 m 44 ls []) := by
    intro H locs ls hl hP hD hS
    obtain rfl := Option.some.inj hf
    exact hret _ _ _ _ hP hD hS dX0_place_44
  have hL_2 : ∀ (N : Nat) (l3_3 : Int32) (inField_0_4 : Nat → Int32) (first_0_5 : Nat → Int32) (last_0_6 : Nat → Int32), fBoard_place_L2 F x1 x2 N l3_3 inField_0_4 first_0_5 last_0_6 = some r6 → ∀ (H : Heap) (locs : List Loc) (ls : Array Slot), lv_has ls 4 [(0, .ref a_0), (1, .int x1), (2, .int x2), (3, .int l3_3)] → va_P (dC, dI) vwCl (wl_fBoard_place cI cZ cJ cQ a_0 a_0inField a_0first a_0last a_0number inField_0_4 first_0_5 last_0_6) H → va_D A (wl_fBoard_place cI cZ cJ cQ a_0 a_0inField a_0first a_0last a_0number inField_0_4 first_0_5 last_0_6) → va_S A s.heap H locs → W p l e ({ frames := 1, cells := 0, slots := 0, locals := 23 } : Room) s m [.ref a_0, .int x1, .int x2].toArray below meth c H locs 0 0 QQ (F0 m 2 ls []) := by
    intro N
    induction N with
    | zero => intro l3_3 inField_0_4 first_0_5 last_0_6 hf; exact nomatch (show none = some _ from hf)
    | succ N ih =>
      intro l3_3 inField_0_4 first_0_5 last_0_6 hf H locs ls hl hP hD hS
      rw [fBoard_place_L2] at hf
      refine lv_iload_n hx hb dX0_place_2 rfl (lv_at hl 3 rfl) ?_
      refine lv_bipush (v := 42) hx hb dX0_place_3 (by decide) ?_
      refine lv_icmp_ge (tgt := 44) hx hb dX0_place_5 (by decide) (fun cc => ?_) (fun cc => ?_)
      · replace hf := hf_pos cc hf
        obtain rfl := Option.some.inj hf
        exact hE_1 _ _ _ (lv_sub hl [] rfl) hP hD hS
      · replace hf := hf_neg cc hf
        refine lv_iload_n hx hb dX0_place_8 rfl (lv_at hl 3 rfl) ?_
        refine lv_iload_n hx hb dX0_place_9 rfl (lv_at hl 1 rfl) ?_
        refine lv_iload_n hx hb dX0_place_10 rfl (lv_at hl 2 rfl) ?_
        obtain ⟨s1, h_s1, hf⟩ := hf_bind hf
        refine wh_calli (D := (dC, dI)) (ws' := (wl_fBoard_place cI cZ cJ cQ a_0 a_0inField a_0first a_0last a_0number inField_0_4 first_0_5 last_0_6)) (va_runSN (As := [.int l3_3, .int x1, .int x2]) (rest := []) ⟨hx, hb, hml, hown, hts⟩ (c_fX_isInside l dC dI cI cZ cJ cQ _ h_s1) ⟨va_cnB 3 hts gX0_place_X9_isInside_n33 rfl rfl rfl (hN (RX0, 33, yX9_isInside) (List.mem_of_getElem? (i := 13) rfl)) (hts (.initialized RX9) (List.mem_cons_of_mem _ (List.mem_append_left _ (List.mem_of_getElem? (i := 4) rfl)))) (by decide +kernel) ⟨Nat.le_of_ble_eq_true rfl, Nat.le_of_ble_eq_true rfl⟩, (hts (.static yX9_isInside) (List.mem_cons_of_mem _ (List.mem_append_left _ (List.mem_of_getElem? (i := 3) rfl)))), trivial⟩ (wh_preS hK hN hP hD [] rfl rfl) rfl rfl hl.1 rfl (lv_room (Nat.le_of_ble_eq_true rfl)) dX0_place_11 ⟨Nat.le_refl _, Nat.le_refl _⟩) hP hD hS hA [] [0, 1, 2, 3] [0, 1, 2, 3] rfl rfl rfl rfl (fun H locs hP hD hS => ?_)
        obtain ⟨j5, h_j5, hf⟩ := hf_bind hf
        have hJ_7 : ∀ (H : Heap) (locs : List Loc) (ls : Array Slot), lv_has ls 4 [(0, .ref a_0), (1, .int x1), (2, .int x2), (3, .int l3_3)] → va_P (dC, dI) vwCl (wl_fBoard_place cI cZ cJ cQ a_0 a_0inField a_0first a_0last a_0number j5.1 j5.2.1 j5.2.2) H → va_D A (wl_fBoard_place cI cZ cJ cQ a_0 a_0inField a_0first a_0last a_0number j5.1 j5.2.1 j5.2.2) → va_S A s.heap H locs → W p l e ({ frames := 1, cells := 0, slots := 0, locals := 23 } : Room) s m [.ref a_0, .int x1, .int x2].toArray below meth c H locs 0 0 QQ (F0 m 38 ls []) := by
          intro H locs ls hl hP hD hS
          refine lv_iinc (v := (l3_3 + (1 : Int32))) (lv' := [(3, .int (l3_3 + (1 : Int32))), (0, .ref a_0), (1, .int x1), (2, .int x2)]) hx hb dX0_place_38 hl (k := 3) rfl rfl (by decide) rfl (fun ls hl => ?_)
          refine lv_goto (tgt := 2) hx hb dX0_place_41 (by decide) ?_
          exact ih _ _ _ _ hf _ _ _ (lv_sub hl [1, 2, 3, 0] rfl) hP hD hS
        clear hf
        have hf := h_j5
        clear h_j5
        refine lv_if_eq (tgt := 38) hx hb dX0_place_14 (by decide) (fun cc => ?_) (fun cc => ?_)
        · replace hf := hf_pos cc hf
          obtain rfl := Option.some.inj hf
          exact hJ_7 _ _ _ (lv_sub hl [0, 1, 2, 3] rfl) hP hD hS
        · replace hf := hf_neg cc hf
          refine lv_aload_n hx hb dX0_place_17 rfl (lv_at hl 0 rfl) ?_
          refine va_get (D := (dC, dI)) (ci := 0) (C := RX0) (T := TX0) (N := 4) hx hb hts hiX0 hown hK hP 0 rfl rfl 1 (by decide) (hts (.fieldLink RX0 15 "PaddockFields$Board" "inField" "[Z") (List.mem_cons_of_mem _ (List.mem_append_left _ (List.mem_of_getElem? (i := 0) rfl)))) (fun _ h9 => h9) rfl dX0_place_18 ?_
          refine lv_iload_n hx hb dX0_place_21 rfl (lv_at hl 3 rfl) ?_
          refine lv_iconst (v := 1) hx hb dX0_place_22 (by decide) ?_
          obtain ⟨w2, h_w2, hf⟩ := hf_bind hf
          refine wh_stZ (D := (dC, dI)) (ws' := (wl_fBoard_place cI cZ cJ cQ a_0 a_0inField a_0first a_0last a_0number w2 first_0_5 last_0_6)) hx hb hK hP hD hS 1 1 rfl rfl rfl h_w2 dX0_place_23 (fun H locs hP hD hS => ?_)
          refine lv_aload_n hx hb dX0_place_24 rfl (lv_at hl 0 rfl) ?_
          refine va_get (D := (dC, dI)) (ci := 0) (C := RX0) (T := TX0) (N := 4) hx hb hts hiX0 hown hK hP 0 rfl rfl 2 (by decide) (hts (.fieldLink RX0 19 "PaddockFields$Board" "first" "[I") (List.mem_cons_of_mem _ (List.mem_append_left _ (List.mem_of_getElem? (i := 1) rfl)))) (fun _ h9 => h9) rfl dX0_place_25 ?_
          refine lv_iload_n hx hb dX0_place_28 rfl (lv_at hl 3 rfl) ?_
          refine lv_iload_n hx hb dX0_place_29 rfl (lv_at hl 1 rfl) ?_
          obtain ⟨w3, h_w3, hf⟩ := hf_bind hf
          refine wh_stI (D := (dC, dI)) (ws' := (wl_fBoard_place cI cZ cJ cQ a_0 a_0inField a_0first a_0last a_0number w2 w3 last_0_6)) hx hb hK hP hD hS 2 0 rfl rfl rfl h_w3 dX0_place_30 (fun H locs hP hD hS => ?_)
          refine lv_aload_n hx hb dX0_place_31 rfl (lv_at hl 0 rfl) ?_
          refine va_get (D := (dC, dI)) (ci := 0) (C := RX0) (T := TX0) (N := 4) hx hb hts hiX0 hown hK hP 0 rfl rfl 3 (by decide) (hts (.fieldLink RX0 22 "PaddockFields$Board" "last" "[I") (List.mem_cons_of_mem _ (List.mem_append_left _ (List.mem_of_getElem? (i := 2) rfl)))) (fun _ h9 => h9) rfl dX0_place_32 ?_
          refine lv_iload_n hx hb dX0_place_35 rfl (lv_at hl 3 rfl) ?_
          refine lv_iload_n hx hb dX0_place_36 rfl (lv_at hl 2 rfl) ?_
          obtain ⟨w4, h_w4, hf⟩ := hf_bind hf
          refine wh_stI (D := (dC, dI)) (ws' := (wl_fBoard_place cI cZ cJ cQ a_0 a_0inField a_0first a_0last a_0number w2 w3 w4)) hx hb hK hP hD hS 3 0 rfl rfl rfl h_w4 dX0_place_37 (fun H locs hP hD hS => ?_)
          obtain rfl := Option.some.inj hf
          exact hJ_7 _ _ _ (lv_sub hl [0, 1, 2, 3] rfl) hP hD hS
  exact hL_2 _ _ _ _ _ h_r6 _ _ _ (lv_sub hl [1, 2, 3, 0] rfl) hP hD hS
set_option maxHeartbeats 4000000 in
set_option maxRecDepth 100000 in
theorem c_fBoard_hasField (l : Launch) (dC : Nat → ClassId) (dI : Nat → Nat → Nat) (cI cZ cJ cQ : ClassId) (a_0 a_0inField a_0number a_0first a_0last : Nat) (sz : Nat) {x1 : Int32} {inField_0 : Nat → Int32} {out : Int32} (hf : fBoard_hasField x1 inField_0 = some out) : Met l yX0_hasField wsX0_hasField ({ frames := 1, cells := 0, slots := 0, locals := 20 } : Room) (va_Pc [.ref a_0, .int x1] (wlP (dC, dI) (wlT cI cZ cJ cQ) (wl_fBoard_hasField cI cZ cJ cQ a_0 a_0inField a_0number a_0first a_0last inField_0) sz)) (va_Qi (fun (v : Int32) (_ : Unit) => v = out) (wlQ (dC, dI) (va_A (wl_fBoard_hasField cI cZ cJ cQ a_0 a_0inField a_0number a_0first a_0last inField_0) sz) (wl_fBoard_hasField cI cZ cJ cQ a_0 a_0inField a_0number a_0first a_0last inField_0)) (va_A (wl_fBoard_hasField cI cZ cJ cQ a_0 a_0inField a_0number a_0first a_0last inField_0) sz)) 0 0 (va_A (wl_fBoard_hasField cI cZ cJ cQ a_0 a_0inField a_0number a_0first a_0last inField_0) sz) := by
  refine wh_ofWz (lv := [(0, .ref a_0), (1, .int x1)]) RX0 (by decide) rfl rfl (Nat.le_of_ble_eq_true rfl) rfl ?_
  intro p e s m below meth c A QQ hx hb hml hown hts hP hK hN hD hA hret ls hl
  have hS : va_S A s.heap s.heap [] := va_S.rf
  have hiX0 : ∀ w ∈ wsX00, w ∈ wsX0_hasField := (fun _ h => List.mem_cons_of_mem _ (List.mem_append_right _ (h)))
  unfold fBoard_hasField at hf
  refine lv_iload_n hx hb dX0_hasField_0 rfl (lv_at hl 1 rfl) ?_
  obtain ⟨s1, h_s1, hf⟩ := hf_bind hf
  refine wh_calli (D := (dC, dI)) (ws' := (wl_fBoard_hasField cI cZ cJ cQ a_0 a_0inField a_0number a_0first a_0last inField_0)) (va_runSN (As := [.int x1]) (rest := []) ⟨hx, hb, hml, hown, hts⟩ (c_fX_isCell l dC dI cI cZ cJ cQ _ h_s1) ⟨va_cnB 1 hts gX0_hasField_X9_isCell_n25 rfl rfl rfl (hN (RX0, 25, yX9_isCell) (List.mem_of_getElem? (i := 11) rfl)) (hts (.initialized RX9) (List.mem_cons_of_mem _ (List.mem_append_left _ (List.mem_of_getElem? (i := 2) rfl)))) (by decide +kernel) ⟨Nat.le_of_ble_eq_true rfl, Nat.le_of_ble_eq_true rfl⟩, (hts (.static yX9_isCell) (List.mem_cons_of_mem _ (List.mem_append_left _ (List.mem_of_getElem? (i := 1) rfl)))), trivial⟩ (wh_preS hK hN hP hD [] rfl rfl) rfl rfl hl.1 rfl (lv_room (Nat.le_of_ble_eq_true rfl)) dX0_hasField_1 ⟨Nat.le_refl _, Nat.le_refl _⟩) hP hD hS hA [] [0, 1] [0, 1] rfl rfl rfl rfl (fun H locs hP hD hS => ?_)
  refine lv_if_eq (tgt := 20) hx hb dX0_hasField_4 (by decide) (fun cc => ?_) (fun cc => ?_)
  · replace hf := hf_pos cc hf
    refine lv_iconst (v := 0) hx hb dX0_hasField_20 (by decide) ?_
    obtain rfl := Option.some.inj hf
    exact hret _ _ _ _ (by decide) hP hD hS dX0_hasField_21
  · replace hf := hf_neg cc hf
    refine lv_aload_n hx hb dX0_hasField_7 rfl (lv_at hl 0 rfl) ?_
    refine va_get (D := (dC, dI)) (ci := 0) (C := RX0) (T := TX0) (N := 4) hx hb hts hiX0 hown hK hP 0 rfl rfl 1 (by decide) (hts (.fieldLink RX0 15 "PaddockFields$Board" "inField" "[Z") (List.mem_cons_of_mem _ (List.mem_append_left _ (List.mem_of_getElem? (i := 0) rfl)))) (fun _ h9 => h9) rfl dX0_hasField_8 ?_
    refine lv_iload_n hx hb dX0_hasField_11 rfl (lv_at hl 1 rfl) ?_
    obtain ⟨v2, h_v2, hf⟩ := hf_bind hf
    refine wh_ldZ (D := (dC, dI)) hx hb hK hP 1 1 rfl rfl h_v2 dX0_hasField_12 ?_
    refine lv_if_eq (tgt := 20) hx hb dX0_hasField_13 (by decide) (fun cc => ?_) (fun cc => ?_)
    · replace hf := hf_pos cc hf
      refine lv_iconst (v := 0) hx hb dX0_hasField_20 (by decide) ?_
      obtain rfl := Option.some.inj hf
      exact hret _ _ _ _ (by decide) hP hD hS dX0_hasField_21
    · replace hf := hf_neg cc hf
      refine lv_iconst (v := 1) hx hb dX0_hasField_16 (by decide) ?_
      refine lv_goto (tgt := 21) hx hb dX0_hasField_17 (by decide) ?_
      obtain rfl := Option.some.inj hf
      exact hret _ _ _ _ (by decide) hP hD hS dX0_hasField_21
set_option maxHeartbeats 4000000 in
set_option maxRecDepth 100000 in
theorem c_fBoard_sizeOfField (l : Launch) (dC : Nat → ClassId) (dI : Nat → Nat → Nat) (cI cZ cJ cQ : ClassId) (a_0 a_0first a_0last a_0number a_0inField : Nat) (sz : Nat) {x1 : Int32} {first_0 : Nat → Int32} {last_0 : Nat → Int32} {out : Int32} (hf : fBoard_sizeOfField x1 first_0 last_0 = some out) : Met l yX0_sizeOfField wsX0_sizeOfField ({ frames := 2, cells := 0, slots := 0, locals := 42 } : Room) (va_Pc [.ref a_0, .int x1] (wlP (dC, dI) (wlT cI cZ cJ cQ) (wl_fBoard_sizeOfField cI cZ cJ cQ a_0 a_0first a_0last a_0number a_0inField first_0 last_0) sz)) (va_Qi (fun (v : Int32) (_ : Unit) => v = out) (wlQ (dC, dI) (va_A (wl_fBoard_sizeOfField cI cZ cJ cQ a_0 a_0first a_0last a_0number a_0inField first_0 last_0) sz) (wl_fBoard_sizeOfField cI cZ cJ cQ a_0 a_0first a_0last a_0number a_0inField first_0 last_0)) (va_A (wl_fBoard_sizeOfField cI cZ cJ cQ a_0 a_0first a_0last a_0number a_0inField first_0 last_0) sz)) 0 0 (va_A (wl_fBoard_sizeOfField cI cZ cJ cQ a_0 a_0first a_0last a_0number a_0inField first_0 last_0) sz) := by
  refine wh_ofWi (lv := [(0, .ref a_0), (1, .int x1)]) RX0 (by decide) rfl rfl (Nat.le_of_ble_eq_true rfl) rfl ?_
  intro p e s m below meth c A QQ hx hb hml hown hts hP hK hN hD hA hret ls hl
  have hS : va_S A s.heap s.heap [] := va_S.rf
  have hiX0 : ∀ w ∈ wsX00, w ∈ wsX0_sizeOfField := (fun _ h => List.mem_cons_of_mem _ (List.mem_append_right _ (h)))
  unfold fBoard_sizeOfField at hf
  refine lv_iload_n hx hb dX0_sizeOfField_0 rfl (lv_at hl 1 rfl) ?_
  obtain ⟨s1, h_s1, hf⟩ := hf_bind hf
  refine wh_calli (D := (dC, dI)) (ws' := (wl_fBoard_sizeOfField cI cZ cJ cQ a_0 a_0first a_0last a_0number a_0inField first_0 last_0)) (va_runSN (As := [.int x1]) (rest := []) ⟨hx, hb, hml, hown, hts⟩ (c_fX_isCell l dC dI cI cZ cJ cQ _ h_s1) ⟨va_cnB 1 hts gX0_sizeOfField_X9_isCell_n25 rfl rfl rfl (hN (RX0, 25, yX9_isCell) (List.mem_of_getElem? (i := 11) rfl)) (hts (.initialized RX9) (List.mem_cons_of_mem _ (List.mem_append_left _ (List.mem_of_getElem? (i := 3) rfl)))) (by decide +kernel) ⟨Nat.le_of_ble_eq_true rfl, Nat.le_of_ble_eq_true rfl⟩, (hts (.static yX9_isCell) (List.mem_cons_of_mem _ (List.mem_append_left _ (List.mem_of_getElem? (i := 2) rfl)))), trivial⟩ (wh_preS hK hN hP hD [] rfl rfl) rfl rfl hl.1 rfl (lv_room (Nat.le_of_ble_eq_true rfl)) dX0_sizeOfField_1 ⟨Nat.le_refl _, Nat.le_refl _⟩) hP hD hS hA [] [0, 1, 2] [0, 1, 2] rfl rfl rfl rfl (fun H locs hP hD hS => ?_)
  refine lv_if_eq (tgt := 25) hx hb dX0_sizeOfField_4 (by decide) (fun cc => ?_) (fun cc => ?_)
  · replace hf := hf_pos cc hf
    refine lv_iconst (v := 0) hx hb dX0_sizeOfField_25 (by decide) ?_
    obtain rfl := Option.some.inj hf
    exact hret _ _ _ _ hP hD hS dX0_sizeOfField_26
  · replace hf := hf_neg cc hf
    refine lv_aload_n hx hb dX0_sizeOfField_7 rfl (lv_at hl 0 rfl) ?_
    refine va_get (D := (dC, dI)) (ci := 0) (C := RX0) (T := TX0) (N := 4) hx hb hts hiX0 hown hK hP 0 rfl rfl 2 (by decide) (hts (.fieldLink RX0 19 "PaddockFields$Board" "first" "[I") (List.mem_cons_of_mem _ (List.mem_append_left _ (List.mem_of_getElem? (i := 0) rfl)))) (fun _ h9 => h9) rfl dX0_sizeOfField_8 ?_
    refine lv_iload_n hx hb dX0_sizeOfField_11 rfl (lv_at hl 1 rfl) ?_
    obtain ⟨v2, h_v2, hf⟩ := hf_bind hf
    refine wh_ldI (D := (dC, dI)) hx hb hK hP 1 0 rfl rfl h_v2 dX0_sizeOfField_12 ?_
    refine lv_aload_n hx hb dX0_sizeOfField_13 rfl (lv_at hl 0 rfl) ?_
    refine va_get (D := (dC, dI)) (ci := 0) (C := RX0) (T := TX0) (N := 4) hx hb hts hiX0 hown hK hP 0 rfl rfl 3 (by decide) (hts (.fieldLink RX0 22 "PaddockFields$Board" "last" "[I") (List.mem_cons_of_mem _ (List.mem_append_left _ (List.mem_of_getElem? (i := 1) rfl)))) (fun _ h9 => h9) rfl dX0_sizeOfField_14 ?_
    refine lv_iload_n hx hb dX0_sizeOfField_17 rfl (lv_at hl 1 rfl) ?_
    obtain ⟨v3, h_v3, hf⟩ := hf_bind hf
    refine wh_ldI (D := (dC, dI)) hx hb hK hP 2 0 rfl rfl h_v3 dX0_sizeOfField_18 ?_
    obtain ⟨s4, h_s4, hf⟩ := hf_bind hf
    refine wh_calli (D := (dC, dI)) (ws' := (wl_fBoard_sizeOfField cI cZ cJ cQ a_0 a_0first a_0last a_0number a_0inField first_0 last_0)) (va_runSN (As := [.int v2, .int v3]) (rest := []) ⟨hx, hb, hml, hown, hts⟩ (c_fX_sizeOf l dC dI cI cZ cJ cQ _ h_s4) ⟨va_cnB 2 hts gX0_sizeOfField_X9_sizeOf_n29 rfl rfl rfl (hN (RX0, 29, yX9_sizeOf) (List.mem_of_getElem? (i := 12) rfl)) (hts (.initialized RX9) (List.mem_cons_of_mem _ (List.mem_append_left _ (List.mem_of_getElem? (i := 3) rfl)))) (by decide +kernel) ⟨Nat.le_of_ble_eq_true rfl, Nat.le_of_ble_eq_true rfl⟩, (hts (.static yX9_sizeOf) (List.mem_cons_of_mem _ (List.mem_append_left _ (List.mem_of_getElem? (i := 5) rfl)))), trivial⟩ (wh_preS hK hN hP hD [] rfl rfl) rfl rfl hl.1 rfl (lv_room (Nat.le_of_ble_eq_true rfl)) dX0_sizeOfField_19 ⟨Nat.le_refl _, Nat.le_refl _⟩) hP hD hS hA [] [0, 1, 2] [0, 1, 2] rfl rfl rfl rfl (fun H locs hP hD hS => ?_)
    refine lv_goto (tgt := 26) hx hb dX0_sizeOfField_22 (by decide) ?_
    obtain rfl := Option.some.inj hf
    exact hret _ _ _ _ hP hD hS dX0_sizeOfField_26
set_option maxHeartbeats 4000000 in
set_option maxRecDepth 100000 in
theorem c_fBoard_firstOfField (l : Launch) (dC : Nat → ClassId) (dI : Nat → Nat → Nat) (cI cZ cJ cQ : ClassId) (a_0 a_0first a_0number a_0inField a_0last : Nat) (sz : Nat) {x1 : Int32} {first_0 : Nat → Int32} {out : Int32} (hf : fBoard_firstOfField x1 first_0 = some out) : Met l yX0_firstOfField wsX0_firstOfField ({ frames := 1, cells := 0, slots := 0, locals := 20 } : Room) (va_Pc [.ref a_0, .int x1] (wlP (dC, dI) (wlT cI cZ cJ cQ) (wl_fBoard_firstOfField cI cZ cJ cQ a_0 a_0first a_0number a_0inField a_0last first_0) sz)) (va_Qi (fun (v : Int32) (_ : Unit) => v = out) (wlQ (dC, dI) (va_A (wl_fBoard_firstOfField cI cZ cJ cQ a_0 a_0first a_0number a_0inField a_0last first_0) sz) (wl_fBoard_firstOfField cI cZ cJ cQ a_0 a_0first a_0number a_0inField a_0last first_0)) (va_A (wl_fBoard_firstOfField cI cZ cJ cQ a_0 a_0first a_0number a_0inField a_0last first_0) sz)) 0 0 (va_A (wl_fBoard_firstOfField cI cZ cJ cQ a_0 a_0first a_0number a_0inField a_0last first_0) sz) := by
  refine wh_ofWi (lv := [(0, .ref a_0), (1, .int x1)]) RX0 (by decide) rfl rfl (Nat.le_of_ble_eq_true rfl) rfl ?_
  intro p e s m below meth c A QQ hx hb hml hown hts hP hK hN hD hA hret ls hl
  have hS : va_S A s.heap s.heap [] := va_S.rf
  have hiX0 : ∀ w ∈ wsX00, w ∈ wsX0_firstOfField := (fun _ h => List.mem_cons_of_mem _ (List.mem_append_right _ (h)))
  unfold fBoard_firstOfField at hf
  refine lv_iload_n hx hb dX0_firstOfField_0 rfl (lv_at hl 1 rfl) ?_
  obtain ⟨s1, h_s1, hf⟩ := hf_bind hf
  refine wh_calli (D := (dC, dI)) (ws' := (wl_fBoard_firstOfField cI cZ cJ cQ a_0 a_0first a_0number a_0inField a_0last first_0)) (va_runSN (As := [.int x1]) (rest := []) ⟨hx, hb, hml, hown, hts⟩ (c_fX_isCell l dC dI cI cZ cJ cQ _ h_s1) ⟨va_cnB 1 hts gX0_firstOfField_X9_isCell_n25 rfl rfl rfl (hN (RX0, 25, yX9_isCell) (List.mem_of_getElem? (i := 11) rfl)) (hts (.initialized RX9) (List.mem_cons_of_mem _ (List.mem_append_left _ (List.mem_of_getElem? (i := 2) rfl)))) (by decide +kernel) ⟨Nat.le_of_ble_eq_true rfl, Nat.le_of_ble_eq_true rfl⟩, (hts (.static yX9_isCell) (List.mem_cons_of_mem _ (List.mem_append_left _ (List.mem_of_getElem? (i := 1) rfl)))), trivial⟩ (wh_preS hK hN hP hD [] rfl rfl) rfl rfl hl.1 rfl (lv_room (Nat.le_of_ble_eq_true rfl)) dX0_firstOfField_1 ⟨Nat.le_refl _, Nat.le_refl _⟩) hP hD hS hA [] [0, 1] [0, 1] rfl rfl rfl rfl (fun H locs hP hD hS => ?_)
  refine lv_if_eq (tgt := 16) hx hb dX0_firstOfField_4 (by decide) (fun cc => ?_) (fun cc => ?_)
  · replace hf := hf_pos cc hf
    refine lv_iconst (v := 0) hx hb dX0_firstOfField_16 (by decide) ?_
    obtain rfl := Option.some.inj hf
    exact hret _ _ _ _ hP hD hS dX0_firstOfField_17
  · replace hf := hf_neg cc hf
    refine lv_aload_n hx hb dX0_firstOfField_7 rfl (lv_at hl 0 rfl) ?_
    refine va_get (D := (dC, dI)) (ci := 0) (C := RX0) (T := TX0) (N := 4) hx hb hts hiX0 hown hK hP 0 rfl rfl 2 (by decide) (hts (.fieldLink RX0 19 "PaddockFields$Board" "first" "[I") (List.mem_cons_of_mem _ (List.mem_append_left _ (List.mem_of_getElem? (i := 0) rfl)))) (fun _ h9 => h9) rfl dX0_firstOfField_8 ?_
    refine lv_iload_n hx hb dX0_firstOfField_11 rfl (lv_at hl 1 rfl) ?_
    obtain ⟨v2, h_v2, hf⟩ := hf_bind hf
    refine wh_ldI (D := (dC, dI)) hx hb hK hP 1 0 rfl rfl h_v2 dX0_firstOfField_12 ?_
    refine lv_goto (tgt := 17) hx hb dX0_firstOfField_13 (by decide) ?_
    obtain rfl := Option.some.inj hf
    exact hret _ _ _ _ hP hD hS dX0_firstOfField_17
set_option maxHeartbeats 4000000 in
set_option maxRecDepth 100000 in
theorem c_fBoard_setNumber (l : Launch) (dC : Nat → ClassId) (dI : Nat → Nat → Nat) (cI cZ cJ cQ : ClassId) (a_0 a_0number a_0inField a_0first a_0last : Nat) (sz : Nat) {x1 : Int32} {x2 : Int32} {number_0 : Nat → Int32} {out : (Nat → Int32)} (hf : fBoard_setNumber x1 x2 number_0 = some out) : Met l yX0_setNumber wsX0_setNumber ({ frames := 1, cells := 0, slots := 0, locals := 20 } : Room) (va_Pc [.ref a_0, .int x1, .int x2] (wlP (dC, dI) (wlT cI cZ cJ cQ) (wl_fBoard_setNumber cI cZ cJ cQ a_0 a_0number a_0inField a_0first a_0last number_0) sz)) (va_Qv (fun (_ : Unit) => True) (wlQ (dC, dI) (va_A (wl_fBoard_setNumber cI cZ cJ cQ a_0 a_0number a_0inField a_0first a_0last number_0) sz) (wl_fBoard_setNumber cI cZ cJ cQ a_0 a_0number a_0inField a_0first a_0last out)) (va_A (wl_fBoard_setNumber cI cZ cJ cQ a_0 a_0number a_0inField a_0first a_0last number_0) sz)) 0 0 (va_A (wl_fBoard_setNumber cI cZ cJ cQ a_0 a_0number a_0inField a_0first a_0last number_0) sz) := by
  refine wh_ofWv (lv := [(0, .ref a_0), (1, .int x1), (2, .int x2)]) RX0 (by decide) rfl rfl (Nat.le_of_ble_eq_true rfl) rfl ?_
  intro p e s m below meth c A QQ hx hb hml hown hts hP hK hN hD hA hret ls hl
  have hS : va_S A s.heap s.heap [] := va_S.rf
  have hiX0 : ∀ w ∈ wsX00, w ∈ wsX0_setNumber := (fun _ h => List.mem_cons_of_mem _ (List.mem_append_right _ (h)))
  unfold fBoard_setNumber at hf
  refine lv_iload_n hx hb dX0_setNumber_0 rfl (lv_at hl 1 rfl) ?_
  obtain ⟨s1, h_s1, hf⟩ := hf_bind hf
  refine wh_calli (D := (dC, dI)) (ws' := (wl_fBoard_setNumber cI cZ cJ cQ a_0 a_0number a_0inField a_0first a_0last number_0)) (va_runSN (As := [.int x1]) (rest := []) ⟨hx, hb, hml, hown, hts⟩ (c_fX_isCell l dC dI cI cZ cJ cQ _ h_s1) ⟨va_cnB 1 hts gX0_setNumber_X9_isCell_n25 rfl rfl rfl (hN (RX0, 25, yX9_isCell) (List.mem_of_getElem? (i := 11) rfl)) (hts (.initialized RX9) (List.mem_cons_of_mem _ (List.mem_append_left _ (List.mem_of_getElem? (i := 2) rfl)))) (by decide +kernel) ⟨Nat.le_of_ble_eq_true rfl, Nat.le_of_ble_eq_true rfl⟩, (hts (.static yX9_isCell) (List.mem_cons_of_mem _ (List.mem_append_left _ (List.mem_of_getElem? (i := 1) rfl)))), trivial⟩ (wh_preS hK hN hP hD [] rfl rfl) rfl rfl hl.1 rfl (lv_room (Nat.le_of_ble_eq_true rfl)) dX0_setNumber_1 ⟨Nat.le_refl _, Nat.le_refl _⟩) hP hD hS hA [] [0, 1] [0, 1] rfl rfl rfl rfl (fun H locs hP hD hS => ?_)
  refine lv_if_eq (tgt := 14) hx hb dX0_setNumber_4 (by decide) (fun cc => ?_) (fun cc => ?_)
  · replace hf := hf_pos cc hf
    obtain rfl := Option.some.inj hf
    exact hret _ _ _ _ hP hD hS dX0_setNumber_14
  · replace hf := hf_neg cc hf
    refine lv_aload_n hx hb dX0_setNumber_7 rfl (lv_at hl 0 rfl) ?_
    refine va_get (D := (dC, dI)) (ci := 0) (C := RX0) (T := TX0) (N := 4) hx hb hts hiX0 hown hK hP 0 rfl rfl 0 (by decide) (hts (.fieldLink RX0 9 "PaddockFields$Board" "number" "[I") (List.mem_cons_of_mem _ (List.mem_append_left _ (List.mem_of_getElem? (i := 0) rfl)))) (fun _ h9 => h9) rfl dX0_setNumber_8 ?_
    refine lv_iload_n hx hb dX0_setNumber_11 rfl (lv_at hl 1 rfl) ?_
    refine lv_iload_n hx hb dX0_setNumber_12 rfl (lv_at hl 2 rfl) ?_
    obtain ⟨w2, h_w2, hf⟩ := hf_bind hf
    refine wh_stI (D := (dC, dI)) (ws' := (wl_fBoard_setNumber cI cZ cJ cQ a_0 a_0number a_0inField a_0first a_0last w2)) hx hb hK hP hD hS 1 0 rfl rfl rfl h_w2 dX0_setNumber_13 (fun H locs hP hD hS => ?_)
    obtain rfl := Option.some.inj hf
    exact hret _ _ _ _ hP hD hS dX0_setNumber_14
set_option maxHeartbeats 4000000 in
set_option maxRecDepth 100000 in
theorem c_fBoard_removeFields (l : Launch) (dC : Nat → ClassId) (dI : Nat → Nat → Nat) (cI cZ cJ cQ : ClassId) (a_0 a_0inField a_0number a_0first a_0last : Nat) (sz : Nat) {F : Nat} {inField_0 : Nat → Int32} {out : (Nat → Int32)} (hf : fBoard_removeFields F inField_0 = some out) : Met l yX0_removeFields wsX0_removeFields ({ frames := 0, cells := 0, slots := 0, locals := 0 } : Room) (va_Pc [.ref a_0] (wlP (dC, dI) (wlT cI cZ cJ cQ) (wl_fBoard_removeFields cI cZ cJ cQ a_0 a_0inField a_0number a_0first a_0last inField_0) sz)) (va_Qv (fun (_ : Unit) => True) (wlQ (dC, dI) (va_A (wl_fBoard_removeFields cI cZ cJ cQ a_0 a_0inField a_0number a_0first a_0last inField_0) sz) (wl_fBoard_removeFields cI cZ cJ cQ a_0 a_0inField a_0number a_0first a_0last out)) (va_A (wl_fBoard_removeFields cI cZ cJ cQ a_0 a_0inField a_0number a_0first a_0last inField_0) sz)) 0 0 (va_A (wl_fBoard_removeFields cI cZ cJ cQ a_0 a_0inField a_0number a_0first a_0last inField_0) sz) := by
  refine wh_ofWv (lv := [(0, .ref a_0)]) RX0 (by decide) rfl rfl (Nat.le_of_ble_eq_true rfl) rfl ?_
  intro p e s m below meth c A QQ hx hb hml hown hts hP hK hN hD hA hret ls hl
  have hS : va_S A s.heap s.heap [] := va_S.rf
  have hiX0 : ∀ w ∈ wsX00, w ∈ wsX0_removeFields := (fun _ h => List.mem_cons_of_mem _ (List.mem_append_right _ (h)))
  unfold fBoard_removeFields at hf
  refine lv_iconst (v := 0) hx hb dX0_removeFields_0 (by decide) ?_
  refine lv_istore_n (lv' := [(1, .int (0 : Int32)), (0, .ref a_0)]) hx hb dX0_removeFields_1 rfl hl (by decide) rfl (fun ls hl => ?_)
  obtain ⟨r2, h_r2, hf⟩ := hf_bind hf
  have hE_1 : ∀ (H : Heap) (locs : List Loc) (ls : Array Slot), lv_has ls 2 [] → va_P (dC, dI) vwCl (wl_fBoard_removeFields cI cZ cJ cQ a_0 a_0inField a_0number a_0first a_0last r2.2) H → va_D A (wl_fBoard_removeFields cI cZ cJ cQ a_0 a_0inField a_0number a_0first a_0last r2.2) → va_S A s.heap H locs → W p l e ({ frames := 0, cells := 0, slots := 0, locals := 0 } : Room) s m [.ref a_0].toArray below meth c H locs 0 0 QQ (F0 m 21 ls []) := by
    intro H locs ls hl hP hD hS
    obtain rfl := Option.some.inj hf
    exact hret _ _ _ _ hP hD hS dX0_removeFields_21
  have hL_2 : ∀ (N : Nat) (l1_3 : Int32) (inField_0_4 : Nat → Int32), fBoard_removeFields_L2 F N l1_3 inField_0_4 = some r2 → ∀ (H : Heap) (locs : List Loc) (ls : Array Slot), lv_has ls 2 [(0, .ref a_0), (1, .int l1_3)] → va_P (dC, dI) vwCl (wl_fBoard_removeFields cI cZ cJ cQ a_0 a_0inField a_0number a_0first a_0last inField_0_4) H → va_D A (wl_fBoard_removeFields cI cZ cJ cQ a_0 a_0inField a_0number a_0first a_0last inField_0_4) → va_S A s.heap H locs → W p l e ({ frames := 0, cells := 0, slots := 0, locals := 0 } : Room) s m [.ref a_0].toArray below meth c H locs 0 0 QQ (F0 m 2 ls []) := by
    intro N
    induction N with
    | zero => intro l1_3 inField_0_4 hf; exact nomatch (show none = some _ from hf)
    | succ N ih =>
      intro l1_3 inField_0_4 hf H locs ls hl hP hD hS
      rw [fBoard_removeFields_L2] at hf
      refine lv_iload_n hx hb dX0_removeFields_2 rfl (lv_at hl 1 rfl) ?_
      refine lv_bipush (v := 42) hx hb dX0_removeFields_3 (by decide) ?_
      refine lv_icmp_ge (tgt := 21) hx hb dX0_removeFields_5 (by decide) (fun cc => ?_) (fun cc => ?_)
      · replace hf := hf_pos cc hf
        obtain rfl := Option.some.inj hf
        exact hE_1 _ _ _ (lv_sub hl [] rfl) hP hD hS
      · replace hf := hf_neg cc hf
        refine lv_aload_n hx hb dX0_removeFields_8 rfl (lv_at hl 0 rfl) ?_
        refine va_get (D := (dC, dI)) (ci := 0) (C := RX0) (T := TX0) (N := 4) hx hb hts hiX0 hown hK hP 0 rfl rfl 1 (by decide) (hts (.fieldLink RX0 15 "PaddockFields$Board" "inField" "[Z") (List.mem_cons_of_mem _ (List.mem_append_left _ (List.mem_of_getElem? (i := 0) rfl)))) (fun _ h9 => h9) rfl dX0_removeFields_9 ?_
        refine lv_iload_n hx hb dX0_removeFields_12 rfl (lv_at hl 1 rfl) ?_
        refine lv_iconst (v := 0) hx hb dX0_removeFields_13 (by decide) ?_
        obtain ⟨w1, h_w1, hf⟩ := hf_bind hf
        refine wh_stZ (D := (dC, dI)) (ws' := (wl_fBoard_removeFields cI cZ cJ cQ a_0 a_0inField a_0number a_0first a_0last w1)) hx hb hK hP hD hS 1 1 rfl rfl rfl h_w1 dX0_removeFields_14 (fun H locs hP hD hS => ?_)
        refine lv_iinc (v := (l1_3 + (1 : Int32))) (lv' := [(1, .int (l1_3 + (1 : Int32))), (0, .ref a_0)]) hx hb dX0_removeFields_15 hl (k := 1) rfl rfl (by decide) rfl (fun ls hl => ?_)
        refine lv_goto (tgt := 2) hx hb dX0_removeFields_18 (by decide) ?_
        exact ih _ _ hf _ _ _ (lv_sub hl [1, 0] rfl) hP hD hS
  exact hL_2 _ _ _ h_r2 _ _ _ (lv_sub hl [1, 0] rfl) hP hD hS
set_option maxHeartbeats 4000000 in
set_option maxRecDepth 100000 in
theorem c_fBoard_removeNumbers (l : Launch) (dC : Nat → ClassId) (dI : Nat → Nat → Nat) (cI cZ cJ cQ : ClassId) (a_0 a_0number a_0inField a_0first a_0last : Nat) (sz : Nat) {F : Nat} {number_0 : Nat → Int32} {out : (Nat → Int32)} (hf : fBoard_removeNumbers F number_0 = some out) : Met l yX0_removeNumbers wsX0_removeNumbers ({ frames := 0, cells := 0, slots := 0, locals := 0 } : Room) (va_Pc [.ref a_0] (wlP (dC, dI) (wlT cI cZ cJ cQ) (wl_fBoard_removeNumbers cI cZ cJ cQ a_0 a_0number a_0inField a_0first a_0last number_0) sz)) (va_Qv (fun (_ : Unit) => True) (wlQ (dC, dI) (va_A (wl_fBoard_removeNumbers cI cZ cJ cQ a_0 a_0number a_0inField a_0first a_0last number_0) sz) (wl_fBoard_removeNumbers cI cZ cJ cQ a_0 a_0number a_0inField a_0first a_0last out)) (va_A (wl_fBoard_removeNumbers cI cZ cJ cQ a_0 a_0number a_0inField a_0first a_0last number_0) sz)) 0 0 (va_A (wl_fBoard_removeNumbers cI cZ cJ cQ a_0 a_0number a_0inField a_0first a_0last number_0) sz) := by
  refine wh_ofWv (lv := [(0, .ref a_0)]) RX0 (by decide) rfl rfl (Nat.le_of_ble_eq_true rfl) rfl ?_
  intro p e s m below meth c A QQ hx hb hml hown hts hP hK hN hD hA hret ls hl
  have hS : va_S A s.heap s.heap [] := va_S.rf
  have hiX0 : ∀ w ∈ wsX00, w ∈ wsX0_removeNumbers := (fun _ h => List.mem_cons_of_mem _ (List.mem_append_right _ (h)))
  unfold fBoard_removeNumbers at hf
  refine lv_iconst (v := 0) hx hb dX0_removeNumbers_0 (by decide) ?_
  refine lv_istore_n (lv' := [(1, .int (0 : Int32)), (0, .ref a_0)]) hx hb dX0_removeNumbers_1 rfl hl (by decide) rfl (fun ls hl => ?_)
  obtain ⟨r2, h_r2, hf⟩ := hf_bind hf
  have hE_1 : ∀ (H : Heap) (locs : List Loc) (ls : Array Slot), lv_has ls 2 [] → va_P (dC, dI) vwCl (wl_fBoard_removeNumbers cI cZ cJ cQ a_0 a_0number a_0inField a_0first a_0last r2.2) H → va_D A (wl_fBoard_removeNumbers cI cZ cJ cQ a_0 a_0number a_0inField a_0first a_0last r2.2) → va_S A s.heap H locs → W p l e ({ frames := 0, cells := 0, slots := 0, locals := 0 } : Room) s m [.ref a_0].toArray below meth c H locs 0 0 QQ (F0 m 21 ls []) := by
    intro H locs ls hl hP hD hS
    obtain rfl := Option.some.inj hf
    exact hret _ _ _ _ hP hD hS dX0_removeNumbers_21
  have hL_2 : ∀ (N : Nat) (l1_3 : Int32) (number_0_4 : Nat → Int32), fBoard_removeNumbers_L2 F N l1_3 number_0_4 = some r2 → ∀ (H : Heap) (locs : List Loc) (ls : Array Slot), lv_has ls 2 [(0, .ref a_0), (1, .int l1_3)] → va_P (dC, dI) vwCl (wl_fBoard_removeNumbers cI cZ cJ cQ a_0 a_0number a_0inField a_0first a_0last number_0_4) H → va_D A (wl_fBoard_removeNumbers cI cZ cJ cQ a_0 a_0number a_0inField a_0first a_0last number_0_4) → va_S A s.heap H locs → W p l e ({ frames := 0, cells := 0, slots := 0, locals := 0 } : Room) s m [.ref a_0].toArray below meth c H locs 0 0 QQ (F0 m 2 ls []) := by
    intro N
    induction N with
    | zero => intro l1_3 number_0_4 hf; exact nomatch (show none = some _ from hf)
    | succ N ih =>
      intro l1_3 number_0_4 hf H locs ls hl hP hD hS
      rw [fBoard_removeNumbers_L2] at hf
      refine lv_iload_n hx hb dX0_removeNumbers_2 rfl (lv_at hl 1 rfl) ?_
      refine lv_bipush (v := 42) hx hb dX0_removeNumbers_3 (by decide) ?_
      refine lv_icmp_ge (tgt := 21) hx hb dX0_removeNumbers_5 (by decide) (fun cc => ?_) (fun cc => ?_)
      · replace hf := hf_pos cc hf
        obtain rfl := Option.some.inj hf
        exact hE_1 _ _ _ (lv_sub hl [] rfl) hP hD hS
      · replace hf := hf_neg cc hf
        refine lv_aload_n hx hb dX0_removeNumbers_8 rfl (lv_at hl 0 rfl) ?_
        refine va_get (D := (dC, dI)) (ci := 0) (C := RX0) (T := TX0) (N := 4) hx hb hts hiX0 hown hK hP 0 rfl rfl 0 (by decide) (hts (.fieldLink RX0 9 "PaddockFields$Board" "number" "[I") (List.mem_cons_of_mem _ (List.mem_append_left _ (List.mem_of_getElem? (i := 0) rfl)))) (fun _ h9 => h9) rfl dX0_removeNumbers_9 ?_
        refine lv_iload_n hx hb dX0_removeNumbers_12 rfl (lv_at hl 1 rfl) ?_
        refine lv_iconst (v := 0) hx hb dX0_removeNumbers_13 (by decide) ?_
        obtain ⟨w1, h_w1, hf⟩ := hf_bind hf
        refine wh_stI (D := (dC, dI)) (ws' := (wl_fBoard_removeNumbers cI cZ cJ cQ a_0 a_0number a_0inField a_0first a_0last w1)) hx hb hK hP hD hS 1 0 rfl rfl rfl h_w1 dX0_removeNumbers_14 (fun H locs hP hD hS => ?_)
        refine lv_iinc (v := (l1_3 + (1 : Int32))) (lv' := [(1, .int (l1_3 + (1 : Int32))), (0, .ref a_0)]) hx hb dX0_removeNumbers_15 hl (k := 1) rfl rfl (by decide) rfl (fun ls hl => ?_)
        refine lv_goto (tgt := 2) hx hb dX0_removeNumbers_18 (by decide) ?_
        exact ih _ _ hf _ _ _ (lv_sub hl [1, 0] rfl) hP hD hS
  exact hL_2 _ _ _ h_r2 _ _ _ (lv_sub hl [1, 0] rfl) hP hD hS
set_option maxHeartbeats 4000000 in
set_option maxRecDepth 100000 in
theorem c_fBoard_isCorner (l : Launch) (dC : Nat → ClassId) (dI : Nat → Nat → Nat) (cI cZ cJ cQ : ClassId) (a_0 a_0inField a_0first a_0number a_0last : Nat) (sz : Nat) {x1 : Int32} {inField_0 : Nat → Int32} {first_0 : Nat → Int32} {out : Int32} (hf : fBoard_isCorner x1 inField_0 first_0 = some out) : Met l yX0_isCorner wsX0_isCorner ({ frames := 1, cells := 0, slots := 0, locals := 20 } : Room) (va_Pc [.ref a_0, .int x1] (wlP (dC, dI) (wlT cI cZ cJ cQ) (wl_fBoard_isCorner cI cZ cJ cQ a_0 a_0inField a_0first a_0number a_0last inField_0 first_0) sz)) (va_Qi (fun (v : Int32) (_ : Unit) => v = out) (wlQ (dC, dI) (va_A (wl_fBoard_isCorner cI cZ cJ cQ a_0 a_0inField a_0first a_0number a_0last inField_0 first_0) sz) (wl_fBoard_isCorner cI cZ cJ cQ a_0 a_0inField a_0first a_0number a_0last inField_0 first_0)) (va_A (wl_fBoard_isCorner cI cZ cJ cQ a_0 a_0inField a_0first a_0number a_0last inField_0 first_0) sz)) 0 0 (va_A (wl_fBoard_isCorner cI cZ cJ cQ a_0 a_0inField a_0first a_0number a_0last inField_0 first_0) sz) := by
  refine wh_ofWz (lv := [(0, .ref a_0), (1, .int x1)]) RX0 (by decide) rfl rfl (Nat.le_of_ble_eq_true rfl) rfl ?_
  intro p e s m below meth c A QQ hx hb hml hown hts hP hK hN hD hA hret ls hl
  have hS : va_S A s.heap s.heap [] := va_S.rf
  have hiX0 : ∀ w ∈ wsX00, w ∈ wsX0_isCorner := (fun _ h => List.mem_cons_of_mem _ (List.mem_append_right _ (h)))
  unfold fBoard_isCorner at hf
  refine lv_iload_n hx hb dX0_isCorner_0 rfl (lv_at hl 1 rfl) ?_
  obtain ⟨s1, h_s1, hf⟩ := hf_bind hf
  refine wh_calli (D := (dC, dI)) (ws' := (wl_fBoard_isCorner cI cZ cJ cQ a_0 a_0inField a_0first a_0number a_0last inField_0 first_0)) (va_runSN (As := [.int x1]) (rest := []) ⟨hx, hb, hml, hown, hts⟩ (c_fX_isCell l dC dI cI cZ cJ cQ _ h_s1) ⟨va_cnB 1 hts gX0_isCorner_X9_isCell_n25 rfl rfl rfl (hN (RX0, 25, yX9_isCell) (List.mem_of_getElem? (i := 11) rfl)) (hts (.initialized RX9) (List.mem_cons_of_mem _ (List.mem_append_left _ (List.mem_of_getElem? (i := 3) rfl)))) (by decide +kernel) ⟨Nat.le_of_ble_eq_true rfl, Nat.le_of_ble_eq_true rfl⟩, (hts (.static yX9_isCell) (List.mem_cons_of_mem _ (List.mem_append_left _ (List.mem_of_getElem? (i := 2) rfl)))), trivial⟩ (wh_preS hK hN hP hD [] rfl rfl) rfl rfl hl.1 rfl (lv_room (Nat.le_of_ble_eq_true rfl)) dX0_isCorner_1 ⟨Nat.le_refl _, Nat.le_refl _⟩) hP hD hS hA [] [0, 1, 2] [0, 1, 2] rfl rfl rfl rfl (fun H locs hP hD hS => ?_)
  refine lv_if_eq (tgt := 30) hx hb dX0_isCorner_4 (by decide) (fun cc => ?_) (fun cc => ?_)
  · replace hf := hf_pos cc hf
    refine lv_iconst (v := 0) hx hb dX0_isCorner_30 (by decide) ?_
    obtain rfl := Option.some.inj hf
    exact hret _ _ _ _ (by decide) hP hD hS dX0_isCorner_31
  · replace hf := hf_neg cc hf
    refine lv_aload_n hx hb dX0_isCorner_7 rfl (lv_at hl 0 rfl) ?_
    refine va_get (D := (dC, dI)) (ci := 0) (C := RX0) (T := TX0) (N := 4) hx hb hts hiX0 hown hK hP 0 rfl rfl 1 (by decide) (hts (.fieldLink RX0 15 "PaddockFields$Board" "inField" "[Z") (List.mem_cons_of_mem _ (List.mem_append_left _ (List.mem_of_getElem? (i := 0) rfl)))) (fun _ h9 => h9) rfl dX0_isCorner_8 ?_
    refine lv_iload_n hx hb dX0_isCorner_11 rfl (lv_at hl 1 rfl) ?_
    obtain ⟨v2, h_v2, hf⟩ := hf_bind hf
    refine wh_ldZ (D := (dC, dI)) hx hb hK hP 1 1 rfl rfl h_v2 dX0_isCorner_12 ?_
    refine lv_if_eq (tgt := 30) hx hb dX0_isCorner_13 (by decide) (fun cc => ?_) (fun cc => ?_)
    · replace hf := hf_pos cc hf
      refine lv_iconst (v := 0) hx hb dX0_isCorner_30 (by decide) ?_
      obtain rfl := Option.some.inj hf
      exact hret _ _ _ _ (by decide) hP hD hS dX0_isCorner_31
    · replace hf := hf_neg cc hf
      refine lv_aload_n hx hb dX0_isCorner_16 rfl (lv_at hl 0 rfl) ?_
      refine va_get (D := (dC, dI)) (ci := 0) (C := RX0) (T := TX0) (N := 4) hx hb hts hiX0 hown hK hP 0 rfl rfl 2 (by decide) (hts (.fieldLink RX0 19 "PaddockFields$Board" "first" "[I") (List.mem_cons_of_mem _ (List.mem_append_left _ (List.mem_of_getElem? (i := 1) rfl)))) (fun _ h9 => h9) rfl dX0_isCorner_17 ?_
      refine lv_iload_n hx hb dX0_isCorner_20 rfl (lv_at hl 1 rfl) ?_
      obtain ⟨v3, h_v3, hf⟩ := hf_bind hf
      refine wh_ldI (D := (dC, dI)) hx hb hK hP 2 0 rfl rfl h_v3 dX0_isCorner_21 ?_
      refine lv_iload_n hx hb dX0_isCorner_22 rfl (lv_at hl 1 rfl) ?_
      refine lv_icmp_ne (tgt := 30) hx hb dX0_isCorner_23 (by decide) (fun cc => ?_) (fun cc => ?_)
      · replace hf := hf_pos cc hf
        refine lv_iconst (v := 0) hx hb dX0_isCorner_30 (by decide) ?_
        obtain rfl := Option.some.inj hf
        exact hret _ _ _ _ (by decide) hP hD hS dX0_isCorner_31
      · replace hf := hf_neg (not_not_intro cc) hf
        refine lv_iconst (v := 1) hx hb dX0_isCorner_26 (by decide) ?_
        refine lv_goto (tgt := 31) hx hb dX0_isCorner_27 (by decide) ?_
        obtain rfl := Option.some.inj hf
        exact hret _ _ _ _ (by decide) hP hD hS dX0_isCorner_31
set_option maxHeartbeats 4000000 in
set_option maxRecDepth 100000 in
theorem c_fBoard_countFields (l : Launch) (dC : Nat → ClassId) (dI : Nat → Nat → Nat) (cI cZ cJ cQ : ClassId) (a_0 a_0inField a_0first a_0number a_0last : Nat) (sz : Nat) {F : Nat} {inField_0 : Nat → Int32} {first_0 : Nat → Int32} {out : Int32} (hf : fBoard_countFields F inField_0 first_0 = some out) : Met l yX0_countFields wsX0_countFields ({ frames := 2, cells := 0, slots := 0, locals := 41 } : Room) (va_Pc [.ref a_0] (wlP (dC, dI) (wlT cI cZ cJ cQ) (wl_fBoard_countFields cI cZ cJ cQ a_0 a_0inField a_0first a_0number a_0last inField_0 first_0) sz)) (va_Qi (fun (v : Int32) (_ : Unit) => v = out) (wlQ (dC, dI) (va_A (wl_fBoard_countFields cI cZ cJ cQ a_0 a_0inField a_0first a_0number a_0last inField_0 first_0) sz) (wl_fBoard_countFields cI cZ cJ cQ a_0 a_0inField a_0first a_0number a_0last inField_0 first_0)) (va_A (wl_fBoard_countFields cI cZ cJ cQ a_0 a_0inField a_0first a_0number a_0last inField_0 first_0) sz)) 0 0 (va_A (wl_fBoard_countFields cI cZ cJ cQ a_0 a_0inField a_0first a_0number a_0last inField_0 first_0) sz) := by
  refine wh_ofWi (lv := [(0, .ref a_0)]) RX0 (by decide) rfl rfl (Nat.le_of_ble_eq_true rfl) rfl ?_
  intro p e s m below meth c A QQ hx hb hml hown hts hP hK hN hD hA hret ls hl
  have hS : va_S A s.heap s.heap [] := va_S.rf
  unfold fBoard_countFields at hf
  refine lv_iconst (v := 0) hx hb dX0_countFields_0 (by decide) ?_
  refine lv_istore_n (lv' := [(1, .int (0 : Int32)), (0, .ref a_0)]) hx hb dX0_countFields_1 rfl hl (by decide) rfl (fun ls hl => ?_)
  refine lv_iconst (v := 0) hx hb dX0_countFields_2 (by decide) ?_
  refine lv_istore_n (lv' := [(2, .int (0 : Int32)), (1, .int (0 : Int32)), (0, .ref a_0)]) hx hb dX0_countFields_3 rfl hl (by decide) rfl (fun ls hl => ?_)
  obtain ⟨r3, h_r3, hf⟩ := hf_bind hf
  have hE_1 : ∀ (H : Heap) (locs : List Loc) (ls : Array Slot), lv_has ls 3 [(1, .int r3.1)] → va_P (dC, dI) vwCl (wl_fBoard_countFields cI cZ cJ cQ a_0 a_0inField a_0first a_0number a_0last inField_0 first_0) H → va_D A (wl_fBoard_countFields cI cZ cJ cQ a_0 a_0inField a_0first a_0number a_0last inField_0 first_0) → va_S A s.heap H locs → W p l e ({ frames := 2, cells := 0, slots := 0, locals := 41 } : Room) s m [.ref a_0].toArray below meth c H locs 0 0 QQ (F0 m 32 ls []) := by
    intro H locs ls hl hP hD hS
    refine lv_iload_n hx hb dX0_countFields_32 rfl (lv_at hl 0 rfl) ?_
    obtain rfl := Option.some.inj hf
    exact hret _ _ _ _ hP hD hS dX0_countFields_33
  have hL_2 : ∀ (N : Nat) (l1_3 : Int32) (l2_4 : Int32), fBoard_countFields_L4 F inField_0 first_0 N l1_3 l2_4 = some r3 → ∀ (H : Heap) (locs : List Loc) (ls : Array Slot), lv_has ls 3 [(0, .ref a_0), (1, .int l1_3), (2, .int l2_4)] → va_P (dC, dI) vwCl (wl_fBoard_countFields cI cZ cJ cQ a_0 a_0inField a_0first a_0number a_0last inField_0 first_0) H → va_D A (wl_fBoard_countFields cI cZ cJ cQ a_0 a_0inField a_0first a_0number a_0last inField_0 first_0) → va_S A s.heap H locs → W p l e ({ frames := 2, cells := 0, slots := 0, locals := 41 } : Room) s m [.ref a_0].toArray below meth c H locs 0 0 QQ (F0 m 4 ls []) := by
    intro N
    induction N with
    | zero => intro l1_3 l2_4 hf; exact nomatch (show none = some _ from hf)
    | succ N ih =>
      intro l1_3 l2_4 hf H locs ls hl hP hD hS
      rw [fBoard_countFields_L4] at hf
      refine lv_iload_n hx hb dX0_countFields_4 rfl (lv_at hl 2 rfl) ?_
      refine lv_bipush (v := 42) hx hb dX0_countFields_5 (by decide) ?_
      refine lv_icmp_ge (tgt := 32) hx hb dX0_countFields_7 (by decide) (fun cc => ?_) (fun cc => ?_)
      · replace hf := hf_pos cc hf
        obtain rfl := Option.some.inj hf
        exact hE_1 _ _ _ (lv_sub hl [1] rfl) hP hD hS
      · replace hf := hf_neg cc hf
        refine lv_iload_n hx hb dX0_countFields_10 rfl (lv_at hl 1 rfl) ?_
        refine lv_aload_n hx hb dX0_countFields_11 rfl (lv_at hl 0 rfl) ?_
        refine lv_iload_n hx hb dX0_countFields_12 rfl (lv_at hl 2 rfl) ?_
        obtain ⟨s1, h_s1, hf⟩ := hf_bind hf
        refine wh_calli (D := (dC, dI)) (ws' := (wl_fBoard_countFields cI cZ cJ cQ a_0 a_0inField a_0first a_0number a_0last inField_0 first_0)) (va_runV (As := [.int l2_4]) (rest := [.int l1_3]) ⟨hx, hb, hml, hown, hts⟩ (c_fBoard_isCorner l dC dI cI cZ cJ cQ a_0 a_0inField a_0first a_0number a_0last _ h_s1) (cwV 1 hts gX0_countFields_X0_isCorner rfl rfl rfl (by decide +kernel) ⟨Nat.le_of_ble_eq_true rfl, Nat.le_of_ble_eq_true rfl⟩) (wh_preV (C := RX0) (T := TX0) (N := 4) hK hN hP hD [0, 1, 2] rfl rfl 0 0 rfl rfl) rfl rfl hl.1 rfl (lv_room (Nat.le_of_ble_eq_true rfl)) dX0_countFields_13 ⟨Nat.le_refl _, Nat.le_refl _⟩) hP hD hS hA [0, 1, 2] [] [0, 1, 2] rfl rfl rfl rfl (fun H locs hP hD hS => ?_)
        obtain ⟨j2, h_j2, hf⟩ := hf_bind hf
        have hJ_5 : ∀ (H : Heap) (locs : List Loc) (ls : Array Slot), lv_has ls 3 [(0, .ref a_0), (2, .int l2_4)] → va_P (dC, dI) vwCl (wl_fBoard_countFields cI cZ cJ cQ a_0 a_0inField a_0first a_0number a_0last inField_0 first_0) H → va_D A (wl_fBoard_countFields cI cZ cJ cQ a_0 a_0inField a_0first a_0number a_0last inField_0 first_0) → va_S A s.heap H locs → W p l e ({ frames := 2, cells := 0, slots := 0, locals := 41 } : Room) s m [.ref a_0].toArray below meth c H locs 0 0 QQ (F0 m 24 ls [.int j2, .int l1_3]) := by
          intro H locs ls hl hP hD hS
          refine lv_iadd hx hb dX0_countFields_24 ?_
          refine lv_istore_n (lv' := [(1, .int (l1_3 + j2)), (0, .ref a_0), (2, .int l2_4)]) hx hb dX0_countFields_25 rfl hl (by decide) rfl (fun ls hl => ?_)
          refine lv_iinc (v := (l2_4 + (1 : Int32))) (lv' := [(2, .int (l2_4 + (1 : Int32))), (1, .int (l1_3 + j2)), (0, .ref a_0)]) hx hb dX0_countFields_26 hl (k := 2) rfl rfl (by decide) rfl (fun ls hl => ?_)
          refine lv_goto (tgt := 4) hx hb dX0_countFields_29 (by decide) ?_
          exact ih _ _ hf _ _ _ (lv_sub hl [2, 1, 0] rfl) hP hD hS
        clear hf
        have hf := h_j2
        clear h_j2
        refine lv_if_eq (tgt := 23) hx hb dX0_countFields_16 (by decide) (fun cc => ?_) (fun cc => ?_)
        · replace hf := hf_pos cc hf
          refine lv_iconst (v := 0) hx hb dX0_countFields_23 (by decide) ?_
          obtain rfl := Option.some.inj hf
          exact hJ_5 _ _ _ (lv_sub hl [0, 2] rfl) hP hD hS
        · replace hf := hf_neg cc hf
          refine lv_iconst (v := 1) hx hb dX0_countFields_19 (by decide) ?_
          refine lv_goto (tgt := 24) hx hb dX0_countFields_20 (by decide) ?_
          obtain rfl := Option.some.inj hf
          exact hJ_5 _ _ _ (lv_sub hl [0, 2] rfl) hP hD hS
  exact hL_2 _ _ _ h_r3 _ _ _ (lv_sub hl [2, 1, 0] rfl) hP hD hS
set_option maxHeartbeats 4000000 in
set_option maxRecDepth 100000 in
theorem c_fBoard_addsUp (l : Launch) (dC : Nat → ClassId) (dI : Nat → Nat → Nat) (cI cZ cJ cQ : ClassId) (a_0 a_0inField a_0number a_0first a_0last : Nat) (sz : Nat) {F : Nat} {inField_0 : Nat → Int32} {number_0 : Nat → Int32} {out : Int32} (hf : fBoard_addsUp F inField_0 number_0 = some out) : Met l yX0_addsUp wsX0_addsUp ({ frames := 3, cells := 0, slots := 0, locals := 66 } : Room) (va_Pc [.ref a_0] (wlP (dC, dI) (wlT cI cZ cJ cQ) (wl_fBoard_addsUp cI cZ cJ cQ a_0 a_0inField a_0number a_0first a_0last inField_0 number_0) sz)) (va_Qi (fun (v : Int32) (_ : Unit) => v = out) (wlQ (dC, dI) (va_A (wl_fBoard_addsUp cI cZ cJ cQ a_0 a_0inField a_0number a_0first a_0last inField_0 number_0) sz) (wl_fBoard_addsUp cI cZ cJ cQ a_0 a_0inField a_0number a_0first a_0last inField_0 number_0)) (va_A (wl_fBoard_addsUp cI cZ cJ cQ a_0 a_0inField a_0number a_0first a_0last inField_0 number_0) sz)) 0 0 (va_A (wl_fBoard_addsUp cI cZ cJ cQ a_0 a_0inField a_0number a_0first a_0last inField_0 number_0) sz) := by
  refine wh_ofWz (lv := [(0, .ref a_0)]) RX0 (by decide) rfl rfl (Nat.le_of_ble_eq_true rfl) rfl ?_
  intro p e s m below meth c A QQ hx hb hml hown hts hP hK hN hD hA hret ls hl
  have hS : va_S A s.heap s.heap [] := va_S.rf
  unfold fBoard_addsUp at hf
  refine lv_ldc2 hx hb hown (hts (.constantLong RX0 61 (4398046511103)) (List.mem_cons_of_mem _ (List.mem_append_left _ (List.mem_append_left _ (List.mem_of_getElem? (i := 0) rfl))))) dX0_addsUp_0 ?_
  refine lv_aload_n hx hb dX0_addsUp_3 rfl (lv_at hl 0 rfl) ?_
  obtain ⟨s1, h_s1, hf⟩ := hf_bind hf
  refine wh_calll (D := (dC, dI)) (ws' := (wl_fBoard_addsUp cI cZ cJ cQ a_0 a_0inField a_0number a_0first a_0last inField_0 number_0)) (va_runV (As := []) (rest := [.long (4398046511103 : Int64)]) ⟨hx, hb, hml, hown, hts⟩ (c_fBoard_cellsInFields l dC dI cI cZ cJ cQ a_0 a_0inField a_0number a_0first a_0last _ h_s1) (cwV 0 hts gX0_addsUp_X0_cellsInFields rfl rfl rfl (by decide +kernel) ⟨Nat.le_of_ble_eq_true rfl, Nat.le_of_ble_eq_true rfl⟩) (wh_preV (C := RX0) (T := TX0) (N := 4) hK hN hP hD [0, 1] rfl rfl 0 0 rfl rfl) rfl rfl hl.1 rfl (lv_room (Nat.le_of_ble_eq_true rfl)) dX0_addsUp_4 ⟨Nat.le_refl _, Nat.le_refl _⟩) hP hD hS hA [0, 1] [2] [1, 2, 0] rfl rfl rfl rfl (fun H locs hP hD hS => ?_)
  refine lv_ldc2 hx hb hown (hts (.constantLong RX0 55 (-1)) (List.mem_cons_of_mem _ (List.mem_append_left _ (List.mem_append_left _ (List.mem_of_getElem? (i := 1) rfl))))) dX0_addsUp_7 ?_
  refine lv_lxor hx hb dX0_addsUp_10 ?_
  refine lv_land hx hb dX0_addsUp_11 ?_
  refine lv_lstore_n (lv' := [(1, .long ((4398046511103 : Int64) &&& (s1 ^^^ (-1 : Int64)))), (0, .ref a_0)]) hx hb dX0_addsUp_12 rfl hl (by decide) rfl (fun ls hl => ?_)
  refine lv_aload_n hx hb dX0_addsUp_13 rfl (lv_at hl 1 rfl) ?_
  refine lv_lload_n hx hb dX0_addsUp_14 rfl (lv_at hl 0 rfl) ?_
  obtain ⟨s2, h_s2, hf⟩ := hf_bind hf
  refine wh_calli (D := (dC, dI)) (ws' := (wl_fBoard_addsUp cI cZ cJ cQ a_0 a_0inField a_0number a_0first a_0last inField_0 number_0)) (va_runV (As := [.long ((4398046511103 : Int64) &&& (s1 ^^^ (-1 : Int64)))]) (rest := []) ⟨hx, hb, hml, hown, hts⟩ (c_fBoard_sumIn l dC dI cI cZ cJ cQ a_0 a_0number a_0inField a_0first a_0last _ h_s2) (cwV 1 hts gX0_addsUp_X0_sumIn rfl rfl rfl (by decide +kernel) ⟨Nat.le_of_ble_eq_true rfl, Nat.le_of_ble_eq_true rfl⟩) (wh_preV (C := RX0) (T := TX0) (N := 4) hK hN hP hD [0, 2] rfl rfl 0 0 rfl rfl) rfl rfl hl.1 rfl (lv_room (Nat.le_of_ble_eq_true rfl)) dX0_addsUp_15 ⟨Nat.le_refl _, Nat.le_refl _⟩) hP hD hS hA [0, 2] [1] [1, 0, 2] rfl rfl rfl rfl (fun H locs hP hD hS => ?_)
  refine lv_lload_n hx hb dX0_addsUp_18 rfl (lv_at hl 0 rfl) ?_
  refine wh_calli (ws' := (wl_fBoard_addsUp cI cZ cJ cQ a_0 a_0inField a_0number a_0first a_0last inField_0 number_0)) (va_runS (As := [.long ((4398046511103 : Int64) &&& (s1 ^^^ (-1 : Int64)))]) (rest := [.int s2]) ⟨hx, hb, hml, hown, hts⟩ (c_fJ_bitCount l dC dI cI cZ cJ cQ _ ((4398046511103 : Int64) &&& (s1 ^^^ (-1 : Int64)))) (va_cwS 1 hts gX0_addsUp_J13_bitCount_95d88 rfl rfl rfl (by decide +kernel) ⟨Nat.le_of_ble_eq_true rfl, Nat.le_of_ble_eq_true rfl⟩) (wh_preS hK hN hP hD [] rfl rfl) rfl rfl hl.1 rfl (lv_room (Nat.le_of_ble_eq_true rfl)) dX0_addsUp_19 ⟨Nat.le_refl _, Nat.le_refl _⟩) hP hD hS hA [] [0, 1, 2] [0, 1, 2] rfl rfl rfl rfl (fun H locs hP hD hS => ?_)
  refine lv_icmp_ne (tgt := 29) hx hb dX0_addsUp_22 (by decide) (fun cc => ?_) (fun cc => ?_)
  · replace hf := hf_pos cc hf
    refine lv_iconst (v := 0) hx hb dX0_addsUp_29 (by decide) ?_
    obtain rfl := Option.some.inj hf
    exact hret _ _ _ _ (by decide) hP hD hS dX0_addsUp_30
  · replace hf := hf_neg (not_not_intro cc) hf
    refine lv_iconst (v := 1) hx hb dX0_addsUp_25 (by decide) ?_
    refine lv_goto (tgt := 30) hx hb dX0_addsUp_26 (by decide) ?_
    obtain rfl := Option.some.inj hf
    exact hret _ _ _ _ (by decide) hP hD hS dX0_addsUp_30
set_option maxHeartbeats 4000000 in
set_option maxRecDepth 100000 in
theorem c_fBoard_openNumbers (l : Launch) (dC : Nat → ClassId) (dI : Nat → Nat → Nat) (cI cZ cJ cQ : ClassId) (a_0 a_0number a_0inField a_0first a_0last : Nat) (sz : Nat) {F : Nat} {number_0 : Nat → Int32} {inField_0 : Nat → Int32} {out : Int64} (hf : fBoard_openNumbers F number_0 inField_0 = some out) : Met l yX0_openNumbers wsX0_openNumbers ({ frames := 2, cells := 0, slots := 0, locals := 43 } : Room) (va_Pc [.ref a_0] (wlP (dC, dI) (wlT cI cZ cJ cQ) (wl_fBoard_openNumbers cI cZ cJ cQ a_0 a_0number a_0inField a_0first a_0last number_0 inField_0) sz)) (va_Ql (fun (v : Int64) (_ : Unit) => v = out) (wlQ (dC, dI) (va_A (wl_fBoard_openNumbers cI cZ cJ cQ a_0 a_0number a_0inField a_0first a_0last number_0 inField_0) sz) (wl_fBoard_openNumbers cI cZ cJ cQ a_0 a_0number a_0inField a_0first a_0last number_0 inField_0)) (va_A (wl_fBoard_openNumbers cI cZ cJ cQ a_0 a_0number a_0inField a_0first a_0last number_0 inField_0) sz)) 0 0 (va_A (wl_fBoard_openNumbers cI cZ cJ cQ a_0 a_0number a_0inField a_0first a_0last number_0 inField_0) sz) := by
  refine wh_ofWl (lv := [(0, .ref a_0)]) RX0 (by decide) rfl rfl (Nat.le_of_ble_eq_true rfl) rfl ?_
  intro p e s m below meth c A QQ hx hb hml hown hts hP hK hN hD hA hret ls hl
  have hS : va_S A s.heap s.heap [] := va_S.rf
  unfold fBoard_openNumbers at hf
  refine lv_aload_n hx hb dX0_openNumbers_0 rfl (lv_at hl 0 rfl) ?_
  obtain ⟨s1, h_s1, hf⟩ := hf_bind hf
  refine wh_calll (D := (dC, dI)) (ws' := (wl_fBoard_openNumbers cI cZ cJ cQ a_0 a_0number a_0inField a_0first a_0last number_0 inField_0)) (va_runV (As := []) (rest := []) ⟨hx, hb, hml, hown, hts⟩ (c_fBoard_cellsWithNumber l dC dI cI cZ cJ cQ a_0 a_0number a_0inField a_0first a_0last _ h_s1) (cwV 0 hts gX0_openNumbers_X0_cellsWithNumber rfl rfl rfl (by decide +kernel) ⟨Nat.le_of_ble_eq_true rfl, Nat.le_of_ble_eq_true rfl⟩) (wh_preV (C := RX0) (T := TX0) (N := 4) hK hN hP hD [0, 1] rfl rfl 0 0 rfl rfl) rfl rfl hl.1 rfl (lv_room (Nat.le_of_ble_eq_true rfl)) dX0_openNumbers_1 ⟨Nat.le_refl _, Nat.le_refl _⟩) hP hD hS hA [0, 1] [2] [1, 2, 0] rfl rfl rfl rfl (fun H locs hP hD hS => ?_)
  refine lv_aload_n hx hb dX0_openNumbers_4 rfl (lv_at hl 0 rfl) ?_
  obtain ⟨s2, h_s2, hf⟩ := hf_bind hf
  refine wh_calll (D := (dC, dI)) (ws' := (wl_fBoard_openNumbers cI cZ cJ cQ a_0 a_0number a_0inField a_0first a_0last number_0 inField_0)) (va_runV (As := []) (rest := [.long s1]) ⟨hx, hb, hml, hown, hts⟩ (c_fBoard_cellsInFields l dC dI cI cZ cJ cQ a_0 a_0inField a_0number a_0first a_0last _ h_s2) (cwV 0 hts gX0_openNumbers_X0_cellsInFields rfl rfl rfl (by decide +kernel) ⟨Nat.le_of_ble_eq_true rfl, Nat.le_of_ble_eq_true rfl⟩) (wh_preV (C := RX0) (T := TX0) (N := 4) hK hN hP hD [0, 2] rfl rfl 0 0 rfl rfl) rfl rfl hl.1 rfl (lv_room (Nat.le_of_ble_eq_true rfl)) dX0_openNumbers_5 ⟨Nat.le_refl _, Nat.le_refl _⟩) hP hD hS hA [0, 2] [1] [1, 0, 2] rfl rfl rfl rfl (fun H locs hP hD hS => ?_)
  refine lv_ldc2 hx hb hown (hts (.constantLong RX0 55 (-1)) (List.mem_cons_of_mem _ (List.mem_append_left _ (List.mem_of_getElem? (i := 0) rfl)))) dX0_openNumbers_8 ?_
  refine lv_lxor hx hb dX0_openNumbers_11 ?_
  refine lv_land hx hb dX0_openNumbers_12 ?_
  obtain rfl := Option.some.inj hf
  exact hret _ _ _ _ hP hD hS dX0_openNumbers_13
set_option maxHeartbeats 4000000 in
set_option maxRecDepth 100000 in
theorem c_fBoard_removeField (l : Launch) (dC : Nat → ClassId) (dI : Nat → Nat → Nat) (cI cZ cJ cQ : ClassId) (a_0 a_0first a_0inField a_0number a_0last : Nat) (sz : Nat) {F : Nat} {x1 : Int32} {first_0 : Nat → Int32} {inField_0 : Nat → Int32} {out : (Nat → Int32)} (hf : fBoard_removeField F x1 first_0 inField_0 = some out) : Met l yX0_removeField wsX0_removeField ({ frames := 2, cells := 0, slots := 0, locals := 41 } : Room) (va_Pc [.ref a_0, .int x1] (wlP (dC, dI) (wlT cI cZ cJ cQ) (wl_fBoard_removeField cI cZ cJ cQ a_0 a_0first a_0inField a_0number a_0last first_0 inField_0) sz)) (va_Qv (fun (_ : Unit) => True) (wlQ (dC, dI) (va_A (wl_fBoard_removeField cI cZ cJ cQ a_0 a_0first a_0inField a_0number a_0last first_0 inField_0) sz) (wl_fBoard_removeField cI cZ cJ cQ a_0 a_0first a_0inField a_0number a_0last first_0 out)) (va_A (wl_fBoard_removeField cI cZ cJ cQ a_0 a_0first a_0inField a_0number a_0last first_0 inField_0) sz)) 0 0 (va_A (wl_fBoard_removeField cI cZ cJ cQ a_0 a_0first a_0inField a_0number a_0last first_0 inField_0) sz) := by
  refine wh_ofWv (lv := [(0, .ref a_0), (1, .int x1)]) RX0 (by decide) rfl rfl (Nat.le_of_ble_eq_true rfl) rfl ?_
  intro p e s m below meth c A QQ hx hb hml hown hts hP hK hN hD hA hret ls hl
  have hS : va_S A s.heap s.heap [] := va_S.rf
  have hiX0 : ∀ w ∈ wsX00, w ∈ wsX0_removeField := (fun _ h => List.mem_cons_of_mem _ (List.mem_append_right _ (h)))
  unfold fBoard_removeField at hf
  refine lv_aload_n hx hb dX0_removeField_0 rfl (lv_at hl 0 rfl) ?_
  refine lv_iload_n hx hb dX0_removeField_1 rfl (lv_at hl 1 rfl) ?_
  obtain ⟨s1, h_s1, hf⟩ := hf_bind hf
  refine wh_calli (D := (dC, dI)) (ws' := (wl_fBoard_removeField cI cZ cJ cQ a_0 a_0first a_0inField a_0number a_0last first_0 inField_0)) (va_runV (As := [.int x1]) (rest := []) ⟨hx, hb, hml, hown, hts⟩ (c_fBoard_firstOfField l dC dI cI cZ cJ cQ a_0 a_0first a_0number a_0inField a_0last _ h_s1) (cwV 1 hts gX0_removeField_X0_firstOfField rfl rfl rfl (by decide +kernel) ⟨Nat.le_of_ble_eq_true rfl, Nat.le_of_ble_eq_true rfl⟩) (wh_preV (C := RX0) (T := TX0) (N := 4) hK hN hP hD [0, 1] rfl rfl 0 0 rfl rfl) rfl rfl hl.1 rfl (lv_room (Nat.le_of_ble_eq_true rfl)) dX0_removeField_2 ⟨Nat.le_refl _, Nat.le_refl _⟩) hP hD hS hA [0, 1] [2] [1, 2, 0] rfl rfl rfl rfl (fun H locs hP hD hS => ?_)
  refine lv_istore_n (lv' := [(2, .int s1), (0, .ref a_0), (1, .int x1)]) hx hb dX0_removeField_5 rfl hl (by decide) rfl (fun ls hl => ?_)
  refine lv_iconst (v := 0) hx hb dX0_removeField_6 (by decide) ?_
  refine lv_istore_n (lv' := [(3, .int (0 : Int32)), (2, .int s1), (0, .ref a_0), (1, .int x1)]) hx hb dX0_removeField_7 rfl hl (by decide) rfl (fun ls hl => ?_)
  obtain ⟨r6, h_r6, hf⟩ := hf_bind hf
  have hE_1 : ∀ (H : Heap) (locs : List Loc) (ls : Array Slot), lv_has ls 4 [] → va_P (dC, dI) vwCl (wl_fBoard_removeField cI cZ cJ cQ a_0 a_0first a_0inField a_0number a_0last first_0 r6.2) H → va_D A (wl_fBoard_removeField cI cZ cJ cQ a_0 a_0first a_0inField a_0number a_0last first_0 r6.2) → va_S A s.heap H locs → W p l e ({ frames := 2, cells := 0, slots := 0, locals := 41 } : Room) s m [.ref a_0, .int x1].toArray below meth c H locs 0 0 QQ (F0 m 46 ls []) := by
    intro H locs ls hl hP hD hS
    obtain rfl := Option.some.inj hf
    exact hret _ _ _ _ hP hD hS dX0_removeField_46
  have hL_2 : ∀ (N : Nat) (l3_3 : Int32) (inField_0_4 : Nat → Int32), fBoard_removeField_L8 F s1 first_0 N l3_3 inField_0_4 = some r6 → ∀ (H : Heap) (locs : List Loc) (ls : Array Slot), lv_has ls 4 [(0, .ref a_0), (2, .int s1), (3, .int l3_3)] → va_P (dC, dI) vwCl (wl_fBoard_removeField cI cZ cJ cQ a_0 a_0first a_0inField a_0number a_0last first_0 inField_0_4) H → va_D A (wl_fBoard_removeField cI cZ cJ cQ a_0 a_0first a_0inField a_0number a_0last first_0 inField_0_4) → va_S A s.heap H locs → W p l e ({ frames := 2, cells := 0, slots := 0, locals := 41 } : Room) s m [.ref a_0, .int x1].toArray below meth c H locs 0 0 QQ (F0 m 8 ls []) := by
    intro N
    induction N with
    | zero => intro l3_3 inField_0_4 hf; exact nomatch (show none = some _ from hf)
    | succ N ih =>
      intro l3_3 inField_0_4 hf H locs ls hl hP hD hS
      rw [fBoard_removeField_L8] at hf
      refine lv_iload_n hx hb dX0_removeField_8 rfl (lv_at hl 2 rfl) ?_
      refine lv_bipush (v := 42) hx hb dX0_removeField_9 (by decide) ?_
      refine lv_icmp_ge (tgt := 46) hx hb dX0_removeField_11 (by decide) (fun cc => ?_) (fun cc => ?_)
      · replace hf := hf_pos cc hf
        obtain rfl := Option.some.inj hf
        exact hE_1 _ _ _ (lv_sub hl [] rfl) hP hD hS
      · replace hf := hf_neg cc hf
        refine lv_aload_n hx hb dX0_removeField_14 rfl (lv_at hl 0 rfl) ?_
        refine va_get (D := (dC, dI)) (ci := 0) (C := RX0) (T := TX0) (N := 4) hx hb hts hiX0 hown hK hP 0 rfl rfl 1 (by decide) (hts (.fieldLink RX0 15 "PaddockFields$Board" "inField" "[Z") (List.mem_cons_of_mem _ (List.mem_append_left _ (List.mem_of_getElem? (i := 0) rfl)))) (fun _ h9 => h9) rfl dX0_removeField_15 ?_
        refine lv_iload_n hx hb dX0_removeField_18 rfl (lv_at hl 2 rfl) ?_
        obtain ⟨v2, h_v2, hf⟩ := hf_bind hf
        refine wh_ldZ (D := (dC, dI)) hx hb hK hP 2 1 rfl rfl h_v2 dX0_removeField_19 ?_
        obtain ⟨j5, h_j5, hf⟩ := hf_bind hf
        have hJ_5 : ∀ (H : Heap) (locs : List Loc) (ls : Array Slot), lv_has ls 4 [(0, .ref a_0), (2, .int s1), (3, .int l3_3)] → va_P (dC, dI) vwCl (wl_fBoard_removeField cI cZ cJ cQ a_0 a_0first a_0inField a_0number a_0last first_0 j5) H → va_D A (wl_fBoard_removeField cI cZ cJ cQ a_0 a_0first a_0inField a_0number a_0last first_0 j5) → va_S A s.heap H locs → W p l e ({ frames := 2, cells := 0, slots := 0, locals := 41 } : Room) s m [.ref a_0, .int x1].toArray below meth c H locs 0 0 QQ (F0 m 40 ls []) := by
          intro H locs ls hl hP hD hS
          refine lv_iinc (v := (l3_3 + (1 : Int32))) (lv' := [(3, .int (l3_3 + (1 : Int32))), (0, .ref a_0), (2, .int s1)]) hx hb dX0_removeField_40 hl (k := 2) rfl rfl (by decide) rfl (fun ls hl => ?_)
          refine lv_goto (tgt := 8) hx hb dX0_removeField_43 (by decide) ?_
          exact ih _ _ hf _ _ _ (lv_sub hl [1, 2, 0] rfl) hP hD hS
        clear hf
        have hf := h_j5
        clear h_j5
        refine lv_if_eq (tgt := 40) hx hb dX0_removeField_20 (by decide) (fun cc => ?_) (fun cc => ?_)
        · replace hf := hf_pos cc hf
          obtain rfl := Option.some.inj hf
          exact hJ_5 _ _ _ (lv_sub hl [0, 1, 2] rfl) hP hD hS
        · replace hf := hf_neg cc hf
          refine lv_aload_n hx hb dX0_removeField_23 rfl (lv_at hl 0 rfl) ?_
          refine va_get (D := (dC, dI)) (ci := 0) (C := RX0) (T := TX0) (N := 4) hx hb hts hiX0 hown hK hP 0 rfl rfl 2 (by decide) (hts (.fieldLink RX0 19 "PaddockFields$Board" "first" "[I") (List.mem_cons_of_mem _ (List.mem_append_left _ (List.mem_of_getElem? (i := 1) rfl)))) (fun _ h9 => h9) rfl dX0_removeField_24 ?_
          refine lv_iload_n hx hb dX0_removeField_27 rfl (lv_at hl 2 rfl) ?_
          obtain ⟨v3, h_v3, hf⟩ := hf_bind hf
          refine wh_ldI (D := (dC, dI)) hx hb hK hP 1 0 rfl rfl h_v3 dX0_removeField_28 ?_
          refine lv_iload_n hx hb dX0_removeField_29 rfl (lv_at hl 1 rfl) ?_
          refine lv_icmp_ne (tgt := 40) hx hb dX0_removeField_30 (by decide) (fun cc => ?_) (fun cc => ?_)
          · replace hf := hf_pos cc hf
            obtain rfl := Option.some.inj hf
            exact hJ_5 _ _ _ (lv_sub hl [0, 1, 2] rfl) hP hD hS
          · replace hf := hf_neg (not_not_intro cc) hf
            refine lv_aload_n hx hb dX0_removeField_33 rfl (lv_at hl 0 rfl) ?_
            refine va_get (D := (dC, dI)) (ci := 0) (C := RX0) (T := TX0) (N := 4) hx hb hts hiX0 hown hK hP 0 rfl rfl 1 (by decide) (hts (.fieldLink RX0 15 "PaddockFields$Board" "inField" "[Z") (List.mem_cons_of_mem _ (List.mem_append_left _ (List.mem_of_getElem? (i := 0) rfl)))) (fun _ h9 => h9) rfl dX0_removeField_34 ?_
            refine lv_iload_n hx hb dX0_removeField_37 rfl (lv_at hl 2 rfl) ?_
            refine lv_iconst (v := 0) hx hb dX0_removeField_38 (by decide) ?_
            obtain ⟨w4, h_w4, hf⟩ := hf_bind hf
            refine wh_stZ (D := (dC, dI)) (ws' := (wl_fBoard_removeField cI cZ cJ cQ a_0 a_0first a_0inField a_0number a_0last first_0 w4)) hx hb hK hP hD hS 2 1 rfl rfl rfl h_w4 dX0_removeField_39 (fun H locs hP hD hS => ?_)
            obtain rfl := Option.some.inj hf
            exact hJ_5 _ _ _ (lv_sub hl [0, 1, 2] rfl) hP hD hS
  exact hL_2 _ _ _ h_r6 _ _ _ (lv_sub hl [2, 1, 0] rfl) hP hD hS
set_option maxHeartbeats 4000000 in
set_option maxRecDepth 100000 in
theorem c_fBoard_countFieldsMissingIn (l : Launch) (dC : Nat → ClassId) (dI : Nat → Nat → Nat) (cI cZ cJ cQ : ClassId) (a_0 a_0inField a_0first a_1 a_1inField a_1first a_1last a_0last a_0number a_1number : Nat) (sz : Nat) {F : Nat} {inField_0 : Nat → Int32} {first_0 : Nat → Int32} {inField_1 : Nat → Int32} {first_1 : Nat → Int32} {last_1 : Nat → Int32} {last_0 : Nat → Int32} {out : Int32} (hf : fBoard_countFieldsMissingIn F inField_0 first_0 inField_1 first_1 last_1 last_0 = some out) : Met l yX0_countFieldsMissingIn wsX0_countFieldsMissingIn ({ frames := 2, cells := 0, slots := 0, locals := 41 } : Room) (va_Pc [.ref a_0, .ref a_1] (wlP (dC, dI) (wlT cI cZ cJ cQ) (wl_fBoard_countFieldsMissingIn cI cZ cJ cQ a_0 a_0inField a_0first a_1 a_1inField a_1first a_1last a_0last a_0number a_1number inField_0 first_0 inField_1 first_1 last_1 last_0) sz)) (va_Qi (fun (v : Int32) (_ : Unit) => v = out) (wlQ (dC, dI) (va_A (wl_fBoard_countFieldsMissingIn cI cZ cJ cQ a_0 a_0inField a_0first a_1 a_1inField a_1first a_1last a_0last a_0number a_1number inField_0 first_0 inField_1 first_1 last_1 last_0) sz) (wl_fBoard_countFieldsMissingIn cI cZ cJ cQ a_0 a_0inField a_0first a_1 a_1inField a_1first a_1last a_0last a_0number a_1number inField_0 first_0 inField_1 first_1 last_1 last_0)) (va_A (wl_fBoard_countFieldsMissingIn cI cZ cJ cQ a_0 a_0inField a_0first a_1 a_1inField a_1first a_1last a_0last a_0number a_1number inField_0 first_0 inField_1 first_1 last_1 last_0) sz)) 0 0 (va_A (wl_fBoard_countFieldsMissingIn cI cZ cJ cQ a_0 a_0inField a_0first a_1 a_1inField a_1first a_1last a_0last a_0number a_1number inField_0 first_0 inField_1 first_1 last_1 last_0) sz) := by
  refine wh_ofWi (lv := [(0, .ref a_0), (1, .ref a_1)]) RX0 (by decide) rfl rfl (Nat.le_of_ble_eq_true rfl) rfl ?_
  intro p e s m below meth c A QQ hx hb hml hown hts hP hK hN hD hA hret ls hl
  have hS : va_S A s.heap s.heap [] := va_S.rf
  have hiX0 : ∀ w ∈ wsX00, w ∈ wsX0_countFieldsMissingIn := (fun _ h => List.mem_cons_of_mem _ (List.mem_append_right _ (h)))
  unfold fBoard_countFieldsMissingIn at hf
  refine lv_iconst (v := 0) hx hb dX0_countFieldsMissingIn_0 (by decide) ?_
  refine lv_istore_n (lv' := [(2, .int (0 : Int32)), (0, .ref a_0), (1, .ref a_1)]) hx hb dX0_countFieldsMissingIn_1 rfl hl (by decide) rfl (fun ls hl => ?_)
  refine lv_iconst (v := 0) hx hb dX0_countFieldsMissingIn_2 (by decide) ?_
  refine lv_istore_n (lv' := [(3, .int (0 : Int32)), (2, .int (0 : Int32)), (0, .ref a_0), (1, .ref a_1)]) hx hb dX0_countFieldsMissingIn_3 rfl hl (by decide) rfl (fun ls hl => ?_)
  obtain ⟨r6, h_r6, hf⟩ := hf_bind hf
  have hE_1 : ∀ (H : Heap) (locs : List Loc) (ls : Array Slot), lv_has ls 4 [(2, .int r6.1)] → va_P (dC, dI) vwCl (wl_fBoard_countFieldsMissingIn cI cZ cJ cQ a_0 a_0inField a_0first a_1 a_1inField a_1first a_1last a_0last a_0number a_1number inField_0 first_0 inField_1 first_1 last_1 last_0) H → va_D A (wl_fBoard_countFieldsMissingIn cI cZ cJ cQ a_0 a_0inField a_0first a_1 a_1inField a_1first a_1last a_0last a_0number a_1number inField_0 first_0 inField_1 first_1 last_1 last_0) → va_S A s.heap H locs → W p l e ({ frames := 2, cells := 0, slots := 0, locals := 41 } : Room) s m [.ref a_0, .ref a_1].toArray below meth c H locs 0 0 QQ (F0 m 50 ls []) := by
    intro H locs ls hl hP hD hS
    refine lv_iload_n hx hb dX0_countFieldsMissingIn_50 rfl (lv_at hl 0 rfl) ?_
    obtain rfl := Option.some.inj hf
    exact hret _ _ _ _ hP hD hS dX0_countFieldsMissingIn_51
  have hL_2 : ∀ (N : Nat) (l2_3 : Int32) (l3_4 : Int32), fBoard_countFieldsMissingIn_L4 F inField_0 first_0 inField_1 first_1 last_1 last_0 N l2_3 l3_4 = some r6 → ∀ (H : Heap) (locs : List Loc) (ls : Array Slot), lv_has ls 4 [(0, .ref a_0), (1, .ref a_1), (2, .int l2_3), (3, .int l3_4)] → va_P (dC, dI) vwCl (wl_fBoard_countFieldsMissingIn cI cZ cJ cQ a_0 a_0inField a_0first a_1 a_1inField a_1first a_1last a_0last a_0number a_1number inField_0 first_0 inField_1 first_1 last_1 last_0) H → va_D A (wl_fBoard_countFieldsMissingIn cI cZ cJ cQ a_0 a_0inField a_0first a_1 a_1inField a_1first a_1last a_0last a_0number a_1number inField_0 first_0 inField_1 first_1 last_1 last_0) → va_S A s.heap H locs → W p l e ({ frames := 2, cells := 0, slots := 0, locals := 41 } : Room) s m [.ref a_0, .ref a_1].toArray below meth c H locs 0 0 QQ (F0 m 4 ls []) := by
    intro N
    induction N with
    | zero => intro l2_3 l3_4 hf; exact nomatch (show none = some _ from hf)
    | succ N ih =>
      intro l2_3 l3_4 hf H locs ls hl hP hD hS
      rw [fBoard_countFieldsMissingIn_L4] at hf
      refine lv_iload_n hx hb dX0_countFieldsMissingIn_4 rfl (lv_at hl 3 rfl) ?_
      refine lv_bipush (v := 42) hx hb dX0_countFieldsMissingIn_5 (by decide) ?_
      refine lv_icmp_ge (tgt := 50) hx hb dX0_countFieldsMissingIn_7 (by decide) (fun cc => ?_) (fun cc => ?_)
      · replace hf := hf_pos cc hf
        obtain rfl := Option.some.inj hf
        exact hE_1 _ _ _ (lv_sub hl [2] rfl) hP hD hS
      · replace hf := hf_neg cc hf
        refine lv_aload_n hx hb dX0_countFieldsMissingIn_10 rfl (lv_at hl 0 rfl) ?_
        refine lv_iload_n hx hb dX0_countFieldsMissingIn_11 rfl (lv_at hl 3 rfl) ?_
        obtain ⟨s1, h_s1, hf⟩ := hf_bind hf
        refine wh_calli (D := (dC, dI)) (ws' := (wl_fBoard_countFieldsMissingIn cI cZ cJ cQ a_0 a_0inField a_0first a_1 a_1inField a_1first a_1last a_0last a_0number a_1number inField_0 first_0 inField_1 first_1 last_1 last_0)) (va_runV (As := [.int l3_4]) (rest := []) ⟨hx, hb, hml, hown, hts⟩ (c_fBoard_isCorner l dC dI cI cZ cJ cQ a_0 a_0inField a_0first a_0number a_0last _ h_s1) (cwV 1 hts gX0_countFieldsMissingIn_X0_isCorner rfl rfl rfl (by decide +kernel) ⟨Nat.le_of_ble_eq_true rfl, Nat.le_of_ble_eq_true rfl⟩) (wh_preV (C := RX0) (T := TX0) (N := 4) hK hN hP hD [0, 1, 2] rfl rfl 0 0 rfl rfl) rfl rfl hl.1 rfl (lv_room (Nat.le_of_ble_eq_true rfl)) dX0_countFieldsMissingIn_12 ⟨Nat.le_refl _, Nat.le_refl _⟩) hP hD hS hA [0, 1, 2] [3, 4, 5, 6, 7] [5, 6, 7, 0, 1, 2, 3, 4] rfl rfl rfl rfl (fun H locs hP hD hS => ?_)
        obtain ⟨j5, h_j5, hf⟩ := hf_bind hf
        have hJ_5 : ∀ (H : Heap) (locs : List Loc) (ls : Array Slot), lv_has ls 4 [(0, .ref a_0), (1, .ref a_1), (2, .int j5), (3, .int l3_4)] → va_P (dC, dI) vwCl (wl_fBoard_countFieldsMissingIn cI cZ cJ cQ a_0 a_0inField a_0first a_1 a_1inField a_1first a_1last a_0last a_0number a_1number inField_0 first_0 inField_1 first_1 last_1 last_0) H → va_D A (wl_fBoard_countFieldsMissingIn cI cZ cJ cQ a_0 a_0inField a_0first a_1 a_1inField a_1first a_1last a_0last a_0number a_1number inField_0 first_0 inField_1 first_1 last_1 last_0) → va_S A s.heap H locs → W p l e ({ frames := 2, cells := 0, slots := 0, locals := 41 } : Room) s m [.ref a_0, .ref a_1].toArray below meth c H locs 0 0 QQ (F0 m 44 ls []) := by
          intro H locs ls hl hP hD hS
          refine lv_iinc (v := (l3_4 + (1 : Int32))) (lv' := [(3, .int (l3_4 + (1 : Int32))), (0, .ref a_0), (1, .ref a_1), (2, .int j5)]) hx hb dX0_countFieldsMissingIn_44 hl (k := 3) rfl rfl (by decide) rfl (fun ls hl => ?_)
          refine lv_goto (tgt := 4) hx hb dX0_countFieldsMissingIn_47 (by decide) ?_
          exact ih _ _ hf _ _ _ (lv_sub hl [1, 2, 3, 0] rfl) hP hD hS
        clear hf
        have hf := h_j5
        clear h_j5
        refine lv_if_eq (tgt := 44) hx hb dX0_countFieldsMissingIn_15 (by decide) (fun cc => ?_) (fun cc => ?_)
        · replace hf := hf_pos cc hf
          obtain rfl := Option.some.inj hf
          exact hJ_5 _ _ _ (lv_sub hl [0, 1, 2, 3] rfl) hP hD hS
        · replace hf := hf_neg cc hf
          refine lv_aload_n hx hb dX0_countFieldsMissingIn_18 rfl (lv_at hl 1 rfl) ?_
          refine lv_iload_n hx hb dX0_countFieldsMissingIn_19 rfl (lv_at hl 3 rfl) ?_
          obtain ⟨s2, h_s2, hf⟩ := hf_bind hf
          refine wh_calli (D := (dC, dI)) (ws' := (wl_fBoard_countFieldsMissingIn cI cZ cJ cQ a_0 a_0inField a_0first a_1 a_1inField a_1first a_1last a_0last a_0number a_1number inField_0 first_0 inField_1 first_1 last_1 last_0)) (va_runV (As := [.int l3_4]) (rest := []) ⟨hx, hb, hml, hown, hts⟩ (c_fBoard_isCorner l dC dI cI cZ cJ cQ a_1 a_1inField a_1first a_1number a_1last _ h_s2) (cwV 1 hts gX0_countFieldsMissingIn_X0_isCorner rfl rfl rfl (by decide +kernel) ⟨Nat.le_of_ble_eq_true rfl, Nat.le_of_ble_eq_true rfl⟩) (wh_preV (C := RX0) (T := TX0) (N := 4) hK hN hP hD [3, 4, 5] rfl rfl 0 0 rfl rfl) rfl rfl hl.1 rfl (lv_room (Nat.le_of_ble_eq_true rfl)) dX0_countFieldsMissingIn_20 ⟨Nat.le_refl _, Nat.le_refl _⟩) hP hD hS hA [3, 4, 5] [0, 1, 2, 6, 7] [0, 1, 2, 5, 6, 7, 3, 4] rfl rfl rfl rfl (fun H locs hP hD hS => ?_)
          refine lv_if_eq (tgt := 41) hx hb dX0_countFieldsMissingIn_23 (by decide) (fun cc => ?_) (fun cc => ?_)
          · replace hf := hf_pos cc hf
            refine lv_iinc (v := (l2_3 + (1 : Int32))) (lv' := [(2, .int (l2_3 + (1 : Int32))), (0, .ref a_0), (1, .ref a_1), (3, .int l3_4)]) hx hb dX0_countFieldsMissingIn_41 hl (k := 2) rfl rfl (by decide) rfl (fun ls hl => ?_)
            obtain rfl := Option.some.inj hf
            exact hJ_5 _ _ _ (lv_sub hl [1, 2, 0, 3] rfl) hP hD hS
          · replace hf := hf_neg cc hf
            refine lv_aload_n hx hb dX0_countFieldsMissingIn_26 rfl (lv_at hl 1 rfl) ?_
            refine va_get (D := (dC, dI)) (ci := 0) (C := RX0) (T := TX0) (N := 4) hx hb hts hiX0 hown hK hP 3 rfl rfl 3 (by decide) (hts (.fieldLink RX0 22 "PaddockFields$Board" "last" "[I") (List.mem_cons_of_mem _ (List.mem_append_left _ (List.mem_of_getElem? (i := 0) rfl)))) (fun _ h9 => h9) rfl dX0_countFieldsMissingIn_27 ?_
            refine lv_iload_n hx hb dX0_countFieldsMissingIn_30 rfl (lv_at hl 3 rfl) ?_
            obtain ⟨v3, h_v3, hf⟩ := hf_bind hf
            refine wh_ldI (D := (dC, dI)) hx hb hK hP 6 0 rfl rfl h_v3 dX0_countFieldsMissingIn_31 ?_
            refine lv_aload_n hx hb dX0_countFieldsMissingIn_32 rfl (lv_at hl 0 rfl) ?_
            refine va_get (D := (dC, dI)) (ci := 0) (C := RX0) (T := TX0) (N := 4) hx hb hts hiX0 hown hK hP 0 rfl rfl 3 (by decide) (hts (.fieldLink RX0 22 "PaddockFields$Board" "last" "[I") (List.mem_cons_of_mem _ (List.mem_append_left _ (List.mem_of_getElem? (i := 0) rfl)))) (fun _ h9 => h9) rfl dX0_countFieldsMissingIn_33 ?_
            refine lv_iload_n hx hb dX0_countFieldsMissingIn_36 rfl (lv_at hl 3 rfl) ?_
            obtain ⟨v4, h_v4, hf⟩ := hf_bind hf
            refine wh_ldI (D := (dC, dI)) hx hb hK hP 7 0 rfl rfl h_v4 dX0_countFieldsMissingIn_37 ?_
            refine lv_icmp_eq (tgt := 44) hx hb dX0_countFieldsMissingIn_38 (by decide) (fun cc => ?_) (fun cc => ?_)
            · replace hf := hf_pos cc hf
              obtain rfl := Option.some.inj hf
              exact hJ_5 _ _ _ (lv_sub hl [0, 1, 2, 3] rfl) hP hD hS
            · replace hf := hf_neg cc hf
              refine lv_iinc (v := (l2_3 + (1 : Int32))) (lv' := [(2, .int (l2_3 + (1 : Int32))), (0, .ref a_0), (1, .ref a_1), (3, .int l3_4)]) hx hb dX0_countFieldsMissingIn_41 hl (k := 2) rfl rfl (by decide) rfl (fun ls hl => ?_)
              obtain rfl := Option.some.inj hf
              exact hJ_5 _ _ _ (lv_sub hl [1, 2, 0, 3] rfl) hP hD hS
  exact hL_2 _ _ _ h_r6 _ _ _ (lv_sub hl [2, 3, 1, 0] rfl) hP hD hS
