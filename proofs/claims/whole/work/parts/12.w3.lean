def fHistory_store (F : Nat) (x1 : Int32) (a_0snapshot0 : Nat) (a_0snapshot1 : Nat) (snapshot_0 : Nat → Option Nat) (number_2 : Nat → Int32) (number_0snapshot0 : Nat → Int32) (inField_2 : Nat → Int32) (inField_0snapshot0 : Nat → Int32) (first_2 : Nat → Int32) (first_0snapshot0 : Nat → Int32) (last_2 : Nat → Int32) (last_0snapshot0 : Nat → Int32) (filled_0 : Nat → Int32) (number_0snapshot1 : Nat → Int32) (inField_0snapshot1 : Nat → Int32) (first_0snapshot1 : Nat → Int32) (last_0snapshot1 : Nat → Int32) : Option ((Nat → Int32) × (Nat → Int32) × (Nat → Int32) × (Nat → Int32) × (Nat → Int32) × (Nat → Int32) × (Nat → Int32) × (Nat → Int32) × (Nat → Int32)) :=
  if x1 < (0 : Int32) then
    some (number_0snapshot0, inField_0snapshot0, first_0snapshot0, last_0snapshot0, filled_0, number_0snapshot1, inField_0snapshot1, first_0snapshot1, last_0snapshot1)
  else
    if (2 : Int32) ≤ x1 then
      some (number_0snapshot0, inField_0snapshot0, first_0snapshot0, last_0snapshot0, filled_0, number_0snapshot1, inField_0snapshot1, first_0snapshot1, last_0snapshot1)
    else
      (o_rdq 2 snapshot_0 x1).bind fun v1 =>
      (o_rdq 2 snapshot_0 x1).bind fun v2 =>
      if v2 = a_0snapshot0 then
        (fBoard_copy F number_2 number_0snapshot0 inField_2 inField_0snapshot0 first_2 first_0snapshot0 last_2 last_0snapshot0).bind fun s3 =>
        (o_wrZ 2 filled_0 x1 (1 : Int32)).bind fun w4 =>
        some (s3.1, s3.2.1, s3.2.2.1, s3.2.2.2, w4, number_0snapshot1, inField_0snapshot1, first_0snapshot1, last_0snapshot1)
      else
      if v2 = a_0snapshot1 then
        (fBoard_copy F number_2 number_0snapshot1 inField_2 inField_0snapshot1 first_2 first_0snapshot1 last_2 last_0snapshot1).bind fun s5 =>
        (o_wrZ 2 filled_0 x1 (1 : Int32)).bind fun w6 =>
        some (number_0snapshot0, inField_0snapshot0, first_0snapshot0, last_0snapshot0, w6, s5.1, s5.2.1, s5.2.2.1, s5.2.2.2)
      else
      none
abbrev wl_fHistory_store (cI cZ cJ cQ : ClassId) (a_0 a_0snapshot a_0snapshot0 a_0snapshot1 a_2 a_2number a_0snapshot0number a_2inField a_0snapshot0inField a_2first a_0snapshot0first a_2last a_0snapshot0last a_0filled a_0snapshot1number a_0snapshot1inField a_0snapshot1first a_0snapshot1last a_0saved : Nat) (count_0 : Int32) (snapshot_0 : Nat → Option Nat) (number_2 : Nat → Int32) (number_0snapshot0 : Nat → Int32) (inField_2 : Nat → Int32) (inField_0snapshot0 : Nat → Int32) (first_2 : Nat → Int32) (first_0snapshot0 : Nat → Int32) (last_2 : Nat → Int32) (last_0snapshot0 : Nat → Int32) (filled_0 : Nat → Int32) (number_0snapshot1 : Nat → Int32) (inField_0snapshot1 : Nat → Int32) (first_0snapshot1 : Nat → Int32) (last_0snapshot1 : Nat → Int32) : va_W := [(a_0, .inr (3, [.ref a_0saved, .ref a_0snapshot, .ref a_0filled, .int count_0])), (a_0snapshot, .inl (cQ, 2, .inr (.inr (.inr (.inr snapshot_0))))), (a_0snapshot0, .inr (0, [.ref a_0snapshot0number, .ref a_0snapshot0inField, .ref a_0snapshot0first, .ref a_0snapshot0last])), (a_0snapshot1, .inr (0, [.ref a_0snapshot1number, .ref a_0snapshot1inField, .ref a_0snapshot1first, .ref a_0snapshot1last])), (a_2, .inr (0, [.ref a_2number, .ref a_2inField, .ref a_2first, .ref a_2last])), (a_2number, .inl (cI, 42, .inl number_2)), (a_0snapshot0number, .inl (cI, 42, .inl number_0snapshot0)), (a_2inField, .inl (cZ, 42, .inl inField_2)), (a_0snapshot0inField, .inl (cZ, 42, .inl inField_0snapshot0)), (a_2first, .inl (cI, 42, .inl first_2)), (a_0snapshot0first, .inl (cI, 42, .inl first_0snapshot0)), (a_2last, .inl (cI, 42, .inl last_2)), (a_0snapshot0last, .inl (cI, 42, .inl last_0snapshot0)), (a_0filled, .inl (cZ, 2, .inl filled_0)), (a_0snapshot1number, .inl (cI, 42, .inl number_0snapshot1)), (a_0snapshot1inField, .inl (cZ, 42, .inl inField_0snapshot1)), (a_0snapshot1first, .inl (cI, 42, .inl first_0snapshot1)), (a_0snapshot1last, .inl (cI, 42, .inl last_0snapshot1))]
def fHistory_hasSnapshot (x1 : Int32) (filled_0 : Nat → Int32) : Option (Int32) :=
  if x1 < (0 : Int32) then
    some (0 : Int32)
  else
    if (2 : Int32) ≤ x1 then
      some (0 : Int32)
    else
      (o_rd 2 filled_0 x1).bind fun v1 =>
      if v1 = (0 : Int32) then
        some (0 : Int32)
      else
        some (1 : Int32)
abbrev wl_fHistory_hasSnapshot (cI cZ cJ cQ : ClassId) (a_0 a_0filled a_0saved a_0snapshot : Nat) (count_0 : Int32) (filled_0 : Nat → Int32) : va_W := [(a_0, .inr (3, [.ref a_0saved, .ref a_0snapshot, .ref a_0filled, .int count_0])), (a_0filled, .inl (cZ, 2, .inl filled_0))]
def fHistory_dropOldest_L9 (F : Nat) (a_0saved0 : Nat) (a_0saved1 : Nat) (a_0saved2 : Nat) (a_0saved3 : Nat) (a_0saved4 : Nat) (a_0saved5 : Nat) : Nat → Int32 → (Nat → Option Nat) → Option (Int32 × (Nat → Option Nat))
  | 0, _, _ => none
  | N + 1, l2, saved_0 =>
    if (6 : Int32) ≤ l2 then
      some (l2, saved_0)
    else
      (o_rdq 6 saved_0 l2).bind fun v2 =>
      (o_wrq [a_0saved0, a_0saved1, a_0saved2, a_0saved3, a_0saved4, a_0saved5] 6 saved_0 (l2 - (1 : Int32)) v2).bind fun w3 =>
      fHistory_dropOldest_L9 F a_0saved0 a_0saved1 a_0saved2 a_0saved3 a_0saved4 a_0saved5 N (l2 + (1 : Int32)) w3
def fHistory_dropOldest (F : Nat) (a_0saved0 : Nat) (a_0saved1 : Nat) (a_0saved2 : Nat) (a_0saved3 : Nat) (a_0saved4 : Nat) (a_0saved5 : Nat) (saved_0 : Nat → Option Nat) (count_0 : Int32) : Option ((Nat → Option Nat) × Int32) :=
  (o_rdq 6 saved_0 (0 : Int32)).bind fun v1 =>
  (fHistory_dropOldest_L9 F a_0saved0 a_0saved1 a_0saved2 a_0saved3 a_0saved4 a_0saved5 F (1 : Int32) saved_0).bind fun r4 =>
  (o_wrq [a_0saved0, a_0saved1, a_0saved2, a_0saved3, a_0saved4, a_0saved5] 6 r4.2 (5 : Int32) v1).bind fun w5 =>
  some (w5, (5 : Int32))
abbrev wl_fHistory_dropOldest (cI cZ cJ cQ : ClassId) (a_0 a_0saved a_0saved0 a_0saved1 a_0saved2 a_0saved3 a_0saved4 a_0saved5 a_0snapshot a_0filled a_0saved0number a_0saved0inField a_0saved0first a_0saved0last a_0saved1number a_0saved1inField a_0saved1first a_0saved1last a_0saved2number a_0saved2inField a_0saved2first a_0saved2last a_0saved3number a_0saved3inField a_0saved3first a_0saved3last a_0saved4number a_0saved4inField a_0saved4first a_0saved4last a_0saved5number a_0saved5inField a_0saved5first a_0saved5last : Nat) (count_0 : Int32) (saved_0 : Nat → Option Nat) : va_W := [(a_0, .inr (3, [.ref a_0saved, .ref a_0snapshot, .ref a_0filled, .int count_0])), (a_0saved, .inl (cQ, 6, .inr (.inr (.inr (.inr saved_0))))), (a_0saved0, .inr (0, [.ref a_0saved0number, .ref a_0saved0inField, .ref a_0saved0first, .ref a_0saved0last])), (a_0saved1, .inr (0, [.ref a_0saved1number, .ref a_0saved1inField, .ref a_0saved1first, .ref a_0saved1last])), (a_0saved2, .inr (0, [.ref a_0saved2number, .ref a_0saved2inField, .ref a_0saved2first, .ref a_0saved2last])), (a_0saved3, .inr (0, [.ref a_0saved3number, .ref a_0saved3inField, .ref a_0saved3first, .ref a_0saved3last])), (a_0saved4, .inr (0, [.ref a_0saved4number, .ref a_0saved4inField, .ref a_0saved4first, .ref a_0saved4last])), (a_0saved5, .inr (0, [.ref a_0saved5number, .ref a_0saved5inField, .ref a_0saved5first, .ref a_0saved5last]))]
def fHistory_save (F : Nat) (a_0saved0 : Nat) (a_0saved1 : Nat) (a_0saved2 : Nat) (a_0saved3 : Nat) (a_0saved4 : Nat) (a_0saved5 : Nat) (count_0 : Int32) (saved_0 : Nat → Option Nat) (number_1 : Nat → Int32) (number_0saved0 : Nat → Int32) (inField_1 : Nat → Int32) (inField_0saved0 : Nat → Int32) (first_1 : Nat → Int32) (first_0saved0 : Nat → Int32) (last_1 : Nat → Int32) (last_0saved0 : Nat → Int32) (number_0saved1 : Nat → Int32) (inField_0saved1 : Nat → Int32) (first_0saved1 : Nat → Int32) (last_0saved1 : Nat → Int32) (number_0saved2 : Nat → Int32) (inField_0saved2 : Nat → Int32) (first_0saved2 : Nat → Int32) (last_0saved2 : Nat → Int32) (number_0saved3 : Nat → Int32) (inField_0saved3 : Nat → Int32) (first_0saved3 : Nat → Int32) (last_0saved3 : Nat → Int32) (number_0saved4 : Nat → Int32) (inField_0saved4 : Nat → Int32) (first_0saved4 : Nat → Int32) (last_0saved4 : Nat → Int32) (number_0saved5 : Nat → Int32) (inField_0saved5 : Nat → Int32) (first_0saved5 : Nat → Int32) (last_0saved5 : Nat → Int32) : Option ((Nat → Option Nat) × Int32 × (Nat → Int32) × (Nat → Int32) × (Nat → Int32) × (Nat → Int32) × (Nat → Int32) × (Nat → Int32) × (Nat → Int32) × (Nat → Int32) × (Nat → Int32) × (Nat → Int32) × (Nat → Int32) × (Nat → Int32) × (Nat → Int32) × (Nat → Int32) × (Nat → Int32) × (Nat → Int32) × (Nat → Int32) × (Nat → Int32) × (Nat → Int32) × (Nat → Int32) × (Nat → Int32) × (Nat → Int32) × (Nat → Int32) × (Nat → Int32)) :=
  (show Option (Int32 × (Nat → Option Nat)) from
    if count_0 < (6 : Int32) then
      some (count_0, saved_0)
    else
      (fHistory_dropOldest F a_0saved0 a_0saved1 a_0saved2 a_0saved3 a_0saved4 a_0saved5 saved_0 count_0).bind fun s1 =>
      some (s1.2, s1.1)).bind fun j2 =>
  if j2.1 < (0 : Int32) then
    some (j2.2, j2.1, number_0saved0, inField_0saved0, first_0saved0, last_0saved0, number_0saved1, inField_0saved1, first_0saved1, last_0saved1, number_0saved2, inField_0saved2, first_0saved2, last_0saved2, number_0saved3, inField_0saved3, first_0saved3, last_0saved3, number_0saved4, inField_0saved4, first_0saved4, last_0saved4, number_0saved5, inField_0saved5, first_0saved5, last_0saved5)
  else
    if (6 : Int32) ≤ j2.1 then
      some (j2.2, j2.1, number_0saved0, inField_0saved0, first_0saved0, last_0saved0, number_0saved1, inField_0saved1, first_0saved1, last_0saved1, number_0saved2, inField_0saved2, first_0saved2, last_0saved2, number_0saved3, inField_0saved3, first_0saved3, last_0saved3, number_0saved4, inField_0saved4, first_0saved4, last_0saved4, number_0saved5, inField_0saved5, first_0saved5, last_0saved5)
    else
      (o_rdq 6 j2.2 j2.1).bind fun v3 =>
      (o_rdq 6 j2.2 j2.1).bind fun v4 =>
      if v4 = a_0saved0 then
        (fBoard_copy F number_1 number_0saved0 inField_1 inField_0saved0 first_1 first_0saved0 last_1 last_0saved0).bind fun s5 =>
        some (j2.2, (j2.1 + (1 : Int32)), s5.1, s5.2.1, s5.2.2.1, s5.2.2.2, number_0saved1, inField_0saved1, first_0saved1, last_0saved1, number_0saved2, inField_0saved2, first_0saved2, last_0saved2, number_0saved3, inField_0saved3, first_0saved3, last_0saved3, number_0saved4, inField_0saved4, first_0saved4, last_0saved4, number_0saved5, inField_0saved5, first_0saved5, last_0saved5)
      else
      if v4 = a_0saved1 then
        (fBoard_copy F number_1 number_0saved1 inField_1 inField_0saved1 first_1 first_0saved1 last_1 last_0saved1).bind fun s6 =>
        some (j2.2, (j2.1 + (1 : Int32)), number_0saved0, inField_0saved0, first_0saved0, last_0saved0, s6.1, s6.2.1, s6.2.2.1, s6.2.2.2, number_0saved2, inField_0saved2, first_0saved2, last_0saved2, number_0saved3, inField_0saved3, first_0saved3, last_0saved3, number_0saved4, inField_0saved4, first_0saved4, last_0saved4, number_0saved5, inField_0saved5, first_0saved5, last_0saved5)
      else
      if v4 = a_0saved2 then
        (fBoard_copy F number_1 number_0saved2 inField_1 inField_0saved2 first_1 first_0saved2 last_1 last_0saved2).bind fun s7 =>
        some (j2.2, (j2.1 + (1 : Int32)), number_0saved0, inField_0saved0, first_0saved0, last_0saved0, number_0saved1, inField_0saved1, first_0saved1, last_0saved1, s7.1, s7.2.1, s7.2.2.1, s7.2.2.2, number_0saved3, inField_0saved3, first_0saved3, last_0saved3, number_0saved4, inField_0saved4, first_0saved4, last_0saved4, number_0saved5, inField_0saved5, first_0saved5, last_0saved5)
      else
      if v4 = a_0saved3 then
        (fBoard_copy F number_1 number_0saved3 inField_1 inField_0saved3 first_1 first_0saved3 last_1 last_0saved3).bind fun s8 =>
        some (j2.2, (j2.1 + (1 : Int32)), number_0saved0, inField_0saved0, first_0saved0, last_0saved0, number_0saved1, inField_0saved1, first_0saved1, last_0saved1, number_0saved2, inField_0saved2, first_0saved2, last_0saved2, s8.1, s8.2.1, s8.2.2.1, s8.2.2.2, number_0saved4, inField_0saved4, first_0saved4, last_0saved4, number_0saved5, inField_0saved5, first_0saved5, last_0saved5)
      else
      if v4 = a_0saved4 then
        (fBoard_copy F number_1 number_0saved4 inField_1 inField_0saved4 first_1 first_0saved4 last_1 last_0saved4).bind fun s9 =>
        some (j2.2, (j2.1 + (1 : Int32)), number_0saved0, inField_0saved0, first_0saved0, last_0saved0, number_0saved1, inField_0saved1, first_0saved1, last_0saved1, number_0saved2, inField_0saved2, first_0saved2, last_0saved2, number_0saved3, inField_0saved3, first_0saved3, last_0saved3, s9.1, s9.2.1, s9.2.2.1, s9.2.2.2, number_0saved5, inField_0saved5, first_0saved5, last_0saved5)
      else
      if v4 = a_0saved5 then
        (fBoard_copy F number_1 number_0saved5 inField_1 inField_0saved5 first_1 first_0saved5 last_1 last_0saved5).bind fun s10 =>
        some (j2.2, (j2.1 + (1 : Int32)), number_0saved0, inField_0saved0, first_0saved0, last_0saved0, number_0saved1, inField_0saved1, first_0saved1, last_0saved1, number_0saved2, inField_0saved2, first_0saved2, last_0saved2, number_0saved3, inField_0saved3, first_0saved3, last_0saved3, number_0saved4, inField_0saved4, first_0saved4, last_0saved4, s10.1, s10.2.1, s10.2.2.1, s10.2.2.2)
      else
      none
abbrev wl_fHistory_save (cI cZ cJ cQ : ClassId) (a_0 a_0saved a_0saved0 a_0saved1 a_0saved2 a_0saved3 a_0saved4 a_0saved5 a_1 a_1number a_0saved0number a_1inField a_0saved0inField a_1first a_0saved0first a_1last a_0saved0last a_0saved1number a_0saved1inField a_0saved1first a_0saved1last a_0saved2number a_0saved2inField a_0saved2first a_0saved2last a_0saved3number a_0saved3inField a_0saved3first a_0saved3last a_0saved4number a_0saved4inField a_0saved4first a_0saved4last a_0saved5number a_0saved5inField a_0saved5first a_0saved5last a_0snapshot a_0filled : Nat) (count_0 : Int32) (saved_0 : Nat → Option Nat) (number_1 : Nat → Int32) (number_0saved0 : Nat → Int32) (inField_1 : Nat → Int32) (inField_0saved0 : Nat → Int32) (first_1 : Nat → Int32) (first_0saved0 : Nat → Int32) (last_1 : Nat → Int32) (last_0saved0 : Nat → Int32) (number_0saved1 : Nat → Int32) (inField_0saved1 : Nat → Int32) (first_0saved1 : Nat → Int32) (last_0saved1 : Nat → Int32) (number_0saved2 : Nat → Int32) (inField_0saved2 : Nat → Int32) (first_0saved2 : Nat → Int32) (last_0saved2 : Nat → Int32) (number_0saved3 : Nat → Int32) (inField_0saved3 : Nat → Int32) (first_0saved3 : Nat → Int32) (last_0saved3 : Nat → Int32) (number_0saved4 : Nat → Int32) (inField_0saved4 : Nat → Int32) (first_0saved4 : Nat → Int32) (last_0saved4 : Nat → Int32) (number_0saved5 : Nat → Int32) (inField_0saved5 : Nat → Int32) (first_0saved5 : Nat → Int32) (last_0saved5 : Nat → Int32) : va_W := [(a_0, .inr (3, [.ref a_0saved, .ref a_0snapshot, .ref a_0filled, .int count_0])), (a_0saved, .inl (cQ, 6, .inr (.inr (.inr (.inr saved_0))))), (a_0saved0, .inr (0, [.ref a_0saved0number, .ref a_0saved0inField, .ref a_0saved0first, .ref a_0saved0last])), (a_0saved1, .inr (0, [.ref a_0saved1number, .ref a_0saved1inField, .ref a_0saved1first, .ref a_0saved1last])), (a_0saved2, .inr (0, [.ref a_0saved2number, .ref a_0saved2inField, .ref a_0saved2first, .ref a_0saved2last])), (a_0saved3, .inr (0, [.ref a_0saved3number, .ref a_0saved3inField, .ref a_0saved3first, .ref a_0saved3last])), (a_0saved4, .inr (0, [.ref a_0saved4number, .ref a_0saved4inField, .ref a_0saved4first, .ref a_0saved4last])), (a_0saved5, .inr (0, [.ref a_0saved5number, .ref a_0saved5inField, .ref a_0saved5first, .ref a_0saved5last])), (a_1, .inr (0, [.ref a_1number, .ref a_1inField, .ref a_1first, .ref a_1last])), (a_1number, .inl (cI, 42, .inl number_1)), (a_0saved0number, .inl (cI, 42, .inl number_0saved0)), (a_1inField, .inl (cZ, 42, .inl inField_1)), (a_0saved0inField, .inl (cZ, 42, .inl inField_0saved0)), (a_1first, .inl (cI, 42, .inl first_1)), (a_0saved0first, .inl (cI, 42, .inl first_0saved0)), (a_1last, .inl (cI, 42, .inl last_1)), (a_0saved0last, .inl (cI, 42, .inl last_0saved0)), (a_0saved1number, .inl (cI, 42, .inl number_0saved1)), (a_0saved1inField, .inl (cZ, 42, .inl inField_0saved1)), (a_0saved1first, .inl (cI, 42, .inl first_0saved1)), (a_0saved1last, .inl (cI, 42, .inl last_0saved1)), (a_0saved2number, .inl (cI, 42, .inl number_0saved2)), (a_0saved2inField, .inl (cZ, 42, .inl inField_0saved2)), (a_0saved2first, .inl (cI, 42, .inl first_0saved2)), (a_0saved2last, .inl (cI, 42, .inl last_0saved2)), (a_0saved3number, .inl (cI, 42, .inl number_0saved3)), (a_0saved3inField, .inl (cZ, 42, .inl inField_0saved3)), (a_0saved3first, .inl (cI, 42, .inl first_0saved3)), (a_0saved3last, .inl (cI, 42, .inl last_0saved3)), (a_0saved4number, .inl (cI, 42, .inl number_0saved4)), (a_0saved4inField, .inl (cZ, 42, .inl inField_0saved4)), (a_0saved4first, .inl (cI, 42, .inl first_0saved4)), (a_0saved4last, .inl (cI, 42, .inl last_0saved4)), (a_0saved5number, .inl (cI, 42, .inl number_0saved5)), (a_0saved5inField, .inl (cZ, 42, .inl inField_0saved5)), (a_0saved5first, .inl (cI, 42, .inl first_0saved5)), (a_0saved5last, .inl (cI, 42, .inl last_0saved5))]
def fHistory_loadSnapshot (F : Nat) (x1 : Int32) (a_0snapshot0 : Nat) (a_0snapshot1 : Nat) (filled_0 : Nat → Int32) (snapshot_0 : Nat → Option Nat) (number_0snapshot0 : Nat → Int32) (number_2 : Nat → Int32) (inField_0snapshot0 : Nat → Int32) (inField_2 : Nat → Int32) (first_0snapshot0 : Nat → Int32) (first_2 : Nat → Int32) (last_0snapshot0 : Nat → Int32) (last_2 : Nat → Int32) (number_0snapshot1 : Nat → Int32) (inField_0snapshot1 : Nat → Int32) (first_0snapshot1 : Nat → Int32) (last_0snapshot1 : Nat → Int32) : Option ((Nat → Int32) × (Nat → Int32) × (Nat → Int32) × (Nat → Int32)) :=
  (fHistory_hasSnapshot x1 filled_0).bind fun s1 =>
  if s1 = (0 : Int32) then
    some (number_2, inField_2, first_2, last_2)
  else
    (o_rdq 2 snapshot_0 x1).bind fun v2 =>
    if v2 = a_0snapshot0 then
      (fBoard_copy F number_0snapshot0 number_2 inField_0snapshot0 inField_2 first_0snapshot0 first_2 last_0snapshot0 last_2).bind fun s3 =>
      some (s3.1, s3.2.1, s3.2.2.1, s3.2.2.2)
    else
    if v2 = a_0snapshot1 then
      (fBoard_copy F number_0snapshot1 number_2 inField_0snapshot1 inField_2 first_0snapshot1 first_2 last_0snapshot1 last_2).bind fun s4 =>
      some (s4.1, s4.2.1, s4.2.2.1, s4.2.2.2)
    else
    none
abbrev wl_fHistory_loadSnapshot (cI cZ cJ cQ : ClassId) (a_0 a_0filled a_0snapshot a_0snapshot0 a_0snapshot1 a_2 a_0snapshot0number a_2number a_0snapshot0inField a_2inField a_0snapshot0first a_2first a_0snapshot0last a_2last a_0snapshot1number a_0snapshot1inField a_0snapshot1first a_0snapshot1last a_0saved : Nat) (count_0 : Int32) (filled_0 : Nat → Int32) (snapshot_0 : Nat → Option Nat) (number_0snapshot0 : Nat → Int32) (number_2 : Nat → Int32) (inField_0snapshot0 : Nat → Int32) (inField_2 : Nat → Int32) (first_0snapshot0 : Nat → Int32) (first_2 : Nat → Int32) (last_0snapshot0 : Nat → Int32) (last_2 : Nat → Int32) (number_0snapshot1 : Nat → Int32) (inField_0snapshot1 : Nat → Int32) (first_0snapshot1 : Nat → Int32) (last_0snapshot1 : Nat → Int32) : va_W := [(a_0, .inr (3, [.ref a_0saved, .ref a_0snapshot, .ref a_0filled, .int count_0])), (a_0filled, .inl (cZ, 2, .inl filled_0)), (a_0snapshot, .inl (cQ, 2, .inr (.inr (.inr (.inr snapshot_0))))), (a_0snapshot0, .inr (0, [.ref a_0snapshot0number, .ref a_0snapshot0inField, .ref a_0snapshot0first, .ref a_0snapshot0last])), (a_0snapshot1, .inr (0, [.ref a_0snapshot1number, .ref a_0snapshot1inField, .ref a_0snapshot1first, .ref a_0snapshot1last])), (a_2, .inr (0, [.ref a_2number, .ref a_2inField, .ref a_2first, .ref a_2last])), (a_0snapshot0number, .inl (cI, 42, .inl number_0snapshot0)), (a_2number, .inl (cI, 42, .inl number_2)), (a_0snapshot0inField, .inl (cZ, 42, .inl inField_0snapshot0)), (a_2inField, .inl (cZ, 42, .inl inField_2)), (a_0snapshot0first, .inl (cI, 42, .inl first_0snapshot0)), (a_2first, .inl (cI, 42, .inl first_2)), (a_0snapshot0last, .inl (cI, 42, .inl last_0snapshot0)), (a_2last, .inl (cI, 42, .inl last_2)), (a_0snapshot1number, .inl (cI, 42, .inl number_0snapshot1)), (a_0snapshot1inField, .inl (cZ, 42, .inl inField_0snapshot1)), (a_0snapshot1first, .inl (cI, 42, .inl first_0snapshot1)), (a_0snapshot1last, .inl (cI, 42, .inl last_0snapshot1))]
def fHistory_countSaved (count_0 : Int32) : Option (Int32) :=
  some count_0
abbrev wl_fHistory_countSaved (cI cZ cJ cQ : ClassId) (a_0 a_0saved a_0snapshot a_0filled : Nat) (count_0 : Int32) : va_W := [(a_0, .inr (3, [.ref a_0saved, .ref a_0snapshot, .ref a_0filled, .int count_0]))]
def fHistory_loadLatest (F : Nat) (a_0saved0 : Nat) (a_0saved1 : Nat) (a_0saved2 : Nat) (a_0saved3 : Nat) (a_0saved4 : Nat) (a_0saved5 : Nat) (count_0 : Int32) (saved_0 : Nat → Option Nat) (number_0saved0 : Nat → Int32) (number_1 : Nat → Int32) (inField_0saved0 : Nat → Int32) (inField_1 : Nat → Int32) (first_0saved0 : Nat → Int32) (first_1 : Nat → Int32) (last_0saved0 : Nat → Int32) (last_1 : Nat → Int32) (number_0saved1 : Nat → Int32) (inField_0saved1 : Nat → Int32) (first_0saved1 : Nat → Int32) (last_0saved1 : Nat → Int32) (number_0saved2 : Nat → Int32) (inField_0saved2 : Nat → Int32) (first_0saved2 : Nat → Int32) (last_0saved2 : Nat → Int32) (number_0saved3 : Nat → Int32) (inField_0saved3 : Nat → Int32) (first_0saved3 : Nat → Int32) (last_0saved3 : Nat → Int32) (number_0saved4 : Nat → Int32) (inField_0saved4 : Nat → Int32) (first_0saved4 : Nat → Int32) (last_0saved4 : Nat → Int32) (number_0saved5 : Nat → Int32) (inField_0saved5 : Nat → Int32) (first_0saved5 : Nat → Int32) (last_0saved5 : Nat → Int32) : Option (Int32 × (Nat → Int32) × (Nat → Int32) × (Nat → Int32) × (Nat → Int32)) :=
  if count_0 ≤ (0 : Int32) then
    some (count_0, number_1, inField_1, first_1, last_1)
  else
    if (6 : Int32) < count_0 then
      some (count_0, number_1, inField_1, first_1, last_1)
    else
      (o_rdq 6 saved_0 (count_0 - (1 : Int32))).bind fun v1 =>
      if v1 = a_0saved0 then
        (fBoard_copy F number_0saved0 number_1 inField_0saved0 inField_1 first_0saved0 first_1 last_0saved0 last_1).bind fun s2 =>
        some ((count_0 - (1 : Int32)), s2.1, s2.2.1, s2.2.2.1, s2.2.2.2)
      else
      if v1 = a_0saved1 then
        (fBoard_copy F number_0saved1 number_1 inField_0saved1 inField_1 first_0saved1 first_1 last_0saved1 last_1).bind fun s3 =>
        some ((count_0 - (1 : Int32)), s3.1, s3.2.1, s3.2.2.1, s3.2.2.2)
      else
      if v1 = a_0saved2 then
        (fBoard_copy F number_0saved2 number_1 inField_0saved2 inField_1 first_0saved2 first_1 last_0saved2 last_1).bind fun s4 =>
        some ((count_0 - (1 : Int32)), s4.1, s4.2.1, s4.2.2.1, s4.2.2.2)
      else
      if v1 = a_0saved3 then
        (fBoard_copy F number_0saved3 number_1 inField_0saved3 inField_1 first_0saved3 first_1 last_0saved3 last_1).bind fun s5 =>
        some ((count_0 - (1 : Int32)), s5.1, s5.2.1, s5.2.2.1, s5.2.2.2)
      else
      if v1 = a_0saved4 then
        (fBoard_copy F number_0saved4 number_1 inField_0saved4 inField_1 first_0saved4 first_1 last_0saved4 last_1).bind fun s6 =>
        some ((count_0 - (1 : Int32)), s6.1, s6.2.1, s6.2.2.1, s6.2.2.2)
      else
      if v1 = a_0saved5 then
        (fBoard_copy F number_0saved5 number_1 inField_0saved5 inField_1 first_0saved5 first_1 last_0saved5 last_1).bind fun s7 =>
        some ((count_0 - (1 : Int32)), s7.1, s7.2.1, s7.2.2.1, s7.2.2.2)
      else
      none
abbrev wl_fHistory_loadLatest (cI cZ cJ cQ : ClassId) (a_0 a_0saved a_0saved0 a_0saved1 a_0saved2 a_0saved3 a_0saved4 a_0saved5 a_1 a_0saved0number a_1number a_0saved0inField a_1inField a_0saved0first a_1first a_0saved0last a_1last a_0saved1number a_0saved1inField a_0saved1first a_0saved1last a_0saved2number a_0saved2inField a_0saved2first a_0saved2last a_0saved3number a_0saved3inField a_0saved3first a_0saved3last a_0saved4number a_0saved4inField a_0saved4first a_0saved4last a_0saved5number a_0saved5inField a_0saved5first a_0saved5last a_0snapshot a_0filled : Nat) (count_0 : Int32) (saved_0 : Nat → Option Nat) (number_0saved0 : Nat → Int32) (number_1 : Nat → Int32) (inField_0saved0 : Nat → Int32) (inField_1 : Nat → Int32) (first_0saved0 : Nat → Int32) (first_1 : Nat → Int32) (last_0saved0 : Nat → Int32) (last_1 : Nat → Int32) (number_0saved1 : Nat → Int32) (inField_0saved1 : Nat → Int32) (first_0saved1 : Nat → Int32) (last_0saved1 : Nat → Int32) (number_0saved2 : Nat → Int32) (inField_0saved2 : Nat → Int32) (first_0saved2 : Nat → Int32) (last_0saved2 : Nat → Int32) (number_0saved3 : Nat → Int32) (inField_0saved3 : Nat → Int32) (first_0saved3 : Nat → Int32) (last_0saved3 : Nat → Int32) (number_0saved4 : Nat → Int32) (inField_0saved4 : Nat → Int32) (first_0saved4 : Nat → Int32) (last_0saved4 : Nat → Int32) (number_0saved5 : Nat → Int32) (inField_0saved5 : Nat → Int32) (first_0saved5 : Nat → Int32) (last_0saved5 : Nat → Int32) : va_W := [(a_0, .inr (3, [.ref a_0saved, .ref a_0snapshot, .ref a_0filled, .int count_0])), (a_0saved, .inl (cQ, 6, .inr (.inr (.inr (.inr saved_0))))), (a_0saved0, .inr (0, [.ref a_0saved0number, .ref a_0saved0inField, .ref a_0saved0first, .ref a_0saved0last])), (a_0saved1, .inr (0, [.ref a_0saved1number, .ref a_0saved1inField, .ref a_0saved1first, .ref a_0saved1last])), (a_0saved2, .inr (0, [.ref a_0saved2number, .ref a_0saved2inField, .ref a_0saved2first, .ref a_0saved2last])), (a_0saved3, .inr (0, [.ref a_0saved3number, .ref a_0saved3inField, .ref a_0saved3first, .ref a_0saved3last])), (a_0saved4, .inr (0, [.ref a_0saved4number, .ref a_0saved4inField, .ref a_0saved4first, .ref a_0saved4last])), (a_0saved5, .inr (0, [.ref a_0saved5number, .ref a_0saved5inField, .ref a_0saved5first, .ref a_0saved5last])), (a_1, .inr (0, [.ref a_1number, .ref a_1inField, .ref a_1first, .ref a_1last])), (a_0saved0number, .inl (cI, 42, .inl number_0saved0)), (a_1number, .inl (cI, 42, .inl number_1)), (a_0saved0inField, .inl (cZ, 42, .inl inField_0saved0)), (a_1inField, .inl (cZ, 42, .inl inField_1)), (a_0saved0first, .inl (cI, 42, .inl first_0saved0)), (a_1first, .inl (cI, 42, .inl first_1)), (a_0saved0last, .inl (cI, 42, .inl last_0saved0)), (a_1last, .inl (cI, 42, .inl last_1)), (a_0saved1number, .inl (cI, 42, .inl number_0saved1)), (a_0saved1inField, .inl (cZ, 42, .inl inField_0saved1)), (a_0saved1first, .inl (cI, 42, .inl first_0saved1)), (a_0saved1last, .inl (cI, 42, .inl last_0saved1)), (a_0saved2number, .inl (cI, 42, .inl number_0saved2)), (a_0saved2inField, .inl (cZ, 42, .inl inField_0saved2)), (a_0saved2first, .inl (cI, 42, .inl first_0saved2)), (a_0saved2last, .inl (cI, 42, .inl last_0saved2)), (a_0saved3number, .inl (cI, 42, .inl number_0saved3)), (a_0saved3inField, .inl (cZ, 42, .inl inField_0saved3)), (a_0saved3first, .inl (cI, 42, .inl first_0saved3)), (a_0saved3last, .inl (cI, 42, .inl last_0saved3)), (a_0saved4number, .inl (cI, 42, .inl number_0saved4)), (a_0saved4inField, .inl (cZ, 42, .inl inField_0saved4)), (a_0saved4first, .inl (cI, 42, .inl first_0saved4)), (a_0saved4last, .inl (cI, 42, .inl last_0saved4)), (a_0saved5number, .inl (cI, 42, .inl number_0saved5)), (a_0saved5inField, .inl (cZ, 42, .inl inField_0saved5)), (a_0saved5first, .inl (cI, 42, .inl first_0saved5)), (a_0saved5last, .inl (cI, 42, .inl last_0saved5))]
def fHash_value (value_0 : Int64) : Option (Int64) :=
  some value_0
abbrev wl_fHash_value (cI cZ cJ cQ : ClassId) (a_0 : Nat) (value_0 : Int64) : va_W := [(a_0, .inr (2, [.long value_0]))]
def fHash_add (x1 : Int64) (value_0 : Int64) : Option (Int64) :=
  some (((31 : Int64) * value_0) + x1)
abbrev wl_fHash_add (cI cZ cJ cQ : ClassId) (a_0 : Nat) (value_0 : Int64) : va_W := [(a_0, .inr (2, [.long value_0]))]
def fHash_bitsOf_L18 (F : Nat) : Nat → UInt64 → Int64 → Int32 → Option (UInt64 × Int64 × Int32)
  | 0, _, _, _ => none
  | N + 1, l2, l4, l6 =>
    if (1100 : Int32) ≤ l6 then
      some (l2, l4, l6)
    else
      if (Op.cmpValue (FP.dcmp l2 (0x4000000000000000 : UInt64)) .l) < (0 : Int32) then
        some (l2, l4, l6)
      else
        (o_nn (FP.ddiv l2 (0x4000000000000000 : UInt64))).bind fun v1 =>
        fHash_bitsOf_L18 F N v1 (l4 + (1 : Int64)) (l6 + (1 : Int32))
def fHash_bitsOf_L55 (F : Nat) : Nat → UInt64 → Int64 → Int32 → Option (UInt64 × Int64 × Int32)
  | 0, _, _, _ => none
  | N + 1, l2, l4, l6 =>
    if (1100 : Int32) ≤ l6 then
      some (l2, l4, l6)
    else
      if (0 : Int32) ≤ (Op.cmpValue (FP.dcmp l2 FP.dconst1) .g) then
        some (l2, l4, l6)
      else
        (o_nn (FP.dmul l2 (0x4000000000000000 : UInt64))).bind fun v3 =>
        fHash_bitsOf_L55 F N v3 (l4 - (1 : Int64)) (l6 + (1 : Int32))
def fHash_bitsOf (F : Nat) (x0 : UInt64) : Option (Int64) :=
  if (0 : Int32) < (Op.cmpValue (FP.dcmp x0 FP.dconst0) .l) then
    (fHash_bitsOf_L18 F F x0 (1023 : Int64) (0 : Int32)).bind fun r2 =>
    (fHash_bitsOf_L55 F F r2.1 r2.2.1 (0 : Int32)).bind fun r4 =>
    (o_nn (FP.dsub r4.1 FP.dconst1)).bind fun v5 =>
    (o_nn (FP.dmul v5 (0x4330000000000000 : UInt64))).bind fun v6 =>
    some ((r4.2.1 <<< ((52 : Int32).toInt64 &&& 63)) ||| (FP.d2l v6))
  else
    some (0 : Int64)
abbrev wl_fHash_bitsOf (cI cZ cJ cQ : ClassId) : va_W := []
def fHash_addBits (F : Nat) (x1 : UInt64) (value_0 : Int64) : Option (Int64) :=
  (fHash_bitsOf F x1).bind fun s1 =>
  (fHash_add s1 value_0).bind fun s2 =>
  some s2
abbrev wl_fHash_addBits (cI cZ cJ cQ : ClassId) (a_0 : Nat) (value_0 : Int64) : va_W := [(a_0, .inr (2, [.long value_0]))]
def fCellSearch_placeChosen_L2 (F : Nat) (l1 : Int32) (chosen_0 : Nat → Int32) (count_0list : Int32) (first_0list : Nat → Int32) (last_0list : Nat → Int32) : Nat → Int32 → (Nat → Int32) → (Nat → Int32) → (Nat → Int32) → Option (Int32 × (Nat → Int32) × (Nat → Int32) × (Nat → Int32))
  | 0, _, _, _, _ => none
  | N + 1, l2, inField_0way, first_0way, last_0way =>
    if l1 ≤ l2 then
      some (l2, inField_0way, first_0way, last_0way)
    else
      if (42 : Int32) ≤ l2 then
        some (l2, inField_0way, first_0way, last_0way)
      else
        (o_rd 42 chosen_0 l2).bind fun v1 =>
        (fRectangles_firstAt v1 count_0list first_0list).bind fun s2 =>
        (o_rd 42 chosen_0 l2).bind fun v3 =>
        (fRectangles_lastAt v3 count_0list last_0list).bind fun s4 =>
        (fBoard_place F s2 s4 inField_0way first_0way last_0way).bind fun s5 =>
        fCellSearch_placeChosen_L2 F l1 chosen_0 count_0list first_0list last_0list N (l2 + (1 : Int32)) s5.1 s5.2.1 s5.2.2
def fCellSearch_placeChosen (F : Nat) (x1 : Int32) (chosen_0 : Nat → Int32) (count_0list : Int32) (first_0list : Nat → Int32) (last_0list : Nat → Int32) (inField_0way : Nat → Int32) (first_0way : Nat → Int32) (last_0way : Nat → Int32) : Option ((Nat → Int32) × (Nat → Int32) × (Nat → Int32)) :=
  (fCellSearch_placeChosen_L2 F x1 chosen_0 count_0list first_0list last_0list F (0 : Int32) inField_0way first_0way last_0way).bind fun r6 =>
  some (r6.2.1, r6.2.2.1, r6.2.2.2)
abbrev wl_fCellSearch_placeChosen (cI cZ cJ cQ : ClassId) (a_0 a_0chosen a_0list a_0listfirst a_0listlast a_0way a_0wayinField a_0wayfirst a_0waylast a_0listeveryFirst a_0listeveryLast a_0listeveryCells a_0listcells a_0listowner a_0waynumber : Nat) (limit_0 : Int32) (ways_0 : Int32) (chosen_0 : Nat → Int32) (count_0list : Int32) (first_0list : Nat → Int32) (last_0list : Nat → Int32) (inField_0way : Nat → Int32) (first_0way : Nat → Int32) (last_0way : Nat → Int32) : va_W := [(a_0, .inr (1, [.ref a_0list, .ref a_0chosen, .ref a_0way, .int limit_0, .int ways_0])), (a_0chosen, .inl (cI, 42, .inl chosen_0)), (a_0list, .inr (7, [.ref a_0listeveryFirst, .ref a_0listeveryLast, .ref a_0listeveryCells, .ref a_0listfirst, .ref a_0listlast, .ref a_0listcells, .ref a_0listowner, .int count_0list])), (a_0listfirst, .inl (cI, 588, .inl first_0list)), (a_0listlast, .inl (cI, 588, .inl last_0list)), (a_0way, .inr (0, [.ref a_0waynumber, .ref a_0wayinField, .ref a_0wayfirst, .ref a_0waylast])), (a_0wayinField, .inl (cZ, 42, .inl inField_0way)), (a_0wayfirst, .inl (cI, 42, .inl first_0way)), (a_0waylast, .inl (cI, 42, .inl last_0way))]
def fCellSearch_fillFrom_L3 (F : Nat) (R : Int64 → Int32 → Int32 → (Nat → Int64) → Int32 → Int32 → (Nat → Int32) → (Nat → Int32) → (Nat → Int32) → (Nat → Int32) → (Nat → Int32) → (Nat → Int32) → Option ((Nat → Int32) × (Nat → Int32) × (Nat → Int32) × (Nat → Int32) × Int32)) (l1 : Int32) (l2 : Int64) (l4 : Int32) (count_0list : Int32) (limit_0 : Int32) (cells_0list : Nat → Int64) (first_0list : Nat → Int32) (last_0list : Nat → Int32) : Nat → Int32 → Int32 → (Nat → Int32) → (Nat → Int32) → (Nat → Int32) → (Nat → Int32) → Option (Int32 × Int32 × (Nat → Int32) × (Nat → Int32) × (Nat → Int32) × (Nat → Int32))
  | 0, _, _, _, _, _, _ => none
  | N + 1, l5, ways_0, chosen_0, inField_0way, first_0way, last_0way =>
    (fRectangles_size count_0list).bind fun s1 =>
    if s1 ≤ l5 then
      some (l5, ways_0, chosen_0, inField_0way, first_0way, last_0way)
    else
      if limit_0 ≤ ways_0 then
        some (l5, ways_0, chosen_0, inField_0way, first_0way, last_0way)
      else
        (fRectangles_cellsAt l5 count_0list cells_0list).bind fun s2 =>
        (fRectangles_firstAt l5 count_0list first_0list).bind fun s3 =>
        (show Option (Int32 × (Nat → Int32) × (Nat → Int32) × (Nat → Int32) × (Nat → Int32)) from
          if ¬ s3 = l1 then
            some (ways_0, chosen_0, inField_0way, first_0way, last_0way)
          else
            if ¬ (s2 &&& l2) = (0 : Int64) then
              some (ways_0, chosen_0, inField_0way, first_0way, last_0way)
            else
              if l4 < (0 : Int32) then
                some (ways_0, chosen_0, inField_0way, first_0way, last_0way)
              else
                if (42 : Int32) ≤ l4 then
                  some (ways_0, chosen_0, inField_0way, first_0way, last_0way)
                else
                  (o_wrI 42 chosen_0 l4 l5).bind fun w4 =>
                  (R (l2 ||| s2) (l4 + (1 : Int32)) count_0list cells_0list ways_0 limit_0 first_0list w4 last_0list inField_0way first_0way last_0way).bind fun s5 =>
                  some (s5.2.2.2.2, s5.1, s5.2.1, s5.2.2.1, s5.2.2.2.1)).bind fun j6 =>
        fCellSearch_fillFrom_L3 F R l1 l2 l4 count_0list limit_0 cells_0list first_0list last_0list N (l5 + (1 : Int32)) j6.1 j6.2.1 j6.2.2.1 j6.2.2.2.1 j6.2.2.2.2
def fCellSearch_fillFrom (F : Nat) (R : Int64 → Int32 → Int32 → (Nat → Int64) → Int32 → Int32 → (Nat → Int32) → (Nat → Int32) → (Nat → Int32) → (Nat → Int32) → (Nat → Int32) → (Nat → Int32) → Option ((Nat → Int32) × (Nat → Int32) × (Nat → Int32) × (Nat → Int32) × Int32)) (x1 : Int32) (x2 : Int64) (x3 : Int32) (count_0list : Int32) (ways_0 : Int32) (limit_0 : Int32) (cells_0list : Nat → Int64) (first_0list : Nat → Int32) (chosen_0 : Nat → Int32) (last_0list : Nat → Int32) (inField_0way : Nat → Int32) (first_0way : Nat → Int32) (last_0way : Nat → Int32) : Option ((Nat → Int32) × (Nat → Int32) × (Nat → Int32) × (Nat → Int32) × Int32) :=
  (fCellSearch_fillFrom_L3 F R x1 x2 x3 count_0list limit_0 cells_0list first_0list last_0list F (0 : Int32) ways_0 chosen_0 inField_0way first_0way last_0way).bind fun r7 =>
  some (r7.2.2.1, r7.2.2.2.1, r7.2.2.2.2.1, r7.2.2.2.2.2, r7.2.1)
abbrev wl_fCellSearch_fillFrom (cI cZ cJ cQ : ClassId) (a_0 a_0list a_0listcells a_0listfirst a_0chosen a_0listlast a_0way a_0wayinField a_0wayfirst a_0waylast a_0listeveryFirst a_0listeveryLast a_0listeveryCells a_0listowner a_0waynumber : Nat) (limit_0 : Int32) (ways_0 : Int32) (count_0list : Int32) (cells_0list : Nat → Int64) (first_0list : Nat → Int32) (chosen_0 : Nat → Int32) (last_0list : Nat → Int32) (inField_0way : Nat → Int32) (first_0way : Nat → Int32) (last_0way : Nat → Int32) : va_W := [(a_0, .inr (1, [.ref a_0list, .ref a_0chosen, .ref a_0way, .int limit_0, .int ways_0])), (a_0list, .inr (7, [.ref a_0listeveryFirst, .ref a_0listeveryLast, .ref a_0listeveryCells, .ref a_0listfirst, .ref a_0listlast, .ref a_0listcells, .ref a_0listowner, .int count_0list])), (a_0listcells, .inl (cJ, 588, .inr (.inl cells_0list))), (a_0listfirst, .inl (cI, 588, .inl first_0list)), (a_0chosen, .inl (cI, 42, .inl chosen_0)), (a_0listlast, .inl (cI, 588, .inl last_0list)), (a_0way, .inr (0, [.ref a_0waynumber, .ref a_0wayinField, .ref a_0wayfirst, .ref a_0waylast])), (a_0wayinField, .inl (cZ, 42, .inl inField_0way)), (a_0wayfirst, .inl (cI, 42, .inl first_0way)), (a_0waylast, .inl (cI, 42, .inl last_0way))]
def fCellSearch_fill (F : Nat) : Nat → Int64 → Int32 → Int32 → (Nat → Int64) → Int32 → Int32 → (Nat → Int32) → (Nat → Int32) → (Nat → Int32) → (Nat → Int32) → (Nat → Int32) → (Nat → Int32) → Option ((Nat → Int32) × (Nat → Int32) × (Nat → Int32) × (Nat → Int32) × Int32)
  | 0, _, _, _, _, _, _, _, _, _, _, _, _ => none
  | D + 1, x1, x2, count_0list, cells_0list, ways_0, limit_0, first_0list, chosen_0, last_0list, inField_0way, first_0way, last_0way =>
    if ¬ x1 = (4398046511103 : Int64) then
      if (42 : Int32) ≤ x2 then
        some (chosen_0, inField_0way, first_0way, last_0way, ways_0)
      else
        (fRectangles_cellsInReach F x1 count_0list cells_0list).bind fun s1 =>
        if ¬ s1 = ((4398046511103 : Int64) &&& (x1 ^^^ (-1 : Int64))) then
          some (chosen_0, inField_0way, first_0way, last_0way, ways_0)
        else
          (fX_lowestCell ((4398046511103 : Int64) &&& (x1 ^^^ (-1 : Int64)))).bind fun s2 =>
          (fCellSearch_fillFrom F (fCellSearch_fill F D) s2 x1 x2 count_0list ways_0 limit_0 cells_0list first_0list chosen_0 last_0list inField_0way first_0way last_0way).bind fun s3 =>
          some (s3.1, s3.2.1, s3.2.2.1, s3.2.2.2.1, s3.2.2.2.2)
    else
      (show Option ((Nat → Int32) × (Nat → Int32) × (Nat → Int32)) from
        if ¬ ways_0 = (0 : Int32) then
          some (inField_0way, first_0way, last_0way)
        else
          (fCellSearch_placeChosen F x2 chosen_0 count_0list first_0list last_0list inField_0way first_0way last_0way).bind fun s4 =>
          some (s4.1, s4.2.1, s4.2.2)).bind fun j5 =>
      some (chosen_0, j5.1, j5.2.1, j5.2.2, (ways_0 + (1 : Int32)))
abbrev wl_fCellSearch_fill (cI cZ cJ cQ : ClassId) (a_0 a_0list a_0listcells a_0listfirst a_0chosen a_0listlast a_0way a_0wayinField a_0wayfirst a_0waylast a_0listeveryFirst a_0listeveryLast a_0listeveryCells a_0listowner a_0waynumber : Nat) (limit_0 : Int32) (ways_0 : Int32) (count_0list : Int32) (cells_0list : Nat → Int64) (first_0list : Nat → Int32) (chosen_0 : Nat → Int32) (last_0list : Nat → Int32) (inField_0way : Nat → Int32) (first_0way : Nat → Int32) (last_0way : Nat → Int32) : va_W := [(a_0, .inr (1, [.ref a_0list, .ref a_0chosen, .ref a_0way, .int limit_0, .int ways_0])), (a_0list, .inr (7, [.ref a_0listeveryFirst, .ref a_0listeveryLast, .ref a_0listeveryCells, .ref a_0listfirst, .ref a_0listlast, .ref a_0listcells, .ref a_0listowner, .int count_0list])), (a_0listcells, .inl (cJ, 588, .inr (.inl cells_0list))), (a_0listfirst, .inl (cI, 588, .inl first_0list)), (a_0chosen, .inl (cI, 42, .inl chosen_0)), (a_0listlast, .inl (cI, 588, .inl last_0list)), (a_0way, .inr (0, [.ref a_0waynumber, .ref a_0wayinField, .ref a_0wayfirst, .ref a_0waylast])), (a_0wayinField, .inl (cZ, 42, .inl inField_0way)), (a_0wayfirst, .inl (cI, 42, .inl first_0way)), (a_0waylast, .inl (cI, 42, .inl last_0way))]
def fCellSearch_countWays (F : Nat) (x2 : Int32) (inField_1 : Nat → Int32) (number_1 : Nat → Int32) (count_0list : Int32) (everyCells_0list : Nat → Int64) (everyFirst_0list : Nat → Int32) (first_0list : Nat → Int32) (everyLast_0list : Nat → Int32) (last_0list : Nat → Int32) (cells_0list : Nat → Int64) (owner_0list : Nat → Int32) (number_0way : Nat → Int32) (inField_0way : Nat → Int32) (first_1 : Nat → Int32) (first_0way : Nat → Int32) (last_1 : Nat → Int32) (last_0way : Nat → Int32) (limit_0 : Int32) (ways_0 : Int32) (chosen_0 : Nat → Int32) : Option (Int32 × Int32 × (Nat → Int32) × (Nat → Int32) × (Nat → Int64) × (Nat → Int32) × (Nat → Int32) × (Nat → Int32) × (Nat → Int32) × (Nat → Int32) × Int32 × Int32 × (Nat → Int32)) :=
  (fRectangles_find F inField_1 number_1 count_0list everyCells_0list everyFirst_0list first_0list everyLast_0list last_0list cells_0list owner_0list).bind fun s1 =>
  (fBoard_copy F number_1 number_0way inField_1 inField_0way first_1 first_0way last_1 last_0way).bind fun s2 =>
  (fBoard_addsUp F inField_1 number_1).bind fun s3 =>
  (show Option ((Nat → Int32) × (Nat → Int32) × (Nat → Int32) × Int32 × (Nat → Int32)) from
    if s3 = (0 : Int32) then
      some (s2.2.1, s2.2.2.1, s2.2.2.2, (0 : Int32), chosen_0)
    else
      (fBoard_cellsInFields F inField_1).bind fun s4 =>
      (fCellSearch_fill F 44 s4 (0 : Int32) s1.1 s1.2.2.2.1 (0 : Int32) x2 s1.2.1 chosen_0 s1.2.2.1 s2.2.1 s2.2.2.1 s2.2.2.2).bind fun s5 =>
      some (s5.2.1, s5.2.2.1, s5.2.2.2.1, s5.2.2.2.2, s5.1)).bind fun j6 =>
  some (j6.2.2.2.1, s1.1, s1.2.1, s1.2.2.1, s1.2.2.2.1, s1.2.2.2.2, s2.1, j6.1, j6.2.1, j6.2.2.1, x2, j6.2.2.2.1, j6.2.2.2.2)
abbrev wl_fCellSearch_countWays (cI cZ cJ cQ : ClassId) (a_0 a_1 a_1inField a_1number a_0list a_0listeveryCells a_0listeveryFirst a_0listfirst a_0listeveryLast a_0listlast a_0listcells a_0listowner a_0way a_0waynumber a_0wayinField a_1first a_0wayfirst a_1last a_0waylast a_0chosen : Nat) (limit_0 : Int32) (ways_0 : Int32) (inField_1 : Nat → Int32) (number_1 : Nat → Int32) (count_0list : Int32) (everyCells_0list : Nat → Int64) (everyFirst_0list : Nat → Int32) (first_0list : Nat → Int32) (everyLast_0list : Nat → Int32) (last_0list : Nat → Int32) (cells_0list : Nat → Int64) (owner_0list : Nat → Int32) (number_0way : Nat → Int32) (inField_0way : Nat → Int32) (first_1 : Nat → Int32) (first_0way : Nat → Int32) (last_1 : Nat → Int32) (last_0way : Nat → Int32) (chosen_0 : Nat → Int32) : va_W := [(a_0, .inr (1, [.ref a_0list, .ref a_0chosen, .ref a_0way, .int limit_0, .int ways_0])), (a_1, .inr (0, [.ref a_1number, .ref a_1inField, .ref a_1first, .ref a_1last])), (a_1inField, .inl (cZ, 42, .inl inField_1)), (a_1number, .inl (cI, 42, .inl number_1)), (a_0list, .inr (7, [.ref a_0listeveryFirst, .ref a_0listeveryLast, .ref a_0listeveryCells, .ref a_0listfirst, .ref a_0listlast, .ref a_0listcells, .ref a_0listowner, .int count_0list])), (a_0listeveryCells, .inl (cJ, 588, .inr (.inl everyCells_0list))), (a_0listeveryFirst, .inl (cI, 588, .inl everyFirst_0list)), (a_0listfirst, .inl (cI, 588, .inl first_0list)), (a_0listeveryLast, .inl (cI, 588, .inl everyLast_0list)), (a_0listlast, .inl (cI, 588, .inl last_0list)), (a_0listcells, .inl (cJ, 588, .inr (.inl cells_0list))), (a_0listowner, .inl (cI, 588, .inl owner_0list)), (a_0way, .inr (0, [.ref a_0waynumber, .ref a_0wayinField, .ref a_0wayfirst, .ref a_0waylast])), (a_0waynumber, .inl (cI, 42, .inl number_0way)), (a_0wayinField, .inl (cZ, 42, .inl inField_0way)), (a_1first, .inl (cI, 42, .inl first_1)), (a_0wayfirst, .inl (cI, 42, .inl first_0way)), (a_1last, .inl (cI, 42, .inl last_1)), (a_0waylast, .inl (cI, 42, .inl last_0way)), (a_0chosen, .inl (cI, 42, .inl chosen_0))]
def fCellSearch_firstWay : Option (Unit) :=
  some ()
abbrev wl_fCellSearch_firstWay (cI cZ cJ cQ : ClassId) (a_0 a_0list a_0chosen a_0way : Nat) (limit_0 : Int32) (ways_0 : Int32) : va_W := [(a_0, .inr (1, [.ref a_0list, .ref a_0chosen, .ref a_0way, .int limit_0, .int ways_0]))]
def fNumberSearch_countChoices_L2 (F : Nat) : Nat → Int32 → (Nat → Int32) → Option (Int32 × (Nat → Int32))
  | 0, _, _ => none
  | N + 1, l3, choices_0 =>
    if (42 : Int32) ≤ l3 then
      some (l3, choices_0)
    else
      (o_wrI 42 choices_0 l3 (0 : Int32)).bind fun w1 =>
      fNumberSearch_countChoices_L2 F N (l3 + (1 : Int32)) w1
def fNumberSearch_countChoices_L23 (F : Nat) (l1 : Int64) (count_0list : Int32) (owner_0list : Nat → Int32) (cells_0list : Nat → Int64) : Nat → Int32 → (Nat → Int32) → Option (Int32 × (Nat → Int32))
  | 0, _, _ => none
  | N + 1, l3, choices_0 =>
    (fRectangles_size count_0list).bind fun s3 =>
    if s3 ≤ l3 then
      some (l3, choices_0)
    else
      (fRectangles_ownerAt l3 count_0list owner_0list).bind fun s4 =>
      (fX_isCell s4).bind fun s5 =>
      (show Option ((Nat → Int32)) from
        if s5 = (0 : Int32) then
          some choices_0
        else
          (fRectangles_cellsAt l3 count_0list cells_0list).bind fun s6 =>
          if ¬ (s6 &&& l1) = (0 : Int64) then
            some choices_0
          else
            (o_rd 42 choices_0 s4).bind fun v7 =>
            (o_wrI 42 choices_0 s4 (v7 + (1 : Int32))).bind fun w8 =>
            some w8).bind fun j9 =>
      fNumberSearch_countChoices_L23 F l1 count_0list owner_0list cells_0list N (l3 + (1 : Int32)) j9
def fNumberSearch_countChoices (F : Nat) (x1 : Int64) (choices_0 : Nat → Int32) (count_0list : Int32) (owner_0list : Nat → Int32) (cells_0list : Nat → Int64) : Option ((Nat → Int32)) :=
  (fNumberSearch_countChoices_L2 F F (0 : Int32) choices_0).bind fun r2 =>
  (fNumberSearch_countChoices_L23 F x1 count_0list owner_0list cells_0list F (0 : Int32) r2.2).bind fun r10 =>
  some r10.2
abbrev wl_fNumberSearch_countChoices (cI cZ cJ cQ : ClassId) (a_0 a_0choices a_0list a_0listowner a_0listcells a_0listeveryFirst a_0listeveryLast a_0listeveryCells a_0listfirst a_0listlast : Nat) (numbers_0 : Int64) (ways_0 : Int32) (choices_0 : Nat → Int32) (count_0list : Int32) (owner_0list : Nat → Int32) (cells_0list : Nat → Int64) : va_W := [(a_0, .inr (6, [.ref a_0list, .ref a_0choices, .long numbers_0, .int ways_0])), (a_0choices, .inl (cI, 42, .inl choices_0)), (a_0list, .inr (7, [.ref a_0listeveryFirst, .ref a_0listeveryLast, .ref a_0listeveryCells, .ref a_0listfirst, .ref a_0listlast, .ref a_0listcells, .ref a_0listowner, .int count_0list])), (a_0listowner, .inl (cI, 588, .inl owner_0list)), (a_0listcells, .inl (cJ, 588, .inr (.inl cells_0list)))]
def fNumberSearch_scarcest_L16 (F : Nat) (l1 : Int64) (choices_0 : Nat → Int32) (numbers_0 : Int64) : Nat → Int32 → Int32 → Int32 → Option (Int32 × Int32 × Int32)
  | 0, _, _, _ => none
  | N + 1, l3, l4, l5 =>
    if (42 : Int32) ≤ l5 then
      some (l3, l4, l5)
    else
      (fX_has (numbers_0 &&& (l1 ^^^ (-1 : Int64))) l5).bind fun s2 =>
      (show Option (Int32 × Int32) from
        if s2 = (0 : Int32) then
          some (l3, l4)
        else
          (o_rd 42 choices_0 l5).bind fun v3 =>
          if l4 ≤ v3 then
            some (l3, l4)
          else
            (o_rd 42 choices_0 l5).bind fun v4 =>
            some (l5, v4)).bind fun j5 =>
      fNumberSearch_scarcest_L16 F l1 choices_0 numbers_0 N j5.1 j5.2 (l5 + (1 : Int32))
def fNumberSearch_scarcest (F : Nat) (x1 : Int64) (choices_0 : Nat → Int32) (count_0list : Int32) (owner_0list : Nat → Int32) (cells_0list : Nat → Int64) (numbers_0 : Int64) : Option (Int32 × (Nat → Int32)) :=
  (fNumberSearch_countChoices F x1 choices_0 count_0list owner_0list cells_0list).bind fun s1 =>
  (fNumberSearch_scarcest_L16 F x1 s1 numbers_0 F (42 : Int32) (589 : Int32) (0 : Int32)).bind fun r6 =>
  some (r6.1, s1)
abbrev wl_fNumberSearch_scarcest (cI cZ cJ cQ : ClassId) (a_0 a_0choices a_0list a_0listowner a_0listcells a_0listeveryFirst a_0listeveryLast a_0listeveryCells a_0listfirst a_0listlast : Nat) (numbers_0 : Int64) (ways_0 : Int32) (choices_0 : Nat → Int32) (count_0list : Int32) (owner_0list : Nat → Int32) (cells_0list : Nat → Int64) : va_W := [(a_0, .inr (6, [.ref a_0list, .ref a_0choices, .long numbers_0, .int ways_0])), (a_0choices, .inl (cI, 42, .inl choices_0)), (a_0list, .inr (7, [.ref a_0listeveryFirst, .ref a_0listeveryLast, .ref a_0listeveryCells, .ref a_0listfirst, .ref a_0listlast, .ref a_0listcells, .ref a_0listowner, .int count_0list])), (a_0listowner, .inl (cI, 588, .inl owner_0list)), (a_0listcells, .inl (cJ, 588, .inr (.inl cells_0list)))]
def fNumberSearch_fillFor_L3 (F : Nat) (R : Int64 → Int32 → Int32 → (Nat → Int64) → (Nat → Int32) → (Nat → Int32) → Int64 → Int32 → Option ((Nat → Int32) × Int32)) (l1 : Int32) (l2 : Int64) (l4 : Int32) (count_0list : Int32) (cells_0list : Nat → Int64) (owner_0list : Nat → Int32) (numbers_0 : Int64) : Nat → Int32 → Int32 → (Nat → Int32) → Option (Int32 × Int32 × (Nat → Int32))
  | 0, _, _, _ => none
  | N + 1, l5, ways_0, choices_0 =>
    (fRectangles_size count_0list).bind fun s1 =>
    if s1 ≤ l5 then
      some (l5, ways_0, choices_0)
    else
      if (50 : Int32) ≤ ways_0 then
        some (l5, ways_0, choices_0)
      else
        (fRectangles_cellsAt l5 count_0list cells_0list).bind fun s2 =>
        (fRectangles_ownerAt l5 count_0list owner_0list).bind fun s3 =>
        (show Option (Int32 × (Nat → Int32)) from
          if ¬ s3 = l1 then
            some (ways_0, choices_0)
          else
            if ¬ (s2 &&& l2) = (0 : Int64) then
              some (ways_0, choices_0)
            else
              (R (l2 ||| s2) (l4 + (1 : Int32)) count_0list cells_0list choices_0 owner_0list numbers_0 ways_0).bind fun s4 =>
              some (s4.2, s4.1)).bind fun j5 =>
        fNumberSearch_fillFor_L3 F R l1 l2 l4 count_0list cells_0list owner_0list numbers_0 N (l5 + (1 : Int32)) j5.1 j5.2
def fNumberSearch_fillFor (F : Nat) (R : Int64 → Int32 → Int32 → (Nat → Int64) → (Nat → Int32) → (Nat → Int32) → Int64 → Int32 → Option ((Nat → Int32) × Int32)) (x1 : Int32) (x2 : Int64) (x3 : Int32) (count_0list : Int32) (ways_0 : Int32) (cells_0list : Nat → Int64) (owner_0list : Nat → Int32) (choices_0 : Nat → Int32) (numbers_0 : Int64) : Option ((Nat → Int32) × Int32) :=
  (fNumberSearch_fillFor_L3 F R x1 x2 x3 count_0list cells_0list owner_0list numbers_0 F (0 : Int32) ways_0 choices_0).bind fun r6 =>
  some (r6.2.2, r6.2.1)
abbrev wl_fNumberSearch_fillFor (cI cZ cJ cQ : ClassId) (a_0 a_0list a_0listcells a_0listowner a_0choices a_0listeveryFirst a_0listeveryLast a_0listeveryCells a_0listfirst a_0listlast : Nat) (numbers_0 : Int64) (ways_0 : Int32) (count_0list : Int32) (cells_0list : Nat → Int64) (owner_0list : Nat → Int32) (choices_0 : Nat → Int32) : va_W := [(a_0, .inr (6, [.ref a_0list, .ref a_0choices, .long numbers_0, .int ways_0])), (a_0list, .inr (7, [.ref a_0listeveryFirst, .ref a_0listeveryLast, .ref a_0listeveryCells, .ref a_0listfirst, .ref a_0listlast, .ref a_0listcells, .ref a_0listowner, .int count_0list])), (a_0listcells, .inl (cJ, 588, .inr (.inl cells_0list))), (a_0listowner, .inl (cI, 588, .inl owner_0list)), (a_0choices, .inl (cI, 42, .inl choices_0))]
def fNumberSearch_fill (F : Nat) : Nat → Int64 → Int32 → Int32 → (Nat → Int64) → (Nat → Int32) → (Nat → Int32) → Int64 → Int32 → Option ((Nat → Int32) × Int32)
  | 0, _, _, _, _, _, _, _, _ => none
  | D + 1, x1, x2, count_0list, cells_0list, choices_0, owner_0list, numbers_0, ways_0 =>
    if ¬ x1 = (4398046511103 : Int64) then
      if (42 : Int32) ≤ x2 then
        some (choices_0, ways_0)
      else
        (fRectangles_cellsInReach F x1 count_0list cells_0list).bind fun s1 =>
        if ¬ s1 = ((4398046511103 : Int64) &&& (x1 ^^^ (-1 : Int64))) then
          some (choices_0, ways_0)
        else
          (fNumberSearch_scarcest F x1 choices_0 count_0list owner_0list cells_0list numbers_0).bind fun s2 =>
          (fNumberSearch_fillFor F (fNumberSearch_fill F D) s2.1 x1 x2 count_0list ways_0 cells_0list owner_0list s2.2 numbers_0).bind fun s3 =>
          some (s3.1, s3.2)
    else
      some (choices_0, (ways_0 + (1 : Int32)))
abbrev wl_fNumberSearch_fill (cI cZ cJ cQ : ClassId) (a_0 a_0list a_0listcells a_0choices a_0listowner a_0listeveryFirst a_0listeveryLast a_0listeveryCells a_0listfirst a_0listlast : Nat) (numbers_0 : Int64) (ways_0 : Int32) (count_0list : Int32) (cells_0list : Nat → Int64) (choices_0 : Nat → Int32) (owner_0list : Nat → Int32) : va_W := [(a_0, .inr (6, [.ref a_0list, .ref a_0choices, .long numbers_0, .int ways_0])), (a_0list, .inr (7, [.ref a_0listeveryFirst, .ref a_0listeveryLast, .ref a_0listeveryCells, .ref a_0listfirst, .ref a_0listlast, .ref a_0listcells, .ref a_0listowner, .int count_0list])), (a_0listcells, .inl (cJ, 588, .inr (.inl cells_0list))), (a_0choices, .inl (cI, 42, .inl choices_0)), (a_0listowner, .inl (cI, 588, .inl owner_0list))]
def fNumberSearch_countWays (F : Nat) (inField_1 : Nat → Int32) (number_1 : Nat → Int32) (count_0list : Int32) (everyCells_0list : Nat → Int64) (everyFirst_0list : Nat → Int32) (first_0list : Nat → Int32) (everyLast_0list : Nat → Int32) (last_0list : Nat → Int32) (cells_0list : Nat → Int64) (owner_0list : Nat → Int32) (numbers_0 : Int64) (ways_0 : Int32) (choices_0 : Nat → Int32) : Option (Int32 × Int32 × (Nat → Int32) × (Nat → Int32) × (Nat → Int64) × (Nat → Int32) × Int64 × Int32 × (Nat → Int32)) :=
  (fRectangles_find F inField_1 number_1 count_0list everyCells_0list everyFirst_0list first_0list everyLast_0list last_0list cells_0list owner_0list).bind fun s1 =>
  (fBoard_openNumbers F number_1 inField_1).bind fun s2 =>
  (fBoard_addsUp F inField_1 number_1).bind fun s3 =>
  (show Option (Int32 × (Nat → Int32)) from
    if s3 = (0 : Int32) then
      some ((0 : Int32), choices_0)
    else
      (fBoard_cellsInFields F inField_1).bind fun s4 =>
      (fNumberSearch_fill F 44 s4 (0 : Int32) s1.1 s1.2.2.2.1 choices_0 s1.2.2.2.2 s2 (0 : Int32)).bind fun s5 =>
      some (s5.2, s5.1)).bind fun j6 =>
  some (j6.1, s1.1, s1.2.1, s1.2.2.1, s1.2.2.2.1, s1.2.2.2.2, s2, j6.1, j6.2)
abbrev wl_fNumberSearch_countWays (cI cZ cJ cQ : ClassId) (a_0 a_1 a_1inField a_1number a_0list a_0listeveryCells a_0listeveryFirst a_0listfirst a_0listeveryLast a_0listlast a_0listcells a_0listowner a_0choices a_1first a_1last : Nat) (numbers_0 : Int64) (ways_0 : Int32) (inField_1 : Nat → Int32) (number_1 : Nat → Int32) (count_0list : Int32) (everyCells_0list : Nat → Int64) (everyFirst_0list : Nat → Int32) (first_0list : Nat → Int32) (everyLast_0list : Nat → Int32) (last_0list : Nat → Int32) (cells_0list : Nat → Int64) (owner_0list : Nat → Int32) (choices_0 : Nat → Int32) : va_W := [(a_0, .inr (6, [.ref a_0list, .ref a_0choices, .long numbers_0, .int ways_0])), (a_1, .inr (0, [.ref a_1number, .ref a_1inField, .ref a_1first, .ref a_1last])), (a_1inField, .inl (cZ, 42, .inl inField_1)), (a_1number, .inl (cI, 42, .inl number_1)), (a_0list, .inr (7, [.ref a_0listeveryFirst, .ref a_0listeveryLast, .ref a_0listeveryCells, .ref a_0listfirst, .ref a_0listlast, .ref a_0listcells, .ref a_0listowner, .int count_0list])), (a_0listeveryCells, .inl (cJ, 588, .inr (.inl everyCells_0list))), (a_0listeveryFirst, .inl (cI, 588, .inl everyFirst_0list)), (a_0listfirst, .inl (cI, 588, .inl first_0list)), (a_0listeveryLast, .inl (cI, 588, .inl everyLast_0list)), (a_0listlast, .inl (cI, 588, .inl last_0list)), (a_0listcells, .inl (cJ, 588, .inr (.inl cells_0list))), (a_0listowner, .inl (cI, 588, .inl owner_0list)), (a_0choices, .inl (cI, 42, .inl choices_0))]
def fHash_init (value_0 : Int64) : Option (Int64) :=
  some (4421 : Int64)
abbrev wl_fHash_init (cI cZ cJ cQ : ClassId) (a_0 : Nat) (value_0 : Int64) : va_W := [(a_0, .inr (2, [.long value_0]))]
set_option maxHeartbeats 4000000 in
set_option maxRecDepth 100000 in
theorem c_fHistory_store (l : Launch) (dC : Nat → ClassId) (dI : Nat → Nat → Nat) (cI cZ cJ cQ : ClassId) (a_0 a_0snapshot a_0snapshot0 a_0snapshot1 a_2 a_2number a_0snapshot0number a_2inField a_0snapshot0inField a_2first a_0snapshot0first a_2last a_0snapshot0last a_0filled a_0snapshot1number a_0snapshot1inField a_0snapshot1first a_0snapshot1last a_0saved : Nat) (count_0 : Int32) (sz : Nat) {F : Nat} {x1 : Int32} {snapshot_0 : Nat → Option Nat} {number_2 : Nat → Int32} {number_0snapshot0 : Nat → Int32} {inField_2 : Nat → Int32} {inField_0snapshot0 : Nat → Int32} {first_2 : Nat → Int32} {first_0snapshot0 : Nat → Int32} {last_2 : Nat → Int32} {last_0snapshot0 : Nat → Int32} {filled_0 : Nat → Int32} {number_0snapshot1 : Nat → Int32} {inField_0snapshot1 : Nat → Int32} {first_0snapshot1 : Nat → Int32} {last_0snapshot1 : Nat → Int32} {out : (Nat → Int32) × (Nat → Int32) × (Nat → Int32) × (Nat → Int32) × (Nat → Int32) × (Nat → Int32) × (Nat → Int32) × (Nat → Int32) × (Nat → Int32)} (hf : fHistory_store F x1 a_0snapshot0 a_0snapshot1 snapshot_0 number_2 number_0snapshot0 inField_2 inField_0snapshot0 first_2 first_0snapshot0 last_2 last_0snapshot0 filled_0 number_0snapshot1 inField_0snapshot1 first_0snapshot1 last_0snapshot1 = some out) : Met l yX3_store wsX3_store ({ frames := 1, cells := 0, slots := 0, locals := 22 } : Room) (va_Pc [.ref a_0, .int x1, .ref a_2] (wlP (dC, dI) (wlT cI cZ cJ cQ) (wl_fHistory_store cI cZ cJ cQ a_0 a_0snapshot a_0snapshot0 a_0snapshot1 a_2 a_2number a_0snapshot0number a_2inField a_0snapshot0inField a_2first a_0snapshot0first a_2last a_0snapshot0last a_0filled a_0snapshot1number a_0snapshot1inField a_0snapshot1first a_0snapshot1last a_0saved count_0 snapshot_0 number_2 number_0snapshot0 inField_2 inField_0snapshot0 first_2 first_0snapshot0 last_2 last_0snapshot0 filled_0 number_0snapshot1 inField_0snapshot1 first_0snapshot1 last_0snapshot1) sz)) (va_Qv (fun (_ : Unit) => True) (wlQ (dC, dI) (va_A (wl_fHistory_store cI cZ cJ cQ a_0 a_0snapshot a_0snapshot0 a_0snapshot1 a_2 a_2number a_0snapshot0number a_2inField a_0snapshot0inField a_2first a_0snapshot0first a_2last a_0snapshot0last a_0filled a_0snapshot1number a_0snapshot1inField a_0snapshot1first a_0snapshot1last a_0saved count_0 snapshot_0 number_2 number_0snapshot0 inField_2 inField_0snapshot0 first_2 first_0snapshot0 last_2 last_0snapshot0 filled_0 number_0snapshot1 inField_0snapshot1 first_0snapshot1 last_0snapshot1) sz) (wl_fHistory_store cI cZ cJ cQ a_0 a_0snapshot a_0snapshot0 a_0snapshot1 a_2 a_2number a_0snapshot0number a_2inField a_0snapshot0inField a_2first a_0snapshot0first a_2last a_0snapshot0last a_0filled a_0snapshot1number a_0snapshot1inField a_0snapshot1first a_0snapshot1last a_0saved count_0 snapshot_0 number_2 out.1 inField_2 out.2.1 first_2 out.2.2.1 last_2 out.2.2.2.1 out.2.2.2.2.1 out.2.2.2.2.2.1 out.2.2.2.2.2.2.1 out.2.2.2.2.2.2.2.1 out.2.2.2.2.2.2.2.2)) (va_A (wl_fHistory_store cI cZ cJ cQ a_0 a_0snapshot a_0snapshot0 a_0snapshot1 a_2 a_2number a_0snapshot0number a_2inField a_0snapshot0inField a_2first a_0snapshot0first a_2last a_0snapshot0last a_0filled a_0snapshot1number a_0snapshot1inField a_0snapshot1first a_0snapshot1last a_0saved count_0 snapshot_0 number_2 number_0snapshot0 inField_2 inField_0snapshot0 first_2 first_0snapshot0 last_2 last_0snapshot0 filled_0 number_0snapshot1 inField_0snapshot1 first_0snapshot1 last_0snapshot1) sz)) 0 0 (va_A (wl_fHistory_store cI cZ cJ cQ a_0 a_0snapshot a_0snapshot0 a_0snapshot1 a_2 a_2number a_0snapshot0number a_2inField a_0snapshot0inField a_2first a_0snapshot0first a_2last a_0snapshot0last a_0filled a_0snapshot1number a_0snapshot1inField a_0snapshot1first a_0snapshot1last a_0saved count_0 snapshot_0 number_2 number_0snapshot0 inField_2 inField_0snapshot0 first_2 first_0snapshot0 last_2 last_0snapshot0 filled_0 number_0snapshot1 inField_0snapshot1 first_0snapshot1 last_0snapshot1) sz) := by
  refine wh_ofWv (lv := [(0, .ref a_0), (1, .int x1), (2, .ref a_2)]) RX3 (by decide) rfl rfl (Nat.le_of_ble_eq_true rfl) rfl ?_
  intro p e s m below meth c A QQ hx hb hml hown hts hP hK hN hD hA hret ls hl
  have hS : va_S A s.heap s.heap [] := va_S.rf
  have hiX3 : ∀ w ∈ wsX30, w ∈ wsX3_store := (fun _ h => List.mem_cons_of_mem _ (List.mem_append_left _ (List.mem_append_right _ (h))))
  unfold fHistory_store at hf
  refine lv_iload_n hx hb dX3_store_0 rfl (lv_at hl 1 rfl) ?_
  refine lv_if_lt (tgt := 35) hx hb dX3_store_1 (by decide) (fun cc => ?_) (fun cc => ?_)
  · replace hf := hf_pos cc hf
    obtain rfl := Option.some.inj hf
    exact hret _ _ _ _ hP hD hS dX3_store_35
  · replace hf := hf_neg cc hf
    refine lv_iload_n hx hb dX3_store_4 rfl (lv_at hl 1 rfl) ?_
    refine lv_iconst (v := 2) hx hb dX3_store_5 (by decide) ?_
    refine lv_icmp_ge (tgt := 35) hx hb dX3_store_6 (by decide) (fun cc => ?_) (fun cc => ?_)
    · replace hf := hf_pos cc hf
      obtain rfl := Option.some.inj hf
      exact hret _ _ _ _ hP hD hS dX3_store_35
    · replace hf := hf_neg cc hf
      refine lv_aload_n hx hb dX3_store_9 rfl (lv_at hl 0 rfl) ?_
      refine va_get (D := (dC, dI)) (ci := 3) (C := RX3) (T := TX3) (N := 4) hx hb hts hiX3 hown hK hP 0 rfl rfl 1 (by decide) (hts (.fieldLink RX3 18 "PaddockFields$History" "snapshot" "[LPaddockFields$Board;") (List.mem_cons_of_mem _ (List.mem_append_left _ (List.mem_append_left _ (List.mem_of_getElem? (i := 0) rfl))))) (fun _ h9 => h9) rfl dX3_store_10 ?_
      refine lv_iload_n hx hb dX3_store_13 rfl (lv_at hl 1 rfl) ?_
      obtain ⟨v1, h_v1, hf⟩ := hf_bind hf
      refine wh_ldQ (D := (dC, dI)) hx hb hK hP 1 3 rfl rfl h_v1 dX3_store_14 ?_
      refine lv_ifnull hx hb dX3_store_15 ?_
      refine lv_aload_n hx hb dX3_store_18 rfl (lv_at hl 0 rfl) ?_
      refine va_get (D := (dC, dI)) (ci := 3) (C := RX3) (T := TX3) (N := 4) hx hb hts hiX3 hown hK hP 0 rfl rfl 1 (by decide) (hts (.fieldLink RX3 18 "PaddockFields$History" "snapshot" "[LPaddockFields$Board;") (List.mem_cons_of_mem _ (List.mem_append_left _ (List.mem_append_left _ (List.mem_of_getElem? (i := 0) rfl))))) (fun _ h9 => h9) rfl dX3_store_19 ?_
      refine lv_iload_n hx hb dX3_store_22 rfl (lv_at hl 1 rfl) ?_
      obtain ⟨v2, h_v2, hf⟩ := hf_bind hf
      refine wh_ldQ (D := (dC, dI)) hx hb hK hP 1 3 rfl rfl h_v2 dX3_store_23 ?_
      refine lv_aload_n hx hb dX3_store_24 rfl (lv_at hl 2 rfl) ?_
      by_cases hq : v2 = a_0snapshot0
      · subst v2
        replace hf := hf_pos rfl hf
        obtain ⟨s3, h_s3, hf⟩ := hf_bind hf
        refine wh_callv (D := (dC, dI)) (ws' := (wl_fHistory_store cI cZ cJ cQ a_0 a_0snapshot a_0snapshot0 a_0snapshot1 a_2 a_2number a_0snapshot0number a_2inField a_0snapshot0inField a_2first a_0snapshot0first a_2last a_0snapshot0last a_0filled a_0snapshot1number a_0snapshot1inField a_0snapshot1first a_0snapshot1last a_0saved count_0 snapshot_0 number_2 s3.1 inField_2 s3.2.1 first_2 s3.2.2.1 last_2 s3.2.2.2 filled_0 number_0snapshot1 inField_0snapshot1 first_0snapshot1 last_0snapshot1)) (va_runV (As := [.ref a_2]) (rest := []) ⟨hx, hb, hml, hown, hts⟩ (c_fBoard_copy l dC dI cI cZ cJ cQ a_0snapshot0 a_2 a_2number a_0snapshot0number a_2inField a_0snapshot0inField a_2first a_0snapshot0first a_2last a_0snapshot0last _ h_s3) (cwV 1 hts gX3_store_X0_copy rfl rfl rfl (by decide +kernel) ⟨Nat.le_of_ble_eq_true rfl, Nat.le_of_ble_eq_true rfl⟩) (wh_preV (C := RX0) (T := TX0) (N := 4) hK hN hP hD [2, 4, 5, 6, 7, 8, 9, 10, 11, 12] rfl rfl 0 0 rfl rfl) rfl rfl hl.1 rfl (lv_room (Nat.le_of_ble_eq_true rfl)) dX3_store_25 ⟨Nat.le_refl _, Nat.le_refl _⟩) hP hD hS hA [2, 4, 5, 6, 7, 8, 9, 10, 11, 12] [0, 1, 3, 13, 14, 15, 16, 17] [0, 1, 8, 2, 9, 10, 11, 12, 13, 14, 15, 16, 17, 3, 4, 5, 6, 7] rfl rfl rfl rfl (fun H locs hP hD hS => ?_)
        refine lv_aload_n hx hb dX3_store_28 rfl (lv_at hl 0 rfl) ?_
        refine va_get (D := (dC, dI)) (ci := 3) (C := RX3) (T := TX3) (N := 4) hx hb hts hiX3 hown hK hP 0 rfl rfl 2 (by decide) (hts (.fieldLink RX3 21 "PaddockFields$History" "filled" "[Z") (List.mem_cons_of_mem _ (List.mem_append_left _ (List.mem_append_left _ (List.mem_of_getElem? (i := 1) rfl))))) (fun _ h9 => h9) rfl dX3_store_29 ?_
        refine lv_iload_n hx hb dX3_store_32 rfl (lv_at hl 1 rfl) ?_
        refine lv_iconst (v := 1) hx hb dX3_store_33 (by decide) ?_
        obtain ⟨w4, h_w4, hf⟩ := hf_bind hf
        refine wh_stZ (D := (dC, dI)) (ws' := (wl_fHistory_store cI cZ cJ cQ a_0 a_0snapshot a_0snapshot0 a_0snapshot1 a_2 a_2number a_0snapshot0number a_2inField a_0snapshot0inField a_2first a_0snapshot0first a_2last a_0snapshot0last a_0filled a_0snapshot1number a_0snapshot1inField a_0snapshot1first a_0snapshot1last a_0saved count_0 snapshot_0 number_2 s3.1 inField_2 s3.2.1 first_2 s3.2.2.1 last_2 s3.2.2.2 w4 number_0snapshot1 inField_0snapshot1 first_0snapshot1 last_0snapshot1)) hx hb hK hP hD hS 13 1 rfl rfl rfl h_w4 dX3_store_34 (fun H locs hP hD hS => ?_)
        obtain rfl := Option.some.inj hf
        exact hret _ _ _ _ hP hD hS dX3_store_35
      replace hf := hf_neg hq hf
      by_cases hq : v2 = a_0snapshot1
      · subst v2
        replace hf := hf_pos rfl hf
        obtain ⟨s5, h_s5, hf⟩ := hf_bind hf
        refine wh_callv (D := (dC, dI)) (ws' := (wl_fHistory_store cI cZ cJ cQ a_0 a_0snapshot a_0snapshot0 a_0snapshot1 a_2 a_2number a_0snapshot0number a_2inField a_0snapshot0inField a_2first a_0snapshot0first a_2last a_0snapshot0last a_0filled a_0snapshot1number a_0snapshot1inField a_0snapshot1first a_0snapshot1last a_0saved count_0 snapshot_0 number_2 number_0snapshot0 inField_2 inField_0snapshot0 first_2 first_0snapshot0 last_2 last_0snapshot0 filled_0 s5.1 s5.2.1 s5.2.2.1 s5.2.2.2)) (va_runV (As := [.ref a_2]) (rest := []) ⟨hx, hb, hml, hown, hts⟩ (c_fBoard_copy l dC dI cI cZ cJ cQ a_0snapshot1 a_2 a_2number a_0snapshot1number a_2inField a_0snapshot1inField a_2first a_0snapshot1first a_2last a_0snapshot1last _ h_s5) (cwV 1 hts gX3_store_X0_copy rfl rfl rfl (by decide +kernel) ⟨Nat.le_of_ble_eq_true rfl, Nat.le_of_ble_eq_true rfl⟩) (wh_preV (C := RX0) (T := TX0) (N := 4) hK hN hP hD [3, 4, 5, 14, 7, 15, 9, 16, 11, 17] rfl rfl 0 0 rfl rfl) rfl rfl hl.1 rfl (lv_room (Nat.le_of_ble_eq_true rfl)) dX3_store_25 ⟨Nat.le_refl _, Nat.le_refl _⟩) hP hD hS hA [3, 4, 5, 14, 7, 15, 9, 16, 11, 17] [0, 1, 2, 6, 8, 10, 12, 13] [0, 1, 2, 8, 9, 10, 3, 12, 4, 14, 5, 16, 6, 7, 11, 13, 15, 17] rfl rfl rfl rfl (fun H locs hP hD hS => ?_)
        refine lv_aload_n hx hb dX3_store_28 rfl (lv_at hl 0 rfl) ?_
        refine va_get (D := (dC, dI)) (ci := 3) (C := RX3) (T := TX3) (N := 4) hx hb hts hiX3 hown hK hP 0 rfl rfl 2 (by decide) (hts (.fieldLink RX3 21 "PaddockFields$History" "filled" "[Z") (List.mem_cons_of_mem _ (List.mem_append_left _ (List.mem_append_left _ (List.mem_of_getElem? (i := 1) rfl))))) (fun _ h9 => h9) rfl dX3_store_29 ?_
        refine lv_iload_n hx hb dX3_store_32 rfl (lv_at hl 1 rfl) ?_
        refine lv_iconst (v := 1) hx hb dX3_store_33 (by decide) ?_
        obtain ⟨w6, h_w6, hf⟩ := hf_bind hf
        refine wh_stZ (D := (dC, dI)) (ws' := (wl_fHistory_store cI cZ cJ cQ a_0 a_0snapshot a_0snapshot0 a_0snapshot1 a_2 a_2number a_0snapshot0number a_2inField a_0snapshot0inField a_2first a_0snapshot0first a_2last a_0snapshot0last a_0filled a_0snapshot1number a_0snapshot1inField a_0snapshot1first a_0snapshot1last a_0saved count_0 snapshot_0 number_2 number_0snapshot0 inField_2 inField_0snapshot0 first_2 first_0snapshot0 last_2 last_0snapshot0 w6 s5.1 s5.2.1 s5.2.2.1 s5.2.2.2)) hx hb hK hP hD hS 13 1 rfl rfl rfl h_w6 dX3_store_34 (fun H locs hP hD hS => ?_)
        obtain rfl := Option.some.inj hf
        exact hret _ _ _ _ hP hD hS dX3_store_35
      replace hf := hf_neg hq hf
      exact nomatch hf
set_option maxHeartbeats 4000000 in
set_option maxRecDepth 100000 in
theorem c_fHistory_hasSnapshot (l : Launch) (dC : Nat → ClassId) (dI : Nat → Nat → Nat) (cI cZ cJ cQ : ClassId) (a_0 a_0filled a_0saved a_0snapshot : Nat) (count_0 : Int32) (sz : Nat) {x1 : Int32} {filled_0 : Nat → Int32} {out : Int32} (hf : fHistory_hasSnapshot x1 filled_0 = some out) : Met l yX3_hasSnapshot wsX3_hasSnapshot ({ frames := 0, cells := 0, slots := 0, locals := 0 } : Room) (va_Pc [.ref a_0, .int x1] (wlP (dC, dI) (wlT cI cZ cJ cQ) (wl_fHistory_hasSnapshot cI cZ cJ cQ a_0 a_0filled a_0saved a_0snapshot count_0 filled_0) sz)) (va_Qi (fun (v : Int32) (_ : Unit) => v = out) (wlQ (dC, dI) (va_A (wl_fHistory_hasSnapshot cI cZ cJ cQ a_0 a_0filled a_0saved a_0snapshot count_0 filled_0) sz) (wl_fHistory_hasSnapshot cI cZ cJ cQ a_0 a_0filled a_0saved a_0snapshot count_0 filled_0)) (va_A (wl_fHistory_hasSnapshot cI cZ cJ cQ a_0 a_0filled a_0saved a_0snapshot count_0 filled_0) sz)) 0 0 (va_A (wl_fHistory_hasSnapshot cI cZ cJ cQ a_0 a_0filled a_0saved a_0snapshot count_0 filled_0) sz) := by
  refine wh_ofWz (lv := [(0, .ref a_0), (1, .int x1)]) RX3 (by decide) rfl rfl (Nat.le_of_ble_eq_true rfl) rfl ?_
  intro p e s m below meth c A QQ hx hb hml hown hts hP hK hN hD hA hret ls hl
  have hS : va_S A s.heap s.heap [] := va_S.rf
  have hiX3 : ∀ w ∈ wsX30, w ∈ wsX3_hasSnapshot := (fun _ h => List.mem_cons_of_mem _ (List.mem_append_right _ (h)))
  unfold fHistory_hasSnapshot at hf
  refine lv_iload_n hx hb dX3_hasSnapshot_0 rfl (lv_at hl 1 rfl) ?_
  refine lv_if_lt (tgt := 22) hx hb dX3_hasSnapshot_1 (by decide) (fun cc => ?_) (fun cc => ?_)
  · replace hf := hf_pos cc hf
    refine lv_iconst (v := 0) hx hb dX3_hasSnapshot_22 (by decide) ?_
    obtain rfl := Option.some.inj hf
    exact hret _ _ _ _ (by decide) hP hD hS dX3_hasSnapshot_23
  · replace hf := hf_neg cc hf
    refine lv_iload_n hx hb dX3_hasSnapshot_4 rfl (lv_at hl 1 rfl) ?_
    refine lv_iconst (v := 2) hx hb dX3_hasSnapshot_5 (by decide) ?_
    refine lv_icmp_ge (tgt := 22) hx hb dX3_hasSnapshot_6 (by decide) (fun cc => ?_) (fun cc => ?_)
    · replace hf := hf_pos cc hf
      refine lv_iconst (v := 0) hx hb dX3_hasSnapshot_22 (by decide) ?_
      obtain rfl := Option.some.inj hf
      exact hret _ _ _ _ (by decide) hP hD hS dX3_hasSnapshot_23
    · replace hf := hf_neg cc hf
      refine lv_aload_n hx hb dX3_hasSnapshot_9 rfl (lv_at hl 0 rfl) ?_
      refine va_get (D := (dC, dI)) (ci := 3) (C := RX3) (T := TX3) (N := 4) hx hb hts hiX3 hown hK hP 0 rfl rfl 2 (by decide) (hts (.fieldLink RX3 21 "PaddockFields$History" "filled" "[Z") (List.mem_cons_of_mem _ (List.mem_append_left _ (List.mem_of_getElem? (i := 0) rfl)))) (fun _ h9 => h9) rfl dX3_hasSnapshot_10 ?_
      refine lv_iload_n hx hb dX3_hasSnapshot_13 rfl (lv_at hl 1 rfl) ?_
      obtain ⟨v1, h_v1, hf⟩ := hf_bind hf
      refine wh_ldZ (D := (dC, dI)) hx hb hK hP 1 1 rfl rfl h_v1 dX3_hasSnapshot_14 ?_
      refine lv_if_eq (tgt := 22) hx hb dX3_hasSnapshot_15 (by decide) (fun cc => ?_) (fun cc => ?_)
      · replace hf := hf_pos cc hf
        refine lv_iconst (v := 0) hx hb dX3_hasSnapshot_22 (by decide) ?_
        obtain rfl := Option.some.inj hf
        exact hret _ _ _ _ (by decide) hP hD hS dX3_hasSnapshot_23
      · replace hf := hf_neg cc hf
        refine lv_iconst (v := 1) hx hb dX3_hasSnapshot_18 (by decide) ?_
        refine lv_goto (tgt := 23) hx hb dX3_hasSnapshot_19 (by decide) ?_
        obtain rfl := Option.some.inj hf
        exact hret _ _ _ _ (by decide) hP hD hS dX3_hasSnapshot_23
set_option maxHeartbeats 4000000 in
set_option maxRecDepth 100000 in
theorem c_fHistory_dropOldest (l : Launch) (dC : Nat → ClassId) (dI : Nat → Nat → Nat) (cI cZ cJ cQ : ClassId) (a_0 a_0saved a_0saved0 a_0saved1 a_0saved2 a_0saved3 a_0saved4 a_0saved5 a_0snapshot a_0filled a_0saved0number a_0saved0inField a_0saved0first a_0saved0last a_0saved1number a_0saved1inField a_0saved1first a_0saved1last a_0saved2number a_0saved2inField a_0saved2first a_0saved2last a_0saved3number a_0saved3inField a_0saved3first a_0saved3last a_0saved4number a_0saved4inField a_0saved4first a_0saved4last a_0saved5number a_0saved5inField a_0saved5first a_0saved5last : Nat) (sz : Nat) {F : Nat} {saved_0 : Nat → Option Nat} {count_0 : Int32} {out : (Nat → Option Nat) × Int32} (hf : fHistory_dropOldest F a_0saved0 a_0saved1 a_0saved2 a_0saved3 a_0saved4 a_0saved5 saved_0 count_0 = some out) : Met l yX3_dropOldest wsX3_dropOldest ({ frames := 0, cells := 0, slots := 0, locals := 0 } : Room) (va_Pc [.ref a_0] (wlP (dC, dI) (wlT cI cZ cJ cQ) (wl_fHistory_dropOldest cI cZ cJ cQ a_0 a_0saved a_0saved0 a_0saved1 a_0saved2 a_0saved3 a_0saved4 a_0saved5 a_0snapshot a_0filled a_0saved0number a_0saved0inField a_0saved0first a_0saved0last a_0saved1number a_0saved1inField a_0saved1first a_0saved1last a_0saved2number a_0saved2inField a_0saved2first a_0saved2last a_0saved3number a_0saved3inField a_0saved3first a_0saved3last a_0saved4number a_0saved4inField a_0saved4first a_0saved4last a_0saved5number a_0saved5inField a_0saved5first a_0saved5last count_0 saved_0) sz)) (va_Qv (fun (_ : Unit) => True) (wlQ (dC, dI) (va_A (wl_fHistory_dropOldest cI cZ cJ cQ a_0 a_0saved a_0saved0 a_0saved1 a_0saved2 a_0saved3 a_0saved4 a_0saved5 a_0snapshot a_0filled a_0saved0number a_0saved0inField a_0saved0first a_0saved0last a_0saved1number a_0saved1inField a_0saved1first a_0saved1last a_0saved2number a_0saved2inField a_0saved2first a_0saved2last a_0saved3number a_0saved3inField a_0saved3first a_0saved3last a_0saved4number a_0saved4inField a_0saved4first a_0saved4last a_0saved5number a_0saved5inField a_0saved5first a_0saved5last count_0 saved_0) sz) (wl_fHistory_dropOldest cI cZ cJ cQ a_0 a_0saved a_0saved0 a_0saved1 a_0saved2 a_0saved3 a_0saved4 a_0saved5 a_0snapshot a_0filled a_0saved0number a_0saved0inField a_0saved0first a_0saved0last a_0saved1number a_0saved1inField a_0saved1first a_0saved1last a_0saved2number a_0saved2inField a_0saved2first a_0saved2last a_0saved3number a_0saved3inField a_0saved3first a_0saved3last a_0saved4number a_0saved4inField a_0saved4first a_0saved4last a_0saved5number a_0saved5inField a_0saved5first a_0saved5last out.2 out.1)) (va_A (wl_fHistory_dropOldest cI cZ cJ cQ a_0 a_0saved a_0saved0 a_0saved1 a_0saved2 a_0saved3 a_0saved4 a_0saved5 a_0snapshot a_0filled a_0saved0number a_0saved0inField a_0saved0first a_0saved0last a_0saved1number a_0saved1inField a_0saved1first a_0saved1last a_0saved2number a_0saved2inField a_0saved2first a_0saved2last a_0saved3number a_0saved3inField a_0saved3first a_0saved3last a_0saved4number a_0saved4inField a_0saved4first a_0saved4last a_0saved5number a_0saved5inField a_0saved5first a_0saved5last count_0 saved_0) sz)) 0 0 (va_A (wl_fHistory_dropOldest cI cZ cJ cQ a_0 a_0saved a_0saved0 a_0saved1 a_0saved2 a_0saved3 a_0saved4 a_0saved5 a_0snapshot a_0filled a_0saved0number a_0saved0inField a_0saved0first a_0saved0last a_0saved1number a_0saved1inField a_0saved1first a_0saved1last a_0saved2number a_0saved2inField a_0saved2first a_0saved2last a_0saved3number a_0saved3inField a_0saved3first a_0saved3last a_0saved4number a_0saved4inField a_0saved4first a_0saved4last a_0saved5number a_0saved5inField a_0saved5first a_0saved5last count_0 saved_0) sz) := by
  refine wh_ofWv (lv := [(0, .ref a_0)]) RX3 (by decide) rfl rfl (Nat.le_of_ble_eq_true rfl) rfl ?_
  intro p e s m below meth c A QQ hx hb hml hown hts hP hK hN hD hA hret ls hl
  have hS : va_S A s.heap s.heap [] := va_S.rf
  have hiX3 : ∀ w ∈ wsX30, w ∈ wsX3_dropOldest := (fun _ h => List.mem_cons_of_mem _ (List.mem_append_right _ (h)))
  unfold fHistory_dropOldest at hf
  refine lv_aload_n hx hb dX3_dropOldest_0 rfl (lv_at hl 0 rfl) ?_
  refine va_get (D := (dC, dI)) (ci := 3) (C := RX3) (T := TX3) (N := 4) hx hb hts hiX3 hown hK hP 0 rfl rfl 0 (by decide) (hts (.fieldLink RX3 11 "PaddockFields$History" "saved" "[LPaddockFields$Board;") (List.mem_cons_of_mem _ (List.mem_append_left _ (List.mem_of_getElem? (i := 0) rfl)))) (fun _ h9 => h9) rfl dX3_dropOldest_1 ?_
  refine lv_iconst (v := 0) hx hb dX3_dropOldest_4 (by decide) ?_
  obtain ⟨v1, h_v1, hf⟩ := hf_bind hf
  refine wh_ldQ (D := (dC, dI)) hx hb hK hP 1 3 rfl rfl h_v1 dX3_dropOldest_5 ?_
  refine lv_astore_n (lv' := [(1, .ref v1), (0, .ref a_0)]) hx hb dX3_dropOldest_6 rfl hl (by decide) rfl (fun ls hl => ?_)
  refine lv_iconst (v := 1) hx hb dX3_dropOldest_7 (by decide) ?_
  refine lv_istore_n (lv' := [(2, .int (1 : Int32)), (1, .ref v1), (0, .ref a_0)]) hx hb dX3_dropOldest_8 rfl hl (by decide) rfl (fun ls hl => ?_)
  obtain ⟨r4, h_r4, hf⟩ := hf_bind hf
  have hE_1 : ∀ (H : Heap) (locs : List Loc) (ls : Array Slot), lv_has ls 3 [(0, .ref a_0), (1, .ref v1)] → va_P (dC, dI) vwCl (wl_fHistory_dropOldest cI cZ cJ cQ a_0 a_0saved a_0saved0 a_0saved1 a_0saved2 a_0saved3 a_0saved4 a_0saved5 a_0snapshot a_0filled a_0saved0number a_0saved0inField a_0saved0first a_0saved0last a_0saved1number a_0saved1inField a_0saved1first a_0saved1last a_0saved2number a_0saved2inField a_0saved2first a_0saved2last a_0saved3number a_0saved3inField a_0saved3first a_0saved3last a_0saved4number a_0saved4inField a_0saved4first a_0saved4last a_0saved5number a_0saved5inField a_0saved5first a_0saved5last count_0 r4.2) H → va_D A (wl_fHistory_dropOldest cI cZ cJ cQ a_0 a_0saved a_0saved0 a_0saved1 a_0saved2 a_0saved3 a_0saved4 a_0saved5 a_0snapshot a_0filled a_0saved0number a_0saved0inField a_0saved0first a_0saved0last a_0saved1number a_0saved1inField a_0saved1first a_0saved1last a_0saved2number a_0saved2inField a_0saved2first a_0saved2last a_0saved3number a_0saved3inField a_0saved3first a_0saved3last a_0saved4number a_0saved4inField a_0saved4first a_0saved4last a_0saved5number a_0saved5inField a_0saved5first a_0saved5last count_0 r4.2) → va_S A s.heap H locs → W p l e ({ frames := 0, cells := 0, slots := 0, locals := 0 } : Room) s m [.ref a_0].toArray below meth c H locs 0 0 QQ (F0 m 35 ls []) := by
    intro H locs ls hl hP hD hS
    refine lv_aload_n hx hb dX3_dropOldest_35 rfl (lv_at hl 0 rfl) ?_
    refine va_get (D := (dC, dI)) (ci := 3) (C := RX3) (T := TX3) (N := 4) hx hb hts hiX3 hown hK hP 0 rfl rfl 0 (by decide) (hts (.fieldLink RX3 11 "PaddockFields$History" "saved" "[LPaddockFields$Board;") (List.mem_cons_of_mem _ (List.mem_append_left _ (List.mem_of_getElem? (i := 0) rfl)))) (fun _ h9 => h9) rfl dX3_dropOldest_36 ?_
    refine lv_iconst (v := 5) hx hb dX3_dropOldest_39 (by decide) ?_
    refine lv_aload_n hx hb dX3_dropOldest_40 rfl (lv_at hl 1 rfl) ?_
    obtain ⟨w5, h_w5, hf⟩ := hf_bind hf
    refine wh_stQ (D := (dC, dI)) (ws' := (wl_fHistory_dropOldest cI cZ cJ cQ a_0 a_0saved a_0saved0 a_0saved1 a_0saved2 a_0saved3 a_0saved4 a_0saved5 a_0snapshot a_0filled a_0saved0number a_0saved0inField a_0saved0first a_0saved0last a_0saved1number a_0saved1inField a_0saved1first a_0saved1last a_0saved2number a_0saved2inField a_0saved2first a_0saved2last a_0saved3number a_0saved3inField a_0saved3first a_0saved3last a_0saved4number a_0saved4inField a_0saved4first a_0saved4last a_0saved5number a_0saved5inField a_0saved5first a_0saved5last count_0 w5)) hx hb hK hP hD hS 1 3 0 rfl rfl rfl (wq_c 2 rfl (wq_c 3 rfl (wq_c 4 rfl (wq_c 5 rfl (wq_c 6 rfl (wq_c 7 rfl wq_n)))))) rfl h_w5 dX3_dropOldest_41 (fun H locs hP hD hS => ?_)
    refine lv_aload_n hx hb dX3_dropOldest_42 rfl (lv_at hl 0 rfl) ?_
    refine lv_iconst (v := 5) hx hb dX3_dropOldest_43 (by decide) ?_
    refine wh_put (D := (dC, dI)) (ci := 3) (C := RX3) (T := TX3) (N := 4) (ty := .int) (v := .int (5 : Int32)) (ws' := (wl_fHistory_dropOldest cI cZ cJ cQ a_0 a_0saved a_0saved0 a_0saved1 a_0saved2 a_0saved3 a_0saved4 a_0saved5 a_0snapshot a_0filled a_0saved0number a_0saved0inField a_0saved0first a_0saved0last a_0saved1number a_0saved1inField a_0saved1first a_0saved1last a_0saved2number a_0saved2inField a_0saved2first a_0saved2last a_0saved3number a_0saved3inField a_0saved3first a_0saved3last a_0saved4number a_0saved4inField a_0saved4first a_0saved4last a_0saved5number a_0saved5inField a_0saved5first a_0saved5last (5 : Int32) w5)) hx hb hts hiX3 tyX3 tyX3_ok nmX3 hown hK hP hD hS 0 rfl rfl 3 (by decide) (hts (.fieldLink RX3 25 "PaddockFields$History" "count" "I") (List.mem_cons_of_mem _ (List.mem_append_left _ (List.mem_of_getElem? (i := 1) rfl)))) (fun _ h9 => h9) rfl rfl rfl rfl (Nat.le_of_ble_eq_true rfl) rfl dX3_dropOldest_44 (fun H locs hP hD hS => ?_)
    obtain rfl := Option.some.inj hf
    exact hret _ _ _ _ hP hD hS dX3_dropOldest_47
  have hL_2 : ∀ (N : Nat) (l2_3 : Int32) (saved_0_4 : Nat → Option Nat), fHistory_dropOldest_L9 F a_0saved0 a_0saved1 a_0saved2 a_0saved3 a_0saved4 a_0saved5 N l2_3 saved_0_4 = some r4 → ∀ (H : Heap) (locs : List Loc) (ls : Array Slot), lv_has ls 3 [(0, .ref a_0), (1, .ref v1), (2, .int l2_3)] → va_P (dC, dI) vwCl (wl_fHistory_dropOldest cI cZ cJ cQ a_0 a_0saved a_0saved0 a_0saved1 a_0saved2 a_0saved3 a_0saved4 a_0saved5 a_0snapshot a_0filled a_0saved0number a_0saved0inField a_0saved0first a_0saved0last a_0saved1number a_0saved1inField a_0saved1first a_0saved1last a_0saved2number a_0saved2inField a_0saved2first a_0saved2last a_0saved3number a_0saved3inField a_0saved3first a_0saved3last a_0saved4number a_0saved4inField a_0saved4first a_0saved4last a_0saved5number a_0saved5inField a_0saved5first a_0saved5last count_0 saved_0_4) H → va_D A (wl_fHistory_dropOldest cI cZ cJ cQ a_0 a_0saved a_0saved0 a_0saved1 a_0saved2 a_0saved3 a_0saved4 a_0saved5 a_0snapshot a_0filled a_0saved0number a_0saved0inField a_0saved0first a_0saved0last a_0saved1number a_0saved1inField a_0saved1first a_0saved1last a_0saved2number a_0saved2inField a_0saved2first a_0saved2last a_0saved3number a_0saved3inField a_0saved3first a_0saved3last a_0saved4number a_0saved4inField a_0saved4first a_0saved4last a_0saved5number a_0saved5inField a_0saved5first a_0saved5last count_0 saved_0_4) → va_S A s.heap H locs → W p l e ({ frames := 0, cells := 0, slots := 0, locals := 0 } : Room) s m [.ref a_0].toArray below meth c H locs 0 0 QQ (F0 m 9 ls []) := by
    intro N
    induction N with
    | zero => intro l2_3 saved_0_4 hf; exact nomatch (show none = some _ from hf)
    | succ N ih =>
      intro l2_3 saved_0_4 hf H locs ls hl hP hD hS
      rw [fHistory_dropOldest_L9] at hf
      refine lv_iload_n hx hb dX3_dropOldest_9 rfl (lv_at hl 2 rfl) ?_
      refine lv_bipush (v := 6) hx hb dX3_dropOldest_10 (by decide) ?_
      refine lv_icmp_ge (tgt := 35) hx hb dX3_dropOldest_12 (by decide) (fun cc => ?_) (fun cc => ?_)
      · replace hf := hf_pos cc hf
        obtain rfl := Option.some.inj hf
        exact hE_1 _ _ _ (lv_sub hl [0, 1] rfl) hP hD hS
      · replace hf := hf_neg cc hf
        refine lv_aload_n hx hb dX3_dropOldest_15 rfl (lv_at hl 0 rfl) ?_
        refine va_get (D := (dC, dI)) (ci := 3) (C := RX3) (T := TX3) (N := 4) hx hb hts hiX3 hown hK hP 0 rfl rfl 0 (by decide) (hts (.fieldLink RX3 11 "PaddockFields$History" "saved" "[LPaddockFields$Board;") (List.mem_cons_of_mem _ (List.mem_append_left _ (List.mem_of_getElem? (i := 0) rfl)))) (fun _ h9 => h9) rfl dX3_dropOldest_16 ?_
        refine lv_iload_n hx hb dX3_dropOldest_19 rfl (lv_at hl 2 rfl) ?_
        refine lv_iconst (v := 1) hx hb dX3_dropOldest_20 (by decide) ?_
        refine lv_isub hx hb dX3_dropOldest_21 ?_
        refine lv_aload_n hx hb dX3_dropOldest_22 rfl (lv_at hl 0 rfl) ?_
        refine va_get (D := (dC, dI)) (ci := 3) (C := RX3) (T := TX3) (N := 4) hx hb hts hiX3 hown hK hP 0 rfl rfl 0 (by decide) (hts (.fieldLink RX3 11 "PaddockFields$History" "saved" "[LPaddockFields$Board;") (List.mem_cons_of_mem _ (List.mem_append_left _ (List.mem_of_getElem? (i := 0) rfl)))) (fun _ h9 => h9) rfl dX3_dropOldest_23 ?_
        refine lv_iload_n hx hb dX3_dropOldest_26 rfl (lv_at hl 2 rfl) ?_
        obtain ⟨v2, h_v2, hf⟩ := hf_bind hf
        refine wh_ldQ (D := (dC, dI)) hx hb hK hP 1 3 rfl rfl h_v2 dX3_dropOldest_27 ?_
        obtain ⟨w3, h_w3, hf⟩ := hf_bind hf
        refine wh_stQ (D := (dC, dI)) (ws' := (wl_fHistory_dropOldest cI cZ cJ cQ a_0 a_0saved a_0saved0 a_0saved1 a_0saved2 a_0saved3 a_0saved4 a_0saved5 a_0snapshot a_0filled a_0saved0number a_0saved0inField a_0saved0first a_0saved0last a_0saved1number a_0saved1inField a_0saved1first a_0saved1last a_0saved2number a_0saved2inField a_0saved2first a_0saved2last a_0saved3number a_0saved3inField a_0saved3first a_0saved3last a_0saved4number a_0saved4inField a_0saved4first a_0saved4last a_0saved5number a_0saved5inField a_0saved5first a_0saved5last count_0 w3)) hx hb hK hP hD hS 1 3 0 rfl rfl rfl (wq_c 2 rfl (wq_c 3 rfl (wq_c 4 rfl (wq_c 5 rfl (wq_c 6 rfl (wq_c 7 rfl wq_n)))))) rfl h_w3 dX3_dropOldest_28 (fun H locs hP hD hS => ?_)
        refine lv_iinc (v := (l2_3 + (1 : Int32))) (lv' := [(2, .int (l2_3 + (1 : Int32))), (0, .ref a_0), (1, .ref v1)]) hx hb dX3_dropOldest_29 hl (k := 2) rfl rfl (by decide) rfl (fun ls hl => ?_)
        refine lv_goto (tgt := 9) hx hb dX3_dropOldest_32 (by decide) ?_
        exact ih _ _ hf _ _ _ (lv_sub hl [1, 2, 0] rfl) hP hD hS
  exact hL_2 _ _ _ h_r4 _ _ _ (lv_sub hl [2, 1, 0] rfl) hP hD hS
set_option maxHeartbeats 4000000 in
set_option maxRecDepth 100000 in
theorem c_fHistory_save (l : Launch) (dC : Nat → ClassId) (dI : Nat → Nat → Nat) (cI cZ cJ cQ : ClassId) (a_0 a_0saved a_0saved0 a_0saved1 a_0saved2 a_0saved3 a_0saved4 a_0saved5 a_1 a_1number a_0saved0number a_1inField a_0saved0inField a_1first a_0saved0first a_1last a_0saved0last a_0saved1number a_0saved1inField a_0saved1first a_0saved1last a_0saved2number a_0saved2inField a_0saved2first a_0saved2last a_0saved3number a_0saved3inField a_0saved3first a_0saved3last a_0saved4number a_0saved4inField a_0saved4first a_0saved4last a_0saved5number a_0saved5inField a_0saved5first a_0saved5last a_0snapshot a_0filled : Nat) (sz : Nat) {F : Nat} {count_0 : Int32} {saved_0 : Nat → Option Nat} {number_1 : Nat → Int32} {number_0saved0 : Nat → Int32} {inField_1 : Nat → Int32} {inField_0saved0 : Nat → Int32} {first_1 : Nat → Int32} {first_0saved0 : Nat → Int32} {last_1 : Nat → Int32} {last_0saved0 : Nat → Int32} {number_0saved1 : Nat → Int32} {inField_0saved1 : Nat → Int32} {first_0saved1 : Nat → Int32} {last_0saved1 : Nat → Int32} {number_0saved2 : Nat → Int32} {inField_0saved2 : Nat → Int32} {first_0saved2 : Nat → Int32} {last_0saved2 : Nat → Int32} {number_0saved3 : Nat → Int32} {inField_0saved3 : Nat → Int32} {first_0saved3 : Nat → Int32} {last_0saved3 : Nat → Int32} {number_0saved4 : Nat → Int32} {inField_0saved4 : Nat → Int32} {first_0saved4 : Nat → Int32} {last_0saved4 : Nat → Int32} {number_0saved5 : Nat → Int32} {inField_0saved5 : Nat → Int32} {first_0saved5 : Nat → Int32} {last_0saved5 : Nat → Int32} {out : (Nat → Option Nat) × Int32 × (Nat → Int32) × (Nat → Int32) × (Nat → Int32) × (Nat → Int32) × (Nat → Int32) × (Nat → Int32) × (Nat → Int32) × (Nat → Int32) × (Nat → Int32) × (Nat → Int32) × (Nat → Int32) × (Nat → Int32) × (Nat → Int32) × (Nat → Int32) × (Nat → Int32) × (Nat → Int32) × (Nat → Int32) × (Nat → Int32) × (Nat → Int32) × (Nat → Int32) × (Nat → Int32) × (Nat → Int32) × (Nat → Int32) × (Nat → Int32)} (hf : fHistory_save F a_0saved0 a_0saved1 a_0saved2 a_0saved3 a_0saved4 a_0saved5 count_0 saved_0 number_1 number_0saved0 inField_1 inField_0saved0 first_1 first_0saved0 last_1 last_0saved0 number_0saved1 inField_0saved1 first_0saved1 last_0saved1 number_0saved2 inField_0saved2 first_0saved2 last_0saved2 number_0saved3 inField_0saved3 first_0saved3 last_0saved3 number_0saved4 inField_0saved4 first_0saved4 last_0saved4 number_0saved5 inField_0saved5 first_0saved5 last_0saved5 = some out) : Met l yX3_save wsX3_save ({ frames := 1, cells := 0, slots := 0, locals := 22 } : Room) (va_Pc [.ref a_0, .ref a_1] (wlP (dC, dI) (wlT cI cZ cJ cQ) (wl_fHistory_save cI cZ cJ cQ a_0 a_0saved a_0saved0 a_0saved1 a_0saved2 a_0saved3 a_0saved4 a_0saved5 a_1 a_1number a_0saved0number a_1inField a_0saved0inField a_1first a_0saved0first a_1last a_0saved0last a_0saved1number a_0saved1inField a_0saved1first a_0saved1last a_0saved2number a_0saved2inField a_0saved2first a_0saved2last a_0saved3number a_0saved3inField a_0saved3first a_0saved3last a_0saved4number a_0saved4inField a_0saved4first a_0saved4last a_0saved5number a_0saved5inField a_0saved5first a_0saved5last a_0snapshot a_0filled count_0 saved_0 number_1 number_0saved0 inField_1 inField_0saved0 first_1 first_0saved0 last_1 last_0saved0 number_0saved1 inField_0saved1 first_0saved1 last_0saved1 number_0saved2 inField_0saved2 first_0saved2 last_0saved2 number_0saved3 inField_0saved3 first_0saved3 last_0saved3 number_0saved4 inField_0saved4 first_0saved4 last_0saved4 number_0saved5 inField_0saved5 first_0saved5 last_0saved5) sz)) (va_Qv (fun (_ : Unit) => True) (wlQ (dC, dI) (va_A (wl_fHistory_save cI cZ cJ cQ a_0 a_0saved a_0saved0 a_0saved1 a_0saved2 a_0saved3 a_0saved4 a_0saved5 a_1 a_1number a_0saved0number a_1inField a_0saved0inField a_1first a_0saved0first a_1last a_0saved0last a_0saved1number a_0saved1inField a_0saved1first a_0saved1last a_0saved2number a_0saved2inField a_0saved2first a_0saved2last a_0saved3number a_0saved3inField a_0saved3first a_0saved3last a_0saved4number a_0saved4inField a_0saved4first a_0saved4last a_0saved5number a_0saved5inField a_0saved5first a_0saved5last a_0snapshot a_0filled count_0 saved_0 number_1 number_0saved0 inField_1 inField_0saved0 first_1 first_0saved0 last_1 last_0saved0 number_0saved1 inField_0saved1 first_0saved1 last_0saved1 number_0saved2 inField_0saved2 first_0saved2 last_0saved2 number_0saved3 inField_0saved3 first_0saved3 last_0saved3 number_0saved4 inField_0saved4 first_0saved4 last_0saved4 number_0saved5 inField_0saved5 first_0saved5 last_0saved5) sz) (wl_fHistory_save cI cZ cJ cQ a_0 a_0saved a_0saved0 a_0saved1 a_0saved2 a_0saved3 a_0saved4 a_0saved5 a_1 a_1number a_0saved0number a_1inField a_0saved0inField a_1first a_0saved0first a_1last a_0saved0last a_0saved1number a_0saved1inField a_0saved1first a_0saved1last a_0saved2number a_0saved2inField a_0saved2first a_0saved2last a_0saved3number a_0saved3inField a_0saved3first a_0saved3last a_0saved4number a_0saved4inField a_0saved4first a_0saved4last a_0saved5number a_0saved5inField a_0saved5first a_0saved5last a_0snapshot a_0filled out.2.1 out.1 number_1 out.2.2.1 inField_1 out.2.2.2.1 first_1 out.2.2.2.2.1 last_1 out.2.2.2.2.2.1 out.2.2.2.2.2.2.1 out.2.2.2.2.2.2.2.1 out.2.2.2.2.2.2.2.2.1 out.2.2.2.2.2.2.2.2.2.1 out.2.2.2.2.2.2.2.2.2.2.1 out.2.2.2.2.2.2.2.2.2.2.2.1 out.2.2.2.2.2.2.2.2.2.2.2.2.1 out.2.2.2.2.2.2.2.2.2.2.2.2.2.1 out.2.2.2.2.2.2.2.2.2.2.2.2.2.2.1 out.2.2.2.2.2.2.2.2.2.2.2.2.2.2.2.1 out.2.2.2.2.2.2.2.2.2.2.2.2.2.2.2.2.1 out.2.2.2.2.2.2.2.2.2.2.2.2.2.2.2.2.2.1 out.2.2.2.2.2.2.2.2.2.2.2.2.2.2.2.2.2.2.1 out.2.2.2.2.2.2.2.2.2.2.2.2.2.2.2.2.2.2.2.1 out.2.2.2.2.2.2.2.2.2.2.2.2.2.2.2.2.2.2.2.2.1 out.2.2.2.2.2.2.2.2.2.2.2.2.2.2.2.2.2.2.2.2.2.1 out.2.2.2.2.2.2.2.2.2.2.2.2.2.2.2.2.2.2.2.2.2.2.1 out.2.2.2.2.2.2.2.2.2.2.2.2.2.2.2.2.2.2.2.2.2.2.2.1 out.2.2.2.2.2.2.2.2.2.2.2.2.2.2.2.2.2.2.2.2.2.2.2.2.1 out.2.2.2.2.2.2.2.2.2.2.2.2.2.2.2.2.2.2.2.2.2.2.2.2.2)) (va_A (wl_fHistory_save cI cZ cJ cQ a_0 a_0saved a_0saved0 a_0saved1 a_0saved2 a_0saved3 a_0saved4 a_0saved5 a_1 a_1number a_0saved0number a_1inField a_0saved0inField a_1first a_0saved0first a_1last a_0saved0last a_0saved1number a_0saved1inField a_0saved1first a_0saved1last a_0saved2number a_0saved2inField a_0saved2first a_0saved2last a_0saved3number a_0saved3inField a_0saved3first a_0saved3last a_0saved4number a_0saved4inField a_0saved4first a_0saved4last a_0saved5number a_0saved5inField a_0saved5first a_0saved5last a_0snapshot a_0filled count_0 saved_0 number_1 number_0saved0 inField_1 inField_0saved0 first_1 first_0saved0 last_1 last_0saved0 number_0saved1 inField_0saved1 first_0saved1 last_0saved1 number_0saved2 inField_0saved2 first_0saved2 last_0saved2 number_0saved3 inField_0saved3 first_0saved3 last_0saved3 number_0saved4 inField_0saved4 first_0saved4 last_0saved4 number_0saved5 inField_0saved5 first_0saved5 last_0saved5) sz)) 0 0 (va_A (wl_fHistory_save cI cZ cJ cQ a_0 a_0saved a_0saved0 a_0saved1 a_0saved2 a_0saved3 a_0saved4 a_0saved5 a_1 a_1number a_0saved0number a_1inField a_0saved0inField a_1first a_0saved0first a_1last a_0saved0last a_0saved1number a_0saved1inField a_0saved1first a_0saved1last a_0saved2number a_0saved2inField a_0saved2first a_0saved2last a_0saved3number a_0saved3inField a_0saved3first a_0saved3last a_0saved4number a_0saved4inField a_0saved4first a_0saved4last a_0saved5number a_0saved5inField a_0saved5first a_0saved5last a_0snapshot a_0filled count_0 saved_0 number_1 number_0saved0 inField_1 inField_0saved0 first_1 first_0saved0 last_1 last_0saved0 number_0saved1 inField_0saved1 first_0saved1 last_0saved1 number_0saved2 inField_0saved2 first_0saved2 last_0saved2 number_0saved3 inField_0saved3 first_0saved3 last_0saved3 number_0saved4 inField_0saved4 first_0saved4 last_0saved4 number_0saved5 inField_0saved5 first_0saved5 last_0saved5) sz) := by
  refine wh_ofWv (lv := [(0, .ref a_0), (1, .ref a_1)]) RX3 (by decide) rfl rfl (Nat.le_of_ble_eq_true rfl) rfl ?_
  intro p e s m below meth c A QQ hx hb hml hown hts hP hK hN hD hA hret ls hl
  have hS : va_S A s.heap s.heap [] := va_S.rf
  have hiX3 : ∀ w ∈ wsX30, w ∈ wsX3_save := (fun _ h => List.mem_cons_of_mem _ (List.mem_append_left _ (List.mem_append_right _ (h))))
  unfold fHistory_save at hf
  refine lv_aload_n hx hb dX3_save_0 rfl (lv_at hl 0 rfl) ?_
  refine va_get (D := (dC, dI)) (ci := 3) (C := RX3) (T := TX3) (N := 4) hx hb hts hiX3 hown hK hP 0 rfl rfl 3 (by decide) (hts (.fieldLink RX3 25 "PaddockFields$History" "count" "I") (List.mem_cons_of_mem _ (List.mem_append_left _ (List.mem_append_left _ (List.mem_of_getElem? (i := 0) rfl))))) (fun _ h9 => h9) rfl dX3_save_1 ?_
  refine lv_bipush (v := 6) hx hb dX3_save_4 (by decide) ?_
  obtain ⟨j2, h_j2, hf⟩ := hf_bind hf
  have hJ_1 : ∀ (H : Heap) (locs : List Loc) (ls : Array Slot), lv_has ls 2 [(0, .ref a_0), (1, .ref a_1)] → va_P (dC, dI) vwCl (wl_fHistory_save cI cZ cJ cQ a_0 a_0saved a_0saved0 a_0saved1 a_0saved2 a_0saved3 a_0saved4 a_0saved5 a_1 a_1number a_0saved0number a_1inField a_0saved0inField a_1first a_0saved0first a_1last a_0saved0last a_0saved1number a_0saved1inField a_0saved1first a_0saved1last a_0saved2number a_0saved2inField a_0saved2first a_0saved2last a_0saved3number a_0saved3inField a_0saved3first a_0saved3last a_0saved4number a_0saved4inField a_0saved4first a_0saved4last a_0saved5number a_0saved5inField a_0saved5first a_0saved5last a_0snapshot a_0filled j2.1 j2.2 number_1 number_0saved0 inField_1 inField_0saved0 first_1 first_0saved0 last_1 last_0saved0 number_0saved1 inField_0saved1 first_0saved1 last_0saved1 number_0saved2 inField_0saved2 first_0saved2 last_0saved2 number_0saved3 inField_0saved3 first_0saved3 last_0saved3 number_0saved4 inField_0saved4 first_0saved4 last_0saved4 number_0saved5 inField_0saved5 first_0saved5 last_0saved5) H → va_D A (wl_fHistory_save cI cZ cJ cQ a_0 a_0saved a_0saved0 a_0saved1 a_0saved2 a_0saved3 a_0saved4 a_0saved5 a_1 a_1number a_0saved0number a_1inField a_0saved0inField a_1first a_0saved0first a_1last a_0saved0last a_0saved1number a_0saved1inField a_0saved1first a_0saved1last a_0saved2number a_0saved2inField a_0saved2first a_0saved2last a_0saved3number a_0saved3inField a_0saved3first a_0saved3last a_0saved4number a_0saved4inField a_0saved4first a_0saved4last a_0saved5number a_0saved5inField a_0saved5first a_0saved5last a_0snapshot a_0filled j2.1 j2.2 number_1 number_0saved0 inField_1 inField_0saved0 first_1 first_0saved0 last_1 last_0saved0 number_0saved1 inField_0saved1 first_0saved1 last_0saved1 number_0saved2 inField_0saved2 first_0saved2 last_0saved2 number_0saved3 inField_0saved3 first_0saved3 last_0saved3 number_0saved4 inField_0saved4 first_0saved4 last_0saved4 number_0saved5 inField_0saved5 first_0saved5 last_0saved5) → va_S A s.heap H locs → W p l e ({ frames := 1, cells := 0, slots := 0, locals := 22 } : Room) s m [.ref a_0, .ref a_1].toArray below meth c H locs 0 0 QQ (F0 m 13 ls []) := by
    intro H locs ls hl hP hD hS
    refine lv_aload_n hx hb dX3_save_13 rfl (lv_at hl 0 rfl) ?_
    refine va_get (D := (dC, dI)) (ci := 3) (C := RX3) (T := TX3) (N := 4) hx hb hts hiX3 hown hK hP 0 rfl rfl 3 (by decide) (hts (.fieldLink RX3 25 "PaddockFields$History" "count" "I") (List.mem_cons_of_mem _ (List.mem_append_left _ (List.mem_append_left _ (List.mem_of_getElem? (i := 0) rfl))))) (fun _ h9 => h9) rfl dX3_save_14 ?_
    refine lv_if_lt (tgt := 64) hx hb dX3_save_17 (by decide) (fun cc => ?_) (fun cc => ?_)
    · replace hf := hf_pos cc hf
      obtain rfl := Option.some.inj hf
      exact hret _ _ _ _ hP hD hS dX3_save_64
    · replace hf := hf_neg cc hf
      refine lv_aload_n hx hb dX3_save_20 rfl (lv_at hl 0 rfl) ?_
      refine va_get (D := (dC, dI)) (ci := 3) (C := RX3) (T := TX3) (N := 4) hx hb hts hiX3 hown hK hP 0 rfl rfl 3 (by decide) (hts (.fieldLink RX3 25 "PaddockFields$History" "count" "I") (List.mem_cons_of_mem _ (List.mem_append_left _ (List.mem_append_left _ (List.mem_of_getElem? (i := 0) rfl))))) (fun _ h9 => h9) rfl dX3_save_21 ?_
      refine lv_bipush (v := 6) hx hb dX3_save_24 (by decide) ?_
      refine lv_icmp_ge (tgt := 64) hx hb dX3_save_26 (by decide) (fun cc => ?_) (fun cc => ?_)
      · replace hf := hf_pos cc hf
        obtain rfl := Option.some.inj hf
        exact hret _ _ _ _ hP hD hS dX3_save_64
      · replace hf := hf_neg cc hf
        refine lv_aload_n hx hb dX3_save_29 rfl (lv_at hl 0 rfl) ?_
        refine va_get (D := (dC, dI)) (ci := 3) (C := RX3) (T := TX3) (N := 4) hx hb hts hiX3 hown hK hP 0 rfl rfl 0 (by decide) (hts (.fieldLink RX3 11 "PaddockFields$History" "saved" "[LPaddockFields$Board;") (List.mem_cons_of_mem _ (List.mem_append_left _ (List.mem_append_left _ (List.mem_of_getElem? (i := 1) rfl))))) (fun _ h9 => h9) rfl dX3_save_30 ?_
        refine lv_aload_n hx hb dX3_save_33 rfl (lv_at hl 0 rfl) ?_
        refine va_get (D := (dC, dI)) (ci := 3) (C := RX3) (T := TX3) (N := 4) hx hb hts hiX3 hown hK hP 0 rfl rfl 3 (by decide) (hts (.fieldLink RX3 25 "PaddockFields$History" "count" "I") (List.mem_cons_of_mem _ (List.mem_append_left _ (List.mem_append_left _ (List.mem_of_getElem? (i := 0) rfl))))) (fun _ h9 => h9) rfl dX3_save_34 ?_
        obtain ⟨v3, h_v3, hf⟩ := hf_bind hf
        refine wh_ldQ (D := (dC, dI)) hx hb hK hP 1 3 rfl rfl h_v3 dX3_save_37 ?_
        refine lv_ifnull hx hb dX3_save_38 ?_
        refine lv_aload_n hx hb dX3_save_41 rfl (lv_at hl 0 rfl) ?_
        refine va_get (D := (dC, dI)) (ci := 3) (C := RX3) (T := TX3) (N := 4) hx hb hts hiX3 hown hK hP 0 rfl rfl 0 (by decide) (hts (.fieldLink RX3 11 "PaddockFields$History" "saved" "[LPaddockFields$Board;") (List.mem_cons_of_mem _ (List.mem_append_left _ (List.mem_append_left _ (List.mem_of_getElem? (i := 1) rfl))))) (fun _ h9 => h9) rfl dX3_save_42 ?_
        refine lv_aload_n hx hb dX3_save_45 rfl (lv_at hl 0 rfl) ?_
        refine va_get (D := (dC, dI)) (ci := 3) (C := RX3) (T := TX3) (N := 4) hx hb hts hiX3 hown hK hP 0 rfl rfl 3 (by decide) (hts (.fieldLink RX3 25 "PaddockFields$History" "count" "I") (List.mem_cons_of_mem _ (List.mem_append_left _ (List.mem_append_left _ (List.mem_of_getElem? (i := 0) rfl))))) (fun _ h9 => h9) rfl dX3_save_46 ?_
        obtain ⟨v4, h_v4, hf⟩ := hf_bind hf
        refine wh_ldQ (D := (dC, dI)) hx hb hK hP 1 3 rfl rfl h_v4 dX3_save_49 ?_
        refine lv_aload_n hx hb dX3_save_50 rfl (lv_at hl 1 rfl) ?_
        by_cases hq : v4 = a_0saved0
        · subst v4
          replace hf := hf_pos rfl hf
          obtain ⟨s5, h_s5, hf⟩ := hf_bind hf
          refine wh_callv (D := (dC, dI)) (ws' := (wl_fHistory_save cI cZ cJ cQ a_0 a_0saved a_0saved0 a_0saved1 a_0saved2 a_0saved3 a_0saved4 a_0saved5 a_1 a_1number a_0saved0number a_1inField a_0saved0inField a_1first a_0saved0first a_1last a_0saved0last a_0saved1number a_0saved1inField a_0saved1first a_0saved1last a_0saved2number a_0saved2inField a_0saved2first a_0saved2last a_0saved3number a_0saved3inField a_0saved3first a_0saved3last a_0saved4number a_0saved4inField a_0saved4first a_0saved4last a_0saved5number a_0saved5inField a_0saved5first a_0saved5last a_0snapshot a_0filled j2.1 j2.2 number_1 s5.1 inField_1 s5.2.1 first_1 s5.2.2.1 last_1 s5.2.2.2 number_0saved1 inField_0saved1 first_0saved1 last_0saved1 number_0saved2 inField_0saved2 first_0saved2 last_0saved2 number_0saved3 inField_0saved3 first_0saved3 last_0saved3 number_0saved4 inField_0saved4 first_0saved4 last_0saved4 number_0saved5 inField_0saved5 first_0saved5 last_0saved5)) (va_runV (As := [.ref a_1]) (rest := []) ⟨hx, hb, hml, hown, hts⟩ (c_fBoard_copy l dC dI cI cZ cJ cQ a_0saved0 a_1 a_1number a_0saved0number a_1inField a_0saved0inField a_1first a_0saved0first a_1last a_0saved0last _ h_s5) (cwV 1 hts gX3_save_X0_copy rfl rfl rfl (by decide +kernel) ⟨Nat.le_of_ble_eq_true rfl, Nat.le_of_ble_eq_true rfl⟩) (wh_preV (C := RX0) (T := TX0) (N := 4) hK hN hP hD [2, 8, 9, 10, 11, 12, 13, 14, 15, 16] rfl rfl 0 0 rfl rfl) rfl rfl hl.1 rfl (lv_room (Nat.le_of_ble_eq_true rfl)) dX3_save_51 ⟨Nat.le_refl _, Nat.le_refl _⟩) hP hD hS hA [2, 8, 9, 10, 11, 12, 13, 14, 15, 16] [0, 1, 3, 4, 5, 6, 7, 17, 18, 19, 20, 21, 22, 23, 24, 25, 26, 27, 28, 29, 30, 31, 32, 33, 34, 35, 36] [0, 1, 27, 2, 3, 4, 5, 6, 28, 29, 30, 31, 32, 33, 34, 35, 36, 7, 8, 9, 10, 11, 12, 13, 14, 15, 16, 17, 18, 19, 20, 21, 22, 23, 24, 25, 26] rfl rfl rfl rfl (fun H locs hP hD hS => ?_)
          refine lv_aload_n hx hb dX3_save_54 rfl (lv_at hl 0 rfl) ?_
          refine lv_dup hx hb dX3_save_55 rfl ?_
          refine va_get (D := (dC, dI)) (ci := 3) (C := RX3) (T := TX3) (N := 4) hx hb hts hiX3 hown hK hP 0 rfl rfl 3 (by decide) (hts (.fieldLink RX3 25 "PaddockFields$History" "count" "I") (List.mem_cons_of_mem _ (List.mem_append_left _ (List.mem_append_left _ (List.mem_of_getElem? (i := 0) rfl))))) (fun _ h9 => h9) rfl dX3_save_56 ?_
          refine lv_iconst (v := 1) hx hb dX3_save_59 (by decide) ?_
          refine lv_iadd hx hb dX3_save_60 ?_
          refine wh_put (D := (dC, dI)) (ci := 3) (C := RX3) (T := TX3) (N := 4) (ty := .int) (v := .int (j2.1 + (1 : Int32))) (ws' := (wl_fHistory_save cI cZ cJ cQ a_0 a_0saved a_0saved0 a_0saved1 a_0saved2 a_0saved3 a_0saved4 a_0saved5 a_1 a_1number a_0saved0number a_1inField a_0saved0inField a_1first a_0saved0first a_1last a_0saved0last a_0saved1number a_0saved1inField a_0saved1first a_0saved1last a_0saved2number a_0saved2inField a_0saved2first a_0saved2last a_0saved3number a_0saved3inField a_0saved3first a_0saved3last a_0saved4number a_0saved4inField a_0saved4first a_0saved4last a_0saved5number a_0saved5inField a_0saved5first a_0saved5last a_0snapshot a_0filled (j2.1 + (1 : Int32)) j2.2 number_1 s5.1 inField_1 s5.2.1 first_1 s5.2.2.1 last_1 s5.2.2.2 number_0saved1 inField_0saved1 first_0saved1 last_0saved1 number_0saved2 inField_0saved2 first_0saved2 last_0saved2 number_0saved3 inField_0saved3 first_0saved3 last_0saved3 number_0saved4 inField_0saved4 first_0saved4 last_0saved4 number_0saved5 inField_0saved5 first_0saved5 last_0saved5)) hx hb hts hiX3 tyX3 tyX3_ok nmX3 hown hK hP hD hS 0 rfl rfl 3 (by decide) (hts (.fieldLink RX3 25 "PaddockFields$History" "count" "I") (List.mem_cons_of_mem _ (List.mem_append_left _ (List.mem_append_left _ (List.mem_of_getElem? (i := 0) rfl))))) (fun _ h9 => h9) rfl rfl rfl rfl (Nat.le_of_ble_eq_true rfl) rfl dX3_save_61 (fun H locs hP hD hS => ?_)
          obtain rfl := Option.some.inj hf
          exact hret _ _ _ _ hP hD hS dX3_save_64
        replace hf := hf_neg hq hf
        by_cases hq : v4 = a_0saved1
        · subst v4
          replace hf := hf_pos rfl hf
          obtain ⟨s6, h_s6, hf⟩ := hf_bind hf
          refine wh_callv (D := (dC, dI)) (ws' := (wl_fHistory_save cI cZ cJ cQ a_0 a_0saved a_0saved0 a_0saved1 a_0saved2 a_0saved3 a_0saved4 a_0saved5 a_1 a_1number a_0saved0number a_1inField a_0saved0inField a_1first a_0saved0first a_1last a_0saved0last a_0saved1number a_0saved1inField a_0saved1first a_0saved1last a_0saved2number a_0saved2inField a_0saved2first a_0saved2last a_0saved3number a_0saved3inField a_0saved3first a_0saved3last a_0saved4number a_0saved4inField a_0saved4first a_0saved4last a_0saved5number a_0saved5inField a_0saved5first a_0saved5last a_0snapshot a_0filled j2.1 j2.2 number_1 number_0saved0 inField_1 inField_0saved0 first_1 first_0saved0 last_1 last_0saved0 s6.1 s6.2.1 s6.2.2.1 s6.2.2.2 number_0saved2 inField_0saved2 first_0saved2 last_0saved2 number_0saved3 inField_0saved3 first_0saved3 last_0saved3 number_0saved4 inField_0saved4 first_0saved4 last_0saved4 number_0saved5 inField_0saved5 first_0saved5 last_0saved5)) (va_runV (As := [.ref a_1]) (rest := []) ⟨hx, hb, hml, hown, hts⟩ (c_fBoard_copy l dC dI cI cZ cJ cQ a_0saved1 a_1 a_1number a_0saved1number a_1inField a_0saved1inField a_1first a_0saved1first a_1last a_0saved1last _ h_s6) (cwV 1 hts gX3_save_X0_copy rfl rfl rfl (by decide +kernel) ⟨Nat.le_of_ble_eq_true rfl, Nat.le_of_ble_eq_true rfl⟩) (wh_preV (C := RX0) (T := TX0) (N := 4) hK hN hP hD [3, 8, 9, 17, 11, 18, 13, 19, 15, 20] rfl rfl 0 0 rfl rfl) rfl rfl hl.1 rfl (lv_room (Nat.le_of_ble_eq_true rfl)) dX3_save_51 ⟨Nat.le_refl _, Nat.le_refl _⟩) hP hD hS hA [3, 8, 9, 17, 11, 18, 13, 19, 15, 20] [0, 1, 2, 4, 5, 6, 7, 10, 12, 14, 16, 21, 22, 23, 24, 25, 26, 27, 28, 29, 30, 31, 32, 33, 34, 35, 36] [0, 1, 2, 27, 3, 4, 5, 6, 28, 29, 7, 31, 8, 33, 9, 35, 10, 30, 32, 34, 36, 11, 12, 13, 14, 15, 16, 17, 18, 19, 20, 21, 22, 23, 24, 25, 26] rfl rfl rfl rfl (fun H locs hP hD hS => ?_)
          refine lv_aload_n hx hb dX3_save_54 rfl (lv_at hl 0 rfl) ?_
          refine lv_dup hx hb dX3_save_55 rfl ?_
          refine va_get (D := (dC, dI)) (ci := 3) (C := RX3) (T := TX3) (N := 4) hx hb hts hiX3 hown hK hP 0 rfl rfl 3 (by decide) (hts (.fieldLink RX3 25 "PaddockFields$History" "count" "I") (List.mem_cons_of_mem _ (List.mem_append_left _ (List.mem_append_left _ (List.mem_of_getElem? (i := 0) rfl))))) (fun _ h9 => h9) rfl dX3_save_56 ?_
          refine lv_iconst (v := 1) hx hb dX3_save_59 (by decide) ?_
          refine lv_iadd hx hb dX3_save_60 ?_
          refine wh_put (D := (dC, dI)) (ci := 3) (C := RX3) (T := TX3) (N := 4) (ty := .int) (v := .int (j2.1 + (1 : Int32))) (ws' := (wl_fHistory_save cI cZ cJ cQ a_0 a_0saved a_0saved0 a_0saved1 a_0saved2 a_0saved3 a_0saved4 a_0saved5 a_1 a_1number a_0saved0number a_1inField a_0saved0inField a_1first a_0saved0first a_1last a_0saved0last a_0saved1number a_0saved1inField a_0saved1first a_0saved1last a_0saved2number a_0saved2inField a_0saved2first a_0saved2last a_0saved3number a_0saved3inField a_0saved3first a_0saved3last a_0saved4number a_0saved4inField a_0saved4first a_0saved4last a_0saved5number a_0saved5inField a_0saved5first a_0saved5last a_0snapshot a_0filled (j2.1 + (1 : Int32)) j2.2 number_1 number_0saved0 inField_1 inField_0saved0 first_1 first_0saved0 last_1 last_0saved0 s6.1 s6.2.1 s6.2.2.1 s6.2.2.2 number_0saved2 inField_0saved2 first_0saved2 last_0saved2 number_0saved3 inField_0saved3 first_0saved3 last_0saved3 number_0saved4 inField_0saved4 first_0saved4 last_0saved4 number_0saved5 inField_0saved5 first_0saved5 last_0saved5)) hx hb hts hiX3 tyX3 tyX3_ok nmX3 hown hK hP hD hS 0 rfl rfl 3 (by decide) (hts (.fieldLink RX3 25 "PaddockFields$History" "count" "I") (List.mem_cons_of_mem _ (List.mem_append_left _ (List.mem_append_left _ (List.mem_of_getElem? (i := 0) rfl))))) (fun _ h9 => h9) rfl rfl rfl rfl (Nat.le_of_ble_eq_true rfl) rfl dX3_save_61 (fun H locs hP hD hS => ?_)
          obtain rfl := Option.some.inj hf
          exact hret _ _ _ _ hP hD hS dX3_save_64
        replace hf := hf_neg hq hf
        by_cases hq : v4 = a_0saved2
        · subst v4
          replace hf := hf_pos rfl hf
          obtain ⟨s7, h_s7, hf⟩ := hf_bind hf
          refine wh_callv (D := (dC, dI)) (ws' := (wl_fHistory_save cI cZ cJ cQ a_0 a_0saved a_0saved0 a_0saved1 a_0saved2 a_0saved3 a_0saved4 a_0saved5 a_1 a_1number a_0saved0number a_1inField a_0saved0inField a_1first a_0saved0first a_1last a_0saved0last a_0saved1number a_0saved1inField a_0saved1first a_0saved1last a_0saved2number a_0saved2inField a_0saved2first a_0saved2last a_0saved3number a_0saved3inField a_0saved3first a_0saved3last a_0saved4number a_0saved4inField a_0saved4first a_0saved4last a_0saved5number a_0saved5inField a_0saved5first a_0saved5last a_0snapshot a_0filled j2.1 j2.2 number_1 number_0saved0 inField_1 inField_0saved0 first_1 first_0saved0 last_1 last_0saved0 number_0saved1 inField_0saved1 first_0saved1 last_0saved1 s7.1 s7.2.1 s7.2.2.1 s7.2.2.2 number_0saved3 inField_0saved3 first_0saved3 last_0saved3 number_0saved4 inField_0saved4 first_0saved4 last_0saved4 number_0saved5 inField_0saved5 first_0saved5 last_0saved5)) (va_runV (As := [.ref a_1]) (rest := []) ⟨hx, hb, hml, hown, hts⟩ (c_fBoard_copy l dC dI cI cZ cJ cQ a_0saved2 a_1 a_1number a_0saved2number a_1inField a_0saved2inField a_1first a_0saved2first a_1last a_0saved2last _ h_s7) (cwV 1 hts gX3_save_X0_copy rfl rfl rfl (by decide +kernel) ⟨Nat.le_of_ble_eq_true rfl, Nat.le_of_ble_eq_true rfl⟩) (wh_preV (C := RX0) (T := TX0) (N := 4) hK hN hP hD [4, 8, 9, 21, 11, 22, 13, 23, 15, 24] rfl rfl 0 0 rfl rfl) rfl rfl hl.1 rfl (lv_room (Nat.le_of_ble_eq_true rfl)) dX3_save_51 ⟨Nat.le_refl _, Nat.le_refl _⟩) hP hD hS hA [4, 8, 9, 21, 11, 22, 13, 23, 15, 24] [0, 1, 2, 3, 5, 6, 7, 10, 12, 14, 16, 17, 18, 19, 20, 25, 26, 27, 28, 29, 30, 31, 32, 33, 34, 35, 36] [0, 1, 2, 3, 27, 4, 5, 6, 28, 29, 7, 31, 8, 33, 9, 35, 10, 11, 12, 13, 14, 30, 32, 34, 36, 15, 16, 17, 18, 19, 20, 21, 22, 23, 24, 25, 26] rfl rfl rfl rfl (fun H locs hP hD hS => ?_)
          refine lv_aload_n hx hb dX3_save_54 rfl (lv_at hl 0 rfl) ?_
          refine lv_dup hx hb dX3_save_55 rfl ?_
          refine va_get (D := (dC, dI)) (ci := 3) (C := RX3) (T := TX3) (N := 4) hx hb hts hiX3 hown hK hP 0 rfl rfl 3 (by decide) (hts (.fieldLink RX3 25 "PaddockFields$History" "count" "I") (List.mem_cons_of_mem _ (List.mem_append_left _ (List.mem_append_left _ (List.mem_of_getElem? (i := 0) rfl))))) (fun _ h9 => h9) rfl dX3_save_56 ?_
          refine lv_iconst (v := 1) hx hb dX3_save_59 (by decide) ?_
          refine lv_iadd hx hb dX3_save_60 ?_
          refine wh_put (D := (dC, dI)) (ci := 3) (C := RX3) (T := TX3) (N := 4) (ty := .int) (v := .int (j2.1 + (1 : Int32))) (ws' := (wl_fHistory_save cI cZ cJ cQ a_0 a_0saved a_0saved0 a_0saved1 a_0saved2 a_0saved3 a_0saved4 a_0saved5 a_1 a_1number a_0saved0number a_1inField a_0saved0inField a_1first a_0saved0first a_1last a_0saved0last a_0saved1number a_0saved1inField a_0saved1first a_0saved1last a_0saved2number a_0saved2inField a_0saved2first a_0saved2last a_0saved3number a_0saved3inField a_0saved3first a_0saved3last a_0saved4number a_0saved4inField a_0saved4first a_0saved4last a_0saved5number a_0saved5inField a_0saved5first a_0saved5last a_0snapshot a_0filled (j2.1 + (1 : Int32)) j2.2 number_1 number_0saved0 inField_1 inField_0saved0 first_1 first_0saved0 last_1 last_0saved0 number_0saved1 inField_0saved1 first_0saved1 last_0saved1 s7.1 s7.2.1 s7.2.2.1 s7.2.2.2 number_0saved3 inField_0saved3 first_0saved3 last_0saved3 number_0saved4 inField_0saved4 first_0saved4 last_0saved4 number_0saved5 inField_0saved5 first_0saved5 last_0saved5)) hx hb hts hiX3 tyX3 tyX3_ok nmX3 hown hK hP hD hS 0 rfl rfl 3 (by decide) (hts (.fieldLink RX3 25 "PaddockFields$History" "count" "I") (List.mem_cons_of_mem _ (List.mem_append_left _ (List.mem_append_left _ (List.mem_of_getElem? (i := 0) rfl))))) (fun _ h9 => h9) rfl rfl rfl rfl (Nat.le_of_ble_eq_true rfl) rfl dX3_save_61 (fun H locs hP hD hS => ?_)
          obtain rfl := Option.some.inj hf
          exact hret _ _ _ _ hP hD hS dX3_save_64
        replace hf := hf_neg hq hf
        by_cases hq : v4 = a_0saved3
        · subst v4
          replace hf := hf_pos rfl hf
          obtain ⟨s8, h_s8, hf⟩ := hf_bind hf
          refine wh_callv (D := (dC, dI)) (ws' := (wl_fHistory_save cI cZ cJ cQ a_0 a_0saved a_0saved0 a_0saved1 a_0saved2 a_0saved3 a_0saved4 a_0saved5 a_1 a_1number a_0saved0number a_1inField a_0saved0inField a_1first a_0saved0first a_1last a_0saved0last a_0saved1number a_0saved1inField a_0saved1first a_0saved1last a_0saved2number a_0saved2inField a_0saved2first a_0saved2last a_0saved3number a_0saved3inField a_0saved3first a_0saved3last a_0saved4number a_0saved4inField a_0saved4first a_0saved4last a_0saved5number a_0saved5inField a_0saved5first a_0saved5last a_0snapshot a_0filled j2.1 j2.2 number_1 number_0saved0 inField_1 inField_0saved0 first_1 first_0saved0 last_1 last_0saved0 number_0saved1 inField_0saved1 first_0saved1 last_0saved1 number_0saved2 inField_0saved2 first_0saved2 last_0saved2 s8.1 s8.2.1 s8.2.2.1 s8.2.2.2 number_0saved4 inField_0saved4 first_0saved4 last_0saved4 number_0saved5 inField_0saved5 first_0saved5 last_0saved5)) (va_runV (As := [.ref a_1]) (rest := []) ⟨hx, hb, hml, hown, hts⟩ (c_fBoard_copy l dC dI cI cZ cJ cQ a_0saved3 a_1 a_1number a_0saved3number a_1inField a_0saved3inField a_1first a_0saved3first a_1last a_0saved3last _ h_s8) (cwV 1 hts gX3_save_X0_copy rfl rfl rfl (by decide +kernel) ⟨Nat.le_of_ble_eq_true rfl, Nat.le_of_ble_eq_true rfl⟩) (wh_preV (C := RX0) (T := TX0) (N := 4) hK hN hP hD [5, 8, 9, 25, 11, 26, 13, 27, 15, 28] rfl rfl 0 0 rfl rfl) rfl rfl hl.1 rfl (lv_room (Nat.le_of_ble_eq_true rfl)) dX3_save_51 ⟨Nat.le_refl _, Nat.le_refl _⟩) hP hD hS hA [5, 8, 9, 25, 11, 26, 13, 27, 15, 28] [0, 1, 2, 3, 4, 6, 7, 10, 12, 14, 16, 17, 18, 19, 20, 21, 22, 23, 24, 29, 30, 31, 32, 33, 34, 35, 36] [0, 1, 2, 3, 4, 27, 5, 6, 28, 29, 7, 31, 8, 33, 9, 35, 10, 11, 12, 13, 14, 15, 16, 17, 18, 30, 32, 34, 36, 19, 20, 21, 22, 23, 24, 25, 26] rfl rfl rfl rfl (fun H locs hP hD hS => ?_)
          refine lv_aload_n hx hb dX3_save_54 rfl (lv_at hl 0 rfl) ?_
          refine lv_dup hx hb dX3_save_55 rfl ?_
          refine va_get (D := (dC, dI)) (ci := 3) (C := RX3) (T := TX3) (N := 4) hx hb hts hiX3 hown hK hP 0 rfl rfl 3 (by decide) (hts (.fieldLink RX3 25 "PaddockFields$History" "count" "I") (List.mem_cons_of_mem _ (List.mem_append_left _ (List.mem_append_left _ (List.mem_of_getElem? (i := 0) rfl))))) (fun _ h9 => h9) rfl dX3_save_56 ?_
          refine lv_iconst (v := 1) hx hb dX3_save_59 (by decide) ?_
          refine lv_iadd hx hb dX3_save_60 ?_
          refine wh_put (D := (dC, dI)) (ci := 3) (C := RX3) (T := TX3) (N := 4) (ty := .int) (v := .int (j2.1 + (1 : Int32))) (ws' := (wl_fHistory_save cI cZ cJ cQ a_0 a_0saved a_0saved0 a_0saved1 a_0saved2 a_0saved3 a_0saved4 a_0saved5 a_1 a_1number a_0saved0number a_1inField a_0saved0inField a_1first a_0saved0first a_1last a_0saved0last a_0saved1number a_0saved1inField a_0saved1first a_0saved1last a_0saved2number a_0saved2inField a_0saved2first a_0saved2last a_0saved3number a_0saved3inField a_0saved3first a_0saved3last a_0saved4number a_0saved4inField a_0saved4first a_0saved4last a_0saved5number a_0saved5inField a_0saved5first a_0saved5last a_0snapshot a_0filled (j2.1 + (1 : Int32)) j2.2 number_1 number_0saved0 inField_1 inField_0saved0 first_1 first_0saved0 last_1 last_0saved0 number_0saved1 inField_0saved1 first_0saved1 last_0saved1 number_0saved2 inField_0saved2 first_0saved2 last_0saved2 s8.1 s8.2.1 s8.2.2.1 s8.2.2.2 number_0saved4 inField_0saved4 first_0saved4 last_0saved4 number_0saved5 inField_0saved5 first_0saved5 last_0saved5)) hx hb hts hiX3 tyX3 tyX3_ok nmX3 hown hK hP hD hS 0 rfl rfl 3 (by decide) (hts (.fieldLink RX3 25 "PaddockFields$History" "count" "I") (List.mem_cons_of_mem _ (List.mem_append_left _ (List.mem_append_left _ (List.mem_of_getElem? (i := 0) rfl))))) (fun _ h9 => h9) rfl rfl rfl rfl (Nat.le_of_ble_eq_true rfl) rfl dX3_save_61 (fun H locs hP hD hS => ?_)
          obtain rfl := Option.some.inj hf
          exact hret _ _ _ _ hP hD hS dX3_save_64
        replace hf := hf_neg hq hf
        by_cases hq : v4 = a_0saved4
        · subst v4
          replace hf := hf_pos rfl hf
          obtain ⟨s9, h_s9, hf⟩ := hf_bind hf
          refine wh_callv (D := (dC, dI)) (ws' := (wl_fHistory_save cI cZ cJ cQ a_0 a_0saved a_0saved0 a_0saved1 a_0saved2 a_0saved3 a_0saved4 a_0saved5 a_1 a_1number a_0saved0number a_1inField a_0saved0inField a_1first a_0saved0first a_1last a_0saved0last a_0saved1number a_0saved1inField a_0saved1first a_0saved1last a_0saved2number a_0saved2inField a_0saved2first a_0saved2last a_0saved3number a_0saved3inField a_0saved3first a_0saved3last a_0saved4number a_0saved4inField a_0saved4first a_0saved4last a_0saved5number a_0saved5inField a_0saved5first a_0saved5last a_0snapshot a_0filled j2.1 j2.2 number_1 number_0saved0 inField_1 inField_0saved0 first_1 first_0saved0 last_1 last_0saved0 number_0saved1 inField_0saved1 first_0saved1 last_0saved1 number_0saved2 inField_0saved2 first_0saved2 last_0saved2 number_0saved3 inField_0saved3 first_0saved3 last_0saved3 s9.1 s9.2.1 s9.2.2.1 s9.2.2.2 number_0saved5 inField_0saved5 first_0saved5 last_0saved5)) (va_runV (As := [.ref a_1]) (rest := []) ⟨hx, hb, hml, hown, hts⟩ (c_fBoard_copy l dC dI cI cZ cJ cQ a_0saved4 a_1 a_1number a_0saved4number a_1inField a_0saved4inField a_1first a_0saved4first a_1last a_0saved4last _ h_s9) (cwV 1 hts gX3_save_X0_copy rfl rfl rfl (by decide +kernel) ⟨Nat.le_of_ble_eq_true rfl, Nat.le_of_ble_eq_true rfl⟩) (wh_preV (C := RX0) (T := TX0) (N := 4) hK hN hP hD [6, 8, 9, 29, 11, 30, 13, 31, 15, 32] rfl rfl 0 0 rfl rfl) rfl rfl hl.1 rfl (lv_room (Nat.le_of_ble_eq_true rfl)) dX3_save_51 ⟨Nat.le_refl _, Nat.le_refl _⟩) hP hD hS hA [6, 8, 9, 29, 11, 30, 13, 31, 15, 32] [0, 1, 2, 3, 4, 5, 7, 10, 12, 14, 16, 17, 18, 19, 20, 21, 22, 23, 24, 25, 26, 27, 28, 33, 34, 35, 36] [0, 1, 2, 3, 4, 5, 27, 6, 28, 29, 7, 31, 8, 33, 9, 35, 10, 11, 12, 13, 14, 15, 16, 17, 18, 19, 20, 21, 22, 30, 32, 34, 36, 23, 24, 25, 26] rfl rfl rfl rfl (fun H locs hP hD hS => ?_)
          refine lv_aload_n hx hb dX3_save_54 rfl (lv_at hl 0 rfl) ?_
          refine lv_dup hx hb dX3_save_55 rfl ?_
          refine va_get (D := (dC, dI)) (ci := 3) (C := RX3) (T := TX3) (N := 4) hx hb hts hiX3 hown hK hP 0 rfl rfl 3 (by decide) (hts (.fieldLink RX3 25 "PaddockFields$History" "count" "I") (List.mem_cons_of_mem _ (List.mem_append_left _ (List.mem_append_left _ (List.mem_of_getElem? (i := 0) rfl))))) (fun _ h9 => h9) rfl dX3_save_56 ?_
          refine lv_iconst (v := 1) hx hb dX3_save_59 (by decide) ?_
          refine lv_iadd hx hb dX3_save_60 ?_
          refine wh_put (D := (dC, dI)) (ci := 3) (C := RX3) (T := TX3) (N := 4) (ty := .int) (v := .int (j2.1 + (1 : Int32))) (ws' := (wl_fHistory_save cI cZ cJ cQ a_0 a_0saved a_0saved0 a_0saved1 a_0saved2 a_0saved3 a_0saved4 a_0saved5 a_1 a_1number a_0saved0number a_1inField a_0saved0inField a_1first a_0saved0first a_1last a_0saved0last a_0saved1number a_0saved1inField a_0saved1first a_0saved1last a_0saved2number a_0saved2inField a_0saved2first a_0saved2last a_0saved3number a_0saved3inField a_0saved3first a_0saved3last a_0saved4number a_0saved4inField a_0saved4first a_0saved4last a_0saved5number a_0saved5inField a_0saved5first a_0saved5last a_0snapshot a_0filled (j2.1 + (1 : Int32)) j2.2 number_1 number_0saved0 inField_1 inField_0saved0 first_1 first_0saved0 last_1 last_0saved0 number_0saved1 inField_0saved1 first_0saved1 last_0saved1 number_0saved2 inField_0saved2 first_0saved2 last_0saved2 number_0saved3 inField_0saved3 first_0saved3 last_0saved3 s9.1 s9.2.1 s9.2.2.1 s9.2.2.2 number_0saved5 inField_0saved5 first_0saved5 last_0saved5)) hx hb hts hiX3 tyX3 tyX3_ok nmX3 hown hK hP hD hS 0 rfl rfl 3 (by decide) (hts (.fieldLink RX3 25 "PaddockFields$History" "count" "I") (List.mem_cons_of_mem _ (List.mem_append_left _ (List.mem_append_left _ (List.mem_of_getElem? (i := 0) rfl))))) (fun _ h9 => h9) rfl rfl rfl rfl (Nat.le_of_ble_eq_true rfl) rfl dX3_save_61 (fun H locs hP hD hS => ?_)
          obtain rfl := Option.some.inj hf
          exact hret _ _ _ _ hP hD hS dX3_save_64
        replace hf := hf_neg hq hf
        by_cases hq : v4 = a_0saved5
        · subst v4
          replace hf := hf_pos rfl hf
          obtain ⟨s10, h_s10, hf⟩ := hf_bind hf
          refine wh_callv (D := (dC, dI)) (ws' := (wl_fHistory_save cI cZ cJ cQ a_0 a_0saved a_0saved0 a_0saved1 a_0saved2 a_0saved3 a_0saved4 a_0saved5 a_1 a_1number a_0saved0number a_1inField a_0saved0inField a_1first a_0saved0first a_1last a_0saved0last a_0saved1number a_0saved1inField a_0saved1first a_0saved1last a_0saved2number a_0saved2inField a_0saved2first a_0saved2last a_0saved3number a_0saved3inField a_0saved3first a_0saved3last a_0saved4number a_0saved4inField a_0saved4first a_0saved4last a_0saved5number a_0saved5inField a_0saved5first a_0saved5last a_0snapshot a_0filled j2.1 j2.2 number_1 number_0saved0 inField_1 inField_0saved0 first_1 first_0saved0 last_1 last_0saved0 number_0saved1 inField_0saved1 first_0saved1 last_0saved1 number_0saved2 inField_0saved2 first_0saved2 last_0saved2 number_0saved3 inField_0saved3 first_0saved3 last_0saved3 number_0saved4 inField_0saved4 first_0saved4 last_0saved4 s10.1 s10.2.1 s10.2.2.1 s10.2.2.2)) (va_runV (As := [.ref a_1]) (rest := []) ⟨hx, hb, hml, hown, hts⟩ (c_fBoard_copy l dC dI cI cZ cJ cQ a_0saved5 a_1 a_1number a_0saved5number a_1inField a_0saved5inField a_1first a_0saved5first a_1last a_0saved5last _ h_s10) (cwV 1 hts gX3_save_X0_copy rfl rfl rfl (by decide +kernel) ⟨Nat.le_of_ble_eq_true rfl, Nat.le_of_ble_eq_true rfl⟩) (wh_preV (C := RX0) (T := TX0) (N := 4) hK hN hP hD [7, 8, 9, 33, 11, 34, 13, 35, 15, 36] rfl rfl 0 0 rfl rfl) rfl rfl hl.1 rfl (lv_room (Nat.le_of_ble_eq_true rfl)) dX3_save_51 ⟨Nat.le_refl _, Nat.le_refl _⟩) hP hD hS hA [7, 8, 9, 33, 11, 34, 13, 35, 15, 36] [0, 1, 2, 3, 4, 5, 6, 10, 12, 14, 16, 17, 18, 19, 20, 21, 22, 23, 24, 25, 26, 27, 28, 29, 30, 31, 32] [0, 1, 2, 3, 4, 5, 6, 27, 28, 29, 7, 31, 8, 33, 9, 35, 10, 11, 12, 13, 14, 15, 16, 17, 18, 19, 20, 21, 22, 23, 24, 25, 26, 30, 32, 34, 36] rfl rfl rfl rfl (fun H locs hP hD hS => ?_)
          refine lv_aload_n hx hb dX3_save_54 rfl (lv_at hl 0 rfl) ?_
          refine lv_dup hx hb dX3_save_55 rfl ?_
          refine va_get (D := (dC, dI)) (ci := 3) (C := RX3) (T := TX3) (N := 4) hx hb hts hiX3 hown hK hP 0 rfl rfl 3 (by decide) (hts (.fieldLink RX3 25 "PaddockFields$History" "count" "I") (List.mem_cons_of_mem _ (List.mem_append_left _ (List.mem_append_left _ (List.mem_of_getElem? (i := 0) rfl))))) (fun _ h9 => h9) rfl dX3_save_56 ?_
          refine lv_iconst (v := 1) hx hb dX3_save_59 (by decide) ?_
          refine lv_iadd hx hb dX3_save_60 ?_
          refine wh_put (D := (dC, dI)) (ci := 3) (C := RX3) (T := TX3) (N := 4) (ty := .int) (v := .int (j2.1 + (1 : Int32))) (ws' := (wl_fHistory_save cI cZ cJ cQ a_0 a_0saved a_0saved0 a_0saved1 a_0saved2 a_0saved3 a_0saved4 a_0saved5 a_1 a_1number a_0saved0number a_1inField a_0saved0inField a_1first a_0saved0first a_1last a_0saved0last a_0saved1number a_0saved1inField a_0saved1first a_0saved1last a_0saved2number a_0saved2inField a_0saved2first a_0saved2last a_0saved3number a_0saved3inField a_0saved3first a_0saved3last a_0saved4number a_0saved4inField a_0saved4first a_0saved4last a_0saved5number a_0saved5inField a_0saved5first a_0saved5last a_0snapshot a_0filled (j2.1 + (1 : Int32)) j2.2 number_1 number_0saved0 inField_1 inField_0saved0 first_1 first_0saved0 last_1 last_0saved0 number_0saved1 inField_0saved1 first_0saved1 last_0saved1 number_0saved2 inField_0saved2 first_0saved2 last_0saved2 number_0saved3 inField_0saved3 first_0saved3 last_0saved3 number_0saved4 inField_0saved4 first_0saved4 last_0saved4 s10.1 s10.2.1 s10.2.2.1 s10.2.2.2)) hx hb hts hiX3 tyX3 tyX3_ok nmX3 hown hK hP hD hS 0 rfl rfl 3 (by decide) (hts (.fieldLink RX3 25 "PaddockFields$History" "count" "I") (List.mem_cons_of_mem _ (List.mem_append_left _ (List.mem_append_left _ (List.mem_of_getElem? (i := 0) rfl))))) (fun _ h9 => h9) rfl rfl rfl rfl (Nat.le_of_ble_eq_true rfl) rfl dX3_save_61 (fun H locs hP hD hS => ?_)
          obtain rfl := Option.some.inj hf
          exact hret _ _ _ _ hP hD hS dX3_save_64
        replace hf := hf_neg hq hf
        exact nomatch hf
  clear hf
  have hf := h_j2
  clear h_j2
  refine lv_icmp_lt (tgt := 13) hx hb dX3_save_6 (by decide) (fun cc => ?_) (fun cc => ?_)
  · replace hf := hf_pos cc hf
    obtain rfl := Option.some.inj hf
    exact hJ_1 _ _ _ (lv_sub hl [0, 1] rfl) hP hD hS
  · replace hf := hf_neg cc hf
    refine lv_aload_n hx hb dX3_save_9 rfl (lv_at hl 0 rfl) ?_
    obtain ⟨s1, h_s1, hf⟩ := hf_bind hf
    refine wh_callv (D := (dC, dI)) (ws' := (wl_fHistory_save cI cZ cJ cQ a_0 a_0saved a_0saved0 a_0saved1 a_0saved2 a_0saved3 a_0saved4 a_0saved5 a_1 a_1number a_0saved0number a_1inField a_0saved0inField a_1first a_0saved0first a_1last a_0saved0last a_0saved1number a_0saved1inField a_0saved1first a_0saved1last a_0saved2number a_0saved2inField a_0saved2first a_0saved2last a_0saved3number a_0saved3inField a_0saved3first a_0saved3last a_0saved4number a_0saved4inField a_0saved4first a_0saved4last a_0saved5number a_0saved5inField a_0saved5first a_0saved5last a_0snapshot a_0filled s1.2 s1.1 number_1 number_0saved0 inField_1 inField_0saved0 first_1 first_0saved0 last_1 last_0saved0 number_0saved1 inField_0saved1 first_0saved1 last_0saved1 number_0saved2 inField_0saved2 first_0saved2 last_0saved2 number_0saved3 inField_0saved3 first_0saved3 last_0saved3 number_0saved4 inField_0saved4 first_0saved4 last_0saved4 number_0saved5 inField_0saved5 first_0saved5 last_0saved5)) (va_runV (As := []) (rest := []) ⟨hx, hb, hml, hown, hts⟩ (c_fHistory_dropOldest l dC dI cI cZ cJ cQ a_0 a_0saved a_0saved0 a_0saved1 a_0saved2 a_0saved3 a_0saved4 a_0saved5 a_0snapshot a_0filled a_0saved0number a_0saved0inField a_0saved0first a_0saved0last a_0saved1number a_0saved1inField a_0saved1first a_0saved1last a_0saved2number a_0saved2inField a_0saved2first a_0saved2last a_0saved3number a_0saved3inField a_0saved3first a_0saved3last a_0saved4number a_0saved4inField a_0saved4first a_0saved4last a_0saved5number a_0saved5inField a_0saved5first a_0saved5last _ h_s1) (cwV 0 hts gX3_save_X3_dropOldest rfl rfl rfl (by decide +kernel) ⟨Nat.le_of_ble_eq_true rfl, Nat.le_of_ble_eq_true rfl⟩) (wh_preV (C := RX3) (T := TX3) (N := 4) hK hN hP hD [0, 1, 2, 3, 4, 5, 6, 7] rfl rfl 3 0 rfl rfl) rfl rfl hl.1 rfl (lv_room (Nat.le_of_ble_eq_true rfl)) dX3_save_10 ⟨Nat.le_refl _, Nat.le_refl _⟩) hP hD hS hA [0, 1, 2, 3, 4, 5, 6, 7] [8, 9, 10, 11, 12, 13, 14, 15, 16, 17, 18, 19, 20, 21, 22, 23, 24, 25, 26, 27, 28, 29, 30, 31, 32, 33, 34, 35, 36] [29, 30, 31, 32, 33, 34, 35, 36, 0, 1, 2, 3, 4, 5, 6, 7, 8, 9, 10, 11, 12, 13, 14, 15, 16, 17, 18, 19, 20, 21, 22, 23, 24, 25, 26, 27, 28] rfl rfl rfl rfl (fun H locs hP hD hS => ?_)
    obtain rfl := Option.some.inj hf
    exact hJ_1 _ _ _ (lv_sub hl [0, 1] rfl) hP hD hS
set_option maxHeartbeats 4000000 in
set_option maxRecDepth 100000 in
theorem c_fHistory_loadSnapshot (l : Launch) (dC : Nat → ClassId) (dI : Nat → Nat → Nat) (cI cZ cJ cQ : ClassId) (a_0 a_0filled a_0snapshot a_0snapshot0 a_0snapshot1 a_2 a_0snapshot0number a_2number a_0snapshot0inField a_2inField a_0snapshot0first a_2first a_0snapshot0last a_2last a_0snapshot1number a_0snapshot1inField a_0snapshot1first a_0snapshot1last a_0saved : Nat) (count_0 : Int32) (sz : Nat) {F : Nat} {x1 : Int32} {filled_0 : Nat → Int32} {snapshot_0 : Nat → Option Nat} {number_0snapshot0 : Nat → Int32} {number_2 : Nat → Int32} {inField_0snapshot0 : Nat → Int32} {inField_2 : Nat → Int32} {first_0snapshot0 : Nat → Int32} {first_2 : Nat → Int32} {last_0snapshot0 : Nat → Int32} {last_2 : Nat → Int32} {number_0snapshot1 : Nat → Int32} {inField_0snapshot1 : Nat → Int32} {first_0snapshot1 : Nat → Int32} {last_0snapshot1 : Nat → Int32} {out : (Nat → Int32) × (Nat → Int32) × (Nat → Int32) × (Nat → Int32)} (hf : fHistory_loadSnapshot F x1 a_0snapshot0 a_0snapshot1 filled_0 snapshot_0 number_0snapshot0 number_2 inField_0snapshot0 inField_2 first_0snapshot0 first_2 last_0snapshot0 last_2 number_0snapshot1 inField_0snapshot1 first_0snapshot1 last_0snapshot1 = some out) : Met l yX3_loadSnapshot wsX3_loadSnapshot ({ frames := 1, cells := 0, slots := 0, locals := 22 } : Room) (va_Pc [.ref a_0, .int x1, .ref a_2] (wlP (dC, dI) (wlT cI cZ cJ cQ) (wl_fHistory_loadSnapshot cI cZ cJ cQ a_0 a_0filled a_0snapshot a_0snapshot0 a_0snapshot1 a_2 a_0snapshot0number a_2number a_0snapshot0inField a_2inField a_0snapshot0first a_2first a_0snapshot0last a_2last a_0snapshot1number a_0snapshot1inField a_0snapshot1first a_0snapshot1last a_0saved count_0 filled_0 snapshot_0 number_0snapshot0 number_2 inField_0snapshot0 inField_2 first_0snapshot0 first_2 last_0snapshot0 last_2 number_0snapshot1 inField_0snapshot1 first_0snapshot1 last_0snapshot1) sz)) (va_Qv (fun (_ : Unit) => True) (wlQ (dC, dI) (va_A (wl_fHistory_loadSnapshot cI cZ cJ cQ a_0 a_0filled a_0snapshot a_0snapshot0 a_0snapshot1 a_2 a_0snapshot0number a_2number a_0snapshot0inField a_2inField a_0snapshot0first a_2first a_0snapshot0last a_2last a_0snapshot1number a_0snapshot1inField a_0snapshot1first a_0snapshot1last a_0saved count_0 filled_0 snapshot_0 number_0snapshot0 number_2 inField_0snapshot0 inField_2 first_0snapshot0 first_2 last_0snapshot0 last_2 number_0snapshot1 inField_0snapshot1 first_0snapshot1 last_0snapshot1) sz) (wl_fHistory_loadSnapshot cI cZ cJ cQ a_0 a_0filled a_0snapshot a_0snapshot0 a_0snapshot1 a_2 a_0snapshot0number a_2number a_0snapshot0inField a_2inField a_0snapshot0first a_2first a_0snapshot0last a_2last a_0snapshot1number a_0snapshot1inField a_0snapshot1first a_0snapshot1last a_0saved count_0 filled_0 snapshot_0 number_0snapshot0 out.1 inField_0snapshot0 out.2.1 first_0snapshot0 out.2.2.1 last_0snapshot0 out.2.2.2 number_0snapshot1 inField_0snapshot1 first_0snapshot1 last_0snapshot1)) (va_A (wl_fHistory_loadSnapshot cI cZ cJ cQ a_0 a_0filled a_0snapshot a_0snapshot0 a_0snapshot1 a_2 a_0snapshot0number a_2number a_0snapshot0inField a_2inField a_0snapshot0first a_2first a_0snapshot0last a_2last a_0snapshot1number a_0snapshot1inField a_0snapshot1first a_0snapshot1last a_0saved count_0 filled_0 snapshot_0 number_0snapshot0 number_2 inField_0snapshot0 inField_2 first_0snapshot0 first_2 last_0snapshot0 last_2 number_0snapshot1 inField_0snapshot1 first_0snapshot1 last_0snapshot1) sz)) 0 0 (va_A (wl_fHistory_loadSnapshot cI cZ cJ cQ a_0 a_0filled a_0snapshot a_0snapshot0 a_0snapshot1 a_2 a_0snapshot0number a_2number a_0snapshot0inField a_2inField a_0snapshot0first a_2first a_0snapshot0last a_2last a_0snapshot1number a_0snapshot1inField a_0snapshot1first a_0snapshot1last a_0saved count_0 filled_0 snapshot_0 number_0snapshot0 number_2 inField_0snapshot0 inField_2 first_0snapshot0 first_2 last_0snapshot0 last_2 number_0snapshot1 inField_0snapshot1 first_0snapshot1 last_0snapshot1) sz) := by
  refine wh_ofWv (lv := [(0, .ref a_0), (1, .int x1), (2, .ref a_2)]) RX3 (by decide) rfl rfl (Nat.le_of_ble_eq_true rfl) rfl ?_
  intro p e s m below meth c A QQ hx hb hml hown hts hP hK hN hD hA hret ls hl
  have hS : va_S A s.heap s.heap [] := va_S.rf
  have hiX3 : ∀ w ∈ wsX30, w ∈ wsX3_loadSnapshot := (fun _ h => List.mem_cons_of_mem _ (List.mem_append_left _ (List.mem_append_right _ (h))))
  unfold fHistory_loadSnapshot at hf
  refine lv_aload_n hx hb dX3_loadSnapshot_0 rfl (lv_at hl 0 rfl) ?_
  refine lv_iload_n hx hb dX3_loadSnapshot_1 rfl (lv_at hl 1 rfl) ?_
  obtain ⟨s1, h_s1, hf⟩ := hf_bind hf
  refine wh_calli (D := (dC, dI)) (ws' := (wl_fHistory_loadSnapshot cI cZ cJ cQ a_0 a_0filled a_0snapshot a_0snapshot0 a_0snapshot1 a_2 a_0snapshot0number a_2number a_0snapshot0inField a_2inField a_0snapshot0first a_2first a_0snapshot0last a_2last a_0snapshot1number a_0snapshot1inField a_0snapshot1first a_0snapshot1last a_0saved count_0 filled_0 snapshot_0 number_0snapshot0 number_2 inField_0snapshot0 inField_2 first_0snapshot0 first_2 last_0snapshot0 last_2 number_0snapshot1 inField_0snapshot1 first_0snapshot1 last_0snapshot1)) (va_runV (As := [.int x1]) (rest := []) ⟨hx, hb, hml, hown, hts⟩ (c_fHistory_hasSnapshot l dC dI cI cZ cJ cQ a_0 a_0filled a_0saved a_0snapshot count_0 _ h_s1) (cwV 1 hts gX3_loadSnapshot_X3_hasSnapshot rfl rfl rfl (by decide +kernel) ⟨Nat.le_of_ble_eq_true rfl, Nat.le_of_ble_eq_true rfl⟩) (wh_preV (C := RX3) (T := TX3) (N := 4) hK hN hP hD [0, 1] rfl rfl 3 0 rfl rfl) rfl rfl hl.1 rfl (lv_room (Nat.le_of_ble_eq_true rfl)) dX3_loadSnapshot_2 ⟨Nat.le_refl _, Nat.le_refl _⟩) hP hD hS hA [0, 1] [2, 3, 4, 5, 6, 7, 8, 9, 10, 11, 12, 13, 14, 15, 16, 17] [16, 17, 0, 1, 2, 3, 4, 5, 6, 7, 8, 9, 10, 11, 12, 13, 14, 15] rfl rfl rfl rfl (fun H locs hP hD hS => ?_)
  refine lv_if_eq (tgt := 18) hx hb dX3_loadSnapshot_5 (by decide) (fun cc => ?_) (fun cc => ?_)
  · replace hf := hf_pos cc hf
    obtain rfl := Option.some.inj hf
    exact hret _ _ _ _ hP hD hS dX3_loadSnapshot_18
  · replace hf := hf_neg cc hf
    refine lv_aload_n hx hb dX3_loadSnapshot_8 rfl (lv_at hl 2 rfl) ?_
    refine lv_aload_n hx hb dX3_loadSnapshot_9 rfl (lv_at hl 0 rfl) ?_
    refine va_get (D := (dC, dI)) (ci := 3) (C := RX3) (T := TX3) (N := 4) hx hb hts hiX3 hown hK hP 0 rfl rfl 1 (by decide) (hts (.fieldLink RX3 18 "PaddockFields$History" "snapshot" "[LPaddockFields$Board;") (List.mem_cons_of_mem _ (List.mem_append_left _ (List.mem_append_left _ (List.mem_of_getElem? (i := 0) rfl))))) (fun _ h9 => h9) rfl dX3_loadSnapshot_10 ?_
    refine lv_iload_n hx hb dX3_loadSnapshot_13 rfl (lv_at hl 1 rfl) ?_
    obtain ⟨v2, h_v2, hf⟩ := hf_bind hf
    refine wh_ldQ (D := (dC, dI)) hx hb hK hP 2 3 rfl rfl h_v2 dX3_loadSnapshot_14 ?_
    by_cases hq : v2 = a_0snapshot0
    · subst v2
      replace hf := hf_pos rfl hf
      obtain ⟨s3, h_s3, hf⟩ := hf_bind hf
      refine wh_callv (D := (dC, dI)) (ws' := (wl_fHistory_loadSnapshot cI cZ cJ cQ a_0 a_0filled a_0snapshot a_0snapshot0 a_0snapshot1 a_2 a_0snapshot0number a_2number a_0snapshot0inField a_2inField a_0snapshot0first a_2first a_0snapshot0last a_2last a_0snapshot1number a_0snapshot1inField a_0snapshot1first a_0snapshot1last a_0saved count_0 filled_0 snapshot_0 number_0snapshot0 s3.1 inField_0snapshot0 s3.2.1 first_0snapshot0 s3.2.2.1 last_0snapshot0 s3.2.2.2 number_0snapshot1 inField_0snapshot1 first_0snapshot1 last_0snapshot1)) (va_runV (As := [.ref a_0snapshot0]) (rest := []) ⟨hx, hb, hml, hown, hts⟩ (c_fBoard_copy l dC dI cI cZ cJ cQ a_2 a_0snapshot0 a_0snapshot0number a_2number a_0snapshot0inField a_2inField a_0snapshot0first a_2first a_0snapshot0last a_2last _ h_s3) (cwV 1 hts gX3_loadSnapshot_X0_copy rfl rfl rfl (by decide +kernel) ⟨Nat.le_of_ble_eq_true rfl, Nat.le_of_ble_eq_true rfl⟩) (wh_preV (C := RX0) (T := TX0) (N := 4) hK hN hP hD [5, 3, 6, 7, 8, 9, 10, 11, 12, 13] rfl rfl 0 0 rfl rfl) rfl rfl hl.1 rfl (lv_room (Nat.le_of_ble_eq_true rfl)) dX3_loadSnapshot_15 ⟨Nat.le_refl _, Nat.le_refl _⟩) hP hD hS hA [5, 3, 6, 7, 8, 9, 10, 11, 12, 13] [0, 1, 2, 4, 14, 15, 16, 17] [0, 1, 2, 9, 3, 8, 10, 11, 12, 13, 14, 15, 16, 17, 4, 5, 6, 7] rfl rfl rfl rfl (fun H locs hP hD hS => ?_)
      obtain rfl := Option.some.inj hf
      exact hret _ _ _ _ hP hD hS dX3_loadSnapshot_18
    replace hf := hf_neg hq hf
    by_cases hq : v2 = a_0snapshot1
    · subst v2
      replace hf := hf_pos rfl hf
      obtain ⟨s4, h_s4, hf⟩ := hf_bind hf
      refine wh_callv (D := (dC, dI)) (ws' := (wl_fHistory_loadSnapshot cI cZ cJ cQ a_0 a_0filled a_0snapshot a_0snapshot0 a_0snapshot1 a_2 a_0snapshot0number a_2number a_0snapshot0inField a_2inField a_0snapshot0first a_2first a_0snapshot0last a_2last a_0snapshot1number a_0snapshot1inField a_0snapshot1first a_0snapshot1last a_0saved count_0 filled_0 snapshot_0 number_0snapshot0 s4.1 inField_0snapshot0 s4.2.1 first_0snapshot0 s4.2.2.1 last_0snapshot0 s4.2.2.2 number_0snapshot1 inField_0snapshot1 first_0snapshot1 last_0snapshot1)) (va_runV (As := [.ref a_0snapshot1]) (rest := []) ⟨hx, hb, hml, hown, hts⟩ (c_fBoard_copy l dC dI cI cZ cJ cQ a_2 a_0snapshot1 a_0snapshot1number a_2number a_0snapshot1inField a_2inField a_0snapshot1first a_2first a_0snapshot1last a_2last _ h_s4) (cwV 1 hts gX3_loadSnapshot_X0_copy rfl rfl rfl (by decide +kernel) ⟨Nat.le_of_ble_eq_true rfl, Nat.le_of_ble_eq_true rfl⟩) (wh_preV (C := RX0) (T := TX0) (N := 4) hK hN hP hD [5, 4, 14, 7, 15, 9, 16, 11, 17, 13] rfl rfl 0 0 rfl rfl) rfl rfl hl.1 rfl (lv_room (Nat.le_of_ble_eq_true rfl)) dX3_loadSnapshot_15 ⟨Nat.le_refl _, Nat.le_refl _⟩) hP hD hS hA [5, 4, 14, 7, 15, 9, 16, 11, 17, 13] [0, 1, 2, 3, 6, 8, 10, 12] [0, 1, 2, 3, 9, 8, 4, 11, 5, 13, 6, 15, 7, 17, 10, 12, 14, 16] rfl rfl rfl rfl (fun H locs hP hD hS => ?_)
      obtain rfl := Option.some.inj hf
      exact hret _ _ _ _ hP hD hS dX3_loadSnapshot_18
    replace hf := hf_neg hq hf
    exact nomatch hf
set_option maxHeartbeats 4000000 in
set_option maxRecDepth 100000 in
theorem c_fHistory_countSaved (l : Launch) (dC : Nat → ClassId) (dI : Nat → Nat → Nat) (cI cZ cJ cQ : ClassId) (a_0 a_0saved a_0snapshot a_0filled : Nat) (sz : Nat) {count_0 : Int32} {out : Int32} (hf : fHistory_countSaved count_0 = some out) : Met l yX3_countSaved wsX3_countSaved ({ frames := 0, cells := 0, slots := 0, locals := 0 } : Room) (va_Pc [.ref a_0] (wlP (dC, dI) (wlT cI cZ cJ cQ) (wl_fHistory_countSaved cI cZ cJ cQ a_0 a_0saved a_0snapshot a_0filled count_0) sz)) (va_Qi (fun (v : Int32) (_ : Unit) => v = out) (wlQ (dC, dI) (va_A (wl_fHistory_countSaved cI cZ cJ cQ a_0 a_0saved a_0snapshot a_0filled count_0) sz) (wl_fHistory_countSaved cI cZ cJ cQ a_0 a_0saved a_0snapshot a_0filled count_0)) (va_A (wl_fHistory_countSaved cI cZ cJ cQ a_0 a_0saved a_0snapshot a_0filled count_0) sz)) 0 0 (va_A (wl_fHistory_countSaved cI cZ cJ cQ a_0 a_0saved a_0snapshot a_0filled count_0) sz) := by
  refine wh_ofWi (lv := [(0, .ref a_0)]) RX3 (by decide) rfl rfl (Nat.le_of_ble_eq_true rfl) rfl ?_
  intro p e s m below meth c A QQ hx hb hml hown hts hP hK hN hD hA hret ls hl
  have hS : va_S A s.heap s.heap [] := va_S.rf
  have hiX3 : ∀ w ∈ wsX30, w ∈ wsX3_countSaved := (fun _ h => List.mem_cons_of_mem _ (List.mem_append_right _ (h)))
  unfold fHistory_countSaved at hf
  refine lv_aload_n hx hb dX3_countSaved_0 rfl (lv_at hl 0 rfl) ?_
  refine va_get (D := (dC, dI)) (ci := 3) (C := RX3) (T := TX3) (N := 4) hx hb hts hiX3 hown hK hP 0 rfl rfl 3 (by decide) (hts (.fieldLink RX3 25 "PaddockFields$History" "count" "I") (List.mem_cons_of_mem _ (List.mem_append_left _ (List.mem_of_getElem? (i := 0) rfl)))) (fun _ h9 => h9) rfl dX3_countSaved_1 ?_
  obtain rfl := Option.some.inj hf
  exact hret _ _ _ _ hP hD hS dX3_countSaved_4
set_option maxHeartbeats 4000000 in
set_option maxRecDepth 100000 in
theorem c_fHistory_loadLatest (l : Launch) (dC : Nat → ClassId) (dI : Nat → Nat → Nat) (cI cZ cJ cQ : ClassId) (a_0 a_0saved a_0saved0 a_0saved1 a_0saved2 a_0saved3 a_0saved4 a_0saved5 a_1 a_0saved0number a_1number a_0saved0inField a_1inField a_0saved0first a_1first a_0saved0last a_1last a_0saved1number a_0saved1inField a_0saved1first a_0saved1last a_0saved2number a_0saved2inField a_0saved2first a_0saved2last a_0saved3number a_0saved3inField a_0saved3first a_0saved3last a_0saved4number a_0saved4inField a_0saved4first a_0saved4last a_0saved5number a_0saved5inField a_0saved5first a_0saved5last a_0snapshot a_0filled : Nat) (sz : Nat) {F : Nat} {count_0 : Int32} {saved_0 : Nat → Option Nat} {number_0saved0 : Nat → Int32} {number_1 : Nat → Int32} {inField_0saved0 : Nat → Int32} {inField_1 : Nat → Int32} {first_0saved0 : Nat → Int32} {first_1 : Nat → Int32} {last_0saved0 : Nat → Int32} {last_1 : Nat → Int32} {number_0saved1 : Nat → Int32} {inField_0saved1 : Nat → Int32} {first_0saved1 : Nat → Int32} {last_0saved1 : Nat → Int32} {number_0saved2 : Nat → Int32} {inField_0saved2 : Nat → Int32} {first_0saved2 : Nat → Int32} {last_0saved2 : Nat → Int32} {number_0saved3 : Nat → Int32} {inField_0saved3 : Nat → Int32} {first_0saved3 : Nat → Int32} {last_0saved3 : Nat → Int32} {number_0saved4 : Nat → Int32} {inField_0saved4 : Nat → Int32} {first_0saved4 : Nat → Int32} {last_0saved4 : Nat → Int32} {number_0saved5 : Nat → Int32} {inField_0saved5 : Nat → Int32} {first_0saved5 : Nat → Int32} {last_0saved5 : Nat → Int32} {out : Int32 × (Nat → Int32) × (Nat → Int32) × (Nat → Int32) × (Nat → Int32)} (hf : fHistory_loadLatest F a_0saved0 a_0saved1 a_0saved2 a_0saved3 a_0saved4 a_0saved5 count_0 saved_0 number_0saved0 number_1 inField_0saved0 inField_1 first_0saved0 first_1 last_0saved0 last_1 number_0saved1 inField_0saved1 first_0saved1 last_0saved1 number_0saved2 inField_0saved2 first_0saved2 last_0saved2 number_0saved3 inField_0saved3 first_0saved3 last_0saved3 number_0saved4 inField_0saved4 first_0saved4 last_0saved4 number_0saved5 inField_0saved5 first_0saved5 last_0saved5 = some out) : Met l yX3_loadLatest wsX3_loadLatest ({ frames := 1, cells := 0, slots := 0, locals := 22 } : Room) (va_Pc [.ref a_0, .ref a_1] (wlP (dC, dI) (wlT cI cZ cJ cQ) (wl_fHistory_loadLatest cI cZ cJ cQ a_0 a_0saved a_0saved0 a_0saved1 a_0saved2 a_0saved3 a_0saved4 a_0saved5 a_1 a_0saved0number a_1number a_0saved0inField a_1inField a_0saved0first a_1first a_0saved0last a_1last a_0saved1number a_0saved1inField a_0saved1first a_0saved1last a_0saved2number a_0saved2inField a_0saved2first a_0saved2last a_0saved3number a_0saved3inField a_0saved3first a_0saved3last a_0saved4number a_0saved4inField a_0saved4first a_0saved4last a_0saved5number a_0saved5inField a_0saved5first a_0saved5last a_0snapshot a_0filled count_0 saved_0 number_0saved0 number_1 inField_0saved0 inField_1 first_0saved0 first_1 last_0saved0 last_1 number_0saved1 inField_0saved1 first_0saved1 last_0saved1 number_0saved2 inField_0saved2 first_0saved2 last_0saved2 number_0saved3 inField_0saved3 first_0saved3 last_0saved3 number_0saved4 inField_0saved4 first_0saved4 last_0saved4 number_0saved5 inField_0saved5 first_0saved5 last_0saved5) sz)) (va_Qv (fun (_ : Unit) => True) (wlQ (dC, dI) (va_A (wl_fHistory_loadLatest cI cZ cJ cQ a_0 a_0saved a_0saved0 a_0saved1 a_0saved2 a_0saved3 a_0saved4 a_0saved5 a_1 a_0saved0number a_1number a_0saved0inField a_1inField a_0saved0first a_1first a_0saved0last a_1last a_0saved1number a_0saved1inField a_0saved1first a_0saved1last a_0saved2number a_0saved2inField a_0saved2first a_0saved2last a_0saved3number a_0saved3inField a_0saved3first a_0saved3last a_0saved4number a_0saved4inField a_0saved4first a_0saved4last a_0saved5number a_0saved5inField a_0saved5first a_0saved5last a_0snapshot a_0filled count_0 saved_0 number_0saved0 number_1 inField_0saved0 inField_1 first_0saved0 first_1 last_0saved0 last_1 number_0saved1 inField_0saved1 first_0saved1 last_0saved1 number_0saved2 inField_0saved2 first_0saved2 last_0saved2 number_0saved3 inField_0saved3 first_0saved3 last_0saved3 number_0saved4 inField_0saved4 first_0saved4 last_0saved4 number_0saved5 inField_0saved5 first_0saved5 last_0saved5) sz) (wl_fHistory_loadLatest cI cZ cJ cQ a_0 a_0saved a_0saved0 a_0saved1 a_0saved2 a_0saved3 a_0saved4 a_0saved5 a_1 a_0saved0number a_1number a_0saved0inField a_1inField a_0saved0first a_1first a_0saved0last a_1last a_0saved1number a_0saved1inField a_0saved1first a_0saved1last a_0saved2number a_0saved2inField a_0saved2first a_0saved2last a_0saved3number a_0saved3inField a_0saved3first a_0saved3last a_0saved4number a_0saved4inField a_0saved4first a_0saved4last a_0saved5number a_0saved5inField a_0saved5first a_0saved5last a_0snapshot a_0filled out.1 saved_0 number_0saved0 out.2.1 inField_0saved0 out.2.2.1 first_0saved0 out.2.2.2.1 last_0saved0 out.2.2.2.2 number_0saved1 inField_0saved1 first_0saved1 last_0saved1 number_0saved2 inField_0saved2 first_0saved2 last_0saved2 number_0saved3 inField_0saved3 first_0saved3 last_0saved3 number_0saved4 inField_0saved4 first_0saved4 last_0saved4 number_0saved5 inField_0saved5 first_0saved5 last_0saved5)) (va_A (wl_fHistory_loadLatest cI cZ cJ cQ a_0 a_0saved a_0saved0 a_0saved1 a_0saved2 a_0saved3 a_0saved4 a_0saved5 a_1 a_0saved0number a_1number a_0saved0inField a_1inField a_0saved0first a_1first a_0saved0last a_1last a_0saved1number a_0saved1inField a_0saved1first a_0saved1last a_0saved2number a_0saved2inField a_0saved2first a_0saved2last a_0saved3number a_0saved3inField a_0saved3first a_0saved3last a_0saved4number a_0saved4inField a_0saved4first a_0saved4last a_0saved5number a_0saved5inField a_0saved5first a_0saved5last a_0snapshot a_0filled count_0 saved_0 number_0saved0 number_1 inField_0saved0 inField_1 first_0saved0 first_1 last_0saved0 last_1 number_0saved1 inField_0saved1 first_0saved1 last_0saved1 number_0saved2 inField_0saved2 first_0saved2 last_0saved2 number_0saved3 inField_0saved3 first_0saved3 last_0saved3 number_0saved4 inField_0saved4 first_0saved4 last_0saved4 number_0saved5 inField_0saved5 first_0saved5 last_0saved5) sz)) 0 0 (va_A (wl_fHistory_loadLatest cI cZ cJ cQ a_0 a_0saved a_0saved0 a_0saved1 a_0saved2 a_0saved3 a_0saved4 a_0saved5 a_1 a_0saved0number a_1number a_0saved0inField a_1inField a_0saved0first a_1first a_0saved0last a_1last a_0saved1number a_0saved1inField a_0saved1first a_0saved1last a_0saved2number a_0saved2inField a_0saved2first a_0saved2last a_0saved3number a_0saved3inField a_0saved3first a_0saved3last a_0saved4number a_0saved4inField a_0saved4first a_0saved4last a_0saved5number a_0saved5inField a_0saved5first a_0saved5last a_0snapshot a_0filled count_0 saved_0 number_0saved0 number_1 inField_0saved0 inField_1 first_0saved0 first_1 last_0saved0 last_1 number_0saved1 inField_0saved1 first_0saved1 last_0saved1 number_0saved2 inField_0saved2 first_0saved2 last_0saved2 number_0saved3 inField_0saved3 first_0saved3 last_0saved3 number_0saved4 inField_0saved4 first_0saved4 last_0saved4 number_0saved5 inField_0saved5 first_0saved5 last_0saved5) sz) := by
  refine wh_ofWv (lv := [(0, .ref a_0), (1, .ref a_1)]) RX3 (by decide) rfl rfl (Nat.le_of_ble_eq_true rfl) rfl ?_
  intro p e s m below meth c A QQ hx hb hml hown hts hP hK hN hD hA hret ls hl
  have hS : va_S A s.heap s.heap [] := va_S.rf
  have hiX3 : ∀ w ∈ wsX30, w ∈ wsX3_loadLatest := (fun _ h => List.mem_cons_of_mem _ (List.mem_append_left _ (List.mem_append_right _ (h))))
  unfold fHistory_loadLatest at hf
  refine lv_aload_n hx hb dX3_loadLatest_0 rfl (lv_at hl 0 rfl) ?_
  refine va_get (D := (dC, dI)) (ci := 3) (C := RX3) (T := TX3) (N := 4) hx hb hts hiX3 hown hK hP 0 rfl rfl 3 (by decide) (hts (.fieldLink RX3 25 "PaddockFields$History" "count" "I") (List.mem_cons_of_mem _ (List.mem_append_left _ (List.mem_append_left _ (List.mem_of_getElem? (i := 0) rfl))))) (fun _ h9 => h9) rfl dX3_loadLatest_1 ?_
  refine lv_if_le (tgt := 39) hx hb dX3_loadLatest_4 (by decide) (fun cc => ?_) (fun cc => ?_)
  · replace hf := hf_pos cc hf
    obtain rfl := Option.some.inj hf
    exact hret _ _ _ _ hP hD hS dX3_loadLatest_39
  · replace hf := hf_neg cc hf
    refine lv_aload_n hx hb dX3_loadLatest_7 rfl (lv_at hl 0 rfl) ?_
    refine va_get (D := (dC, dI)) (ci := 3) (C := RX3) (T := TX3) (N := 4) hx hb hts hiX3 hown hK hP 0 rfl rfl 3 (by decide) (hts (.fieldLink RX3 25 "PaddockFields$History" "count" "I") (List.mem_cons_of_mem _ (List.mem_append_left _ (List.mem_append_left _ (List.mem_of_getElem? (i := 0) rfl))))) (fun _ h9 => h9) rfl dX3_loadLatest_8 ?_
    refine lv_bipush (v := 6) hx hb dX3_loadLatest_11 (by decide) ?_
    refine lv_icmp_gt (tgt := 39) hx hb dX3_loadLatest_13 (by decide) (fun cc => ?_) (fun cc => ?_)
    · replace hf := hf_pos cc hf
      obtain rfl := Option.some.inj hf
      exact hret _ _ _ _ hP hD hS dX3_loadLatest_39
    · replace hf := hf_neg cc hf
      refine lv_aload_n hx hb dX3_loadLatest_16 rfl (lv_at hl 0 rfl) ?_
      refine lv_dup hx hb dX3_loadLatest_17 rfl ?_
      refine va_get (D := (dC, dI)) (ci := 3) (C := RX3) (T := TX3) (N := 4) hx hb hts hiX3 hown hK hP 0 rfl rfl 3 (by decide) (hts (.fieldLink RX3 25 "PaddockFields$History" "count" "I") (List.mem_cons_of_mem _ (List.mem_append_left _ (List.mem_append_left _ (List.mem_of_getElem? (i := 0) rfl))))) (fun _ h9 => h9) rfl dX3_loadLatest_18 ?_
      refine lv_iconst (v := 1) hx hb dX3_loadLatest_21 (by decide) ?_
      refine lv_isub hx hb dX3_loadLatest_22 ?_
      refine wh_put (D := (dC, dI)) (ci := 3) (C := RX3) (T := TX3) (N := 4) (ty := .int) (v := .int (count_0 - (1 : Int32))) (ws' := (wl_fHistory_loadLatest cI cZ cJ cQ a_0 a_0saved a_0saved0 a_0saved1 a_0saved2 a_0saved3 a_0saved4 a_0saved5 a_1 a_0saved0number a_1number a_0saved0inField a_1inField a_0saved0first a_1first a_0saved0last a_1last a_0saved1number a_0saved1inField a_0saved1first a_0saved1last a_0saved2number a_0saved2inField a_0saved2first a_0saved2last a_0saved3number a_0saved3inField a_0saved3first a_0saved3last a_0saved4number a_0saved4inField a_0saved4first a_0saved4last a_0saved5number a_0saved5inField a_0saved5first a_0saved5last a_0snapshot a_0filled (count_0 - (1 : Int32)) saved_0 number_0saved0 number_1 inField_0saved0 inField_1 first_0saved0 first_1 last_0saved0 last_1 number_0saved1 inField_0saved1 first_0saved1 last_0saved1 number_0saved2 inField_0saved2 first_0saved2 last_0saved2 number_0saved3 inField_0saved3 first_0saved3 last_0saved3 number_0saved4 inField_0saved4 first_0saved4 last_0saved4 number_0saved5 inField_0saved5 first_0saved5 last_0saved5)) hx hb hts hiX3 tyX3 tyX3_ok nmX3 hown hK hP hD hS 0 rfl rfl 3 (by decide) (hts (.fieldLink RX3 25 "PaddockFields$History" "count" "I") (List.mem_cons_of_mem _ (List.mem_append_left _ (List.mem_append_left _ (List.mem_of_getElem? (i := 0) rfl))))) (fun _ h9 => h9) rfl rfl rfl rfl (Nat.le_of_ble_eq_true rfl) rfl dX3_loadLatest_23 (fun H locs hP hD hS => ?_)
      refine lv_aload_n hx hb dX3_loadLatest_26 rfl (lv_at hl 1 rfl) ?_
      refine lv_aload_n hx hb dX3_loadLatest_27 rfl (lv_at hl 0 rfl) ?_
      refine va_get (D := (dC, dI)) (ci := 3) (C := RX3) (T := TX3) (N := 4) hx hb hts hiX3 hown hK hP 0 rfl rfl 0 (by decide) (hts (.fieldLink RX3 11 "PaddockFields$History" "saved" "[LPaddockFields$Board;") (List.mem_cons_of_mem _ (List.mem_append_left _ (List.mem_append_left _ (List.mem_of_getElem? (i := 1) rfl))))) (fun _ h9 => h9) rfl dX3_loadLatest_28 ?_
      refine lv_aload_n hx hb dX3_loadLatest_31 rfl (lv_at hl 0 rfl) ?_
      refine va_get (D := (dC, dI)) (ci := 3) (C := RX3) (T := TX3) (N := 4) hx hb hts hiX3 hown hK hP 0 rfl rfl 3 (by decide) (hts (.fieldLink RX3 25 "PaddockFields$History" "count" "I") (List.mem_cons_of_mem _ (List.mem_append_left _ (List.mem_append_left _ (List.mem_of_getElem? (i := 0) rfl))))) (fun _ h9 => h9) rfl dX3_loadLatest_32 ?_
      obtain ⟨v1, h_v1, hf⟩ := hf_bind hf
      refine wh_ldQ (D := (dC, dI)) hx hb hK hP 1 3 rfl rfl h_v1 dX3_loadLatest_35 ?_
      by_cases hq : v1 = a_0saved0
      · subst v1
        replace hf := hf_pos rfl hf
        obtain ⟨s2, h_s2, hf⟩ := hf_bind hf
        refine wh_callv (D := (dC, dI)) (ws' := (wl_fHistory_loadLatest cI cZ cJ cQ a_0 a_0saved a_0saved0 a_0saved1 a_0saved2 a_0saved3 a_0saved4 a_0saved5 a_1 a_0saved0number a_1number a_0saved0inField a_1inField a_0saved0first a_1first a_0saved0last a_1last a_0saved1number a_0saved1inField a_0saved1first a_0saved1last a_0saved2number a_0saved2inField a_0saved2first a_0saved2last a_0saved3number a_0saved3inField a_0saved3first a_0saved3last a_0saved4number a_0saved4inField a_0saved4first a_0saved4last a_0saved5number a_0saved5inField a_0saved5first a_0saved5last a_0snapshot a_0filled (count_0 - (1 : Int32)) saved_0 number_0saved0 s2.1 inField_0saved0 s2.2.1 first_0saved0 s2.2.2.1 last_0saved0 s2.2.2.2 number_0saved1 inField_0saved1 first_0saved1 last_0saved1 number_0saved2 inField_0saved2 first_0saved2 last_0saved2 number_0saved3 inField_0saved3 first_0saved3 last_0saved3 number_0saved4 inField_0saved4 first_0saved4 last_0saved4 number_0saved5 inField_0saved5 first_0saved5 last_0saved5)) (va_runV (As := [.ref a_0saved0]) (rest := []) ⟨hx, hb, hml, hown, hts⟩ (c_fBoard_copy l dC dI cI cZ cJ cQ a_1 a_0saved0 a_0saved0number a_1number a_0saved0inField a_1inField a_0saved0first a_1first a_0saved0last a_1last _ h_s2) (cwV 1 hts gX3_loadLatest_X0_copy rfl rfl rfl (by decide +kernel) ⟨Nat.le_of_ble_eq_true rfl, Nat.le_of_ble_eq_true rfl⟩) (wh_preV (C := RX0) (T := TX0) (N := 4) hK hN hP hD [8, 2, 9, 10, 11, 12, 13, 14, 15, 16] rfl rfl 0 0 rfl rfl) rfl rfl hl.1 rfl (lv_room (Nat.le_of_ble_eq_true rfl)) dX3_loadLatest_36 ⟨Nat.le_refl _, Nat.le_refl _⟩) hP hD hS hA [8, 2, 9, 10, 11, 12, 13, 14, 15, 16] [0, 1, 3, 4, 5, 6, 7, 17, 18, 19, 20, 21, 22, 23, 24, 25, 26, 27, 28, 29, 30, 31, 32, 33, 34, 35, 36] [0, 1, 28, 2, 3, 4, 5, 6, 27, 29, 30, 31, 32, 33, 34, 35, 36, 7, 8, 9, 10, 11, 12, 13, 14, 15, 16, 17, 18, 19, 20, 21, 22, 23, 24, 25, 26] rfl rfl rfl rfl (fun H locs hP hD hS => ?_)
        obtain rfl := Option.some.inj hf
        exact hret _ _ _ _ hP hD hS dX3_loadLatest_39
      replace hf := hf_neg hq hf
      by_cases hq : v1 = a_0saved1
      · subst v1
        replace hf := hf_pos rfl hf
        obtain ⟨s3, h_s3, hf⟩ := hf_bind hf
        refine wh_callv (D := (dC, dI)) (ws' := (wl_fHistory_loadLatest cI cZ cJ cQ a_0 a_0saved a_0saved0 a_0saved1 a_0saved2 a_0saved3 a_0saved4 a_0saved5 a_1 a_0saved0number a_1number a_0saved0inField a_1inField a_0saved0first a_1first a_0saved0last a_1last a_0saved1number a_0saved1inField a_0saved1first a_0saved1last a_0saved2number a_0saved2inField a_0saved2first a_0saved2last a_0saved3number a_0saved3inField a_0saved3first a_0saved3last a_0saved4number a_0saved4inField a_0saved4first a_0saved4last a_0saved5number a_0saved5inField a_0saved5first a_0saved5last a_0snapshot a_0filled (count_0 - (1 : Int32)) saved_0 number_0saved0 s3.1 inField_0saved0 s3.2.1 first_0saved0 s3.2.2.1 last_0saved0 s3.2.2.2 number_0saved1 inField_0saved1 first_0saved1 last_0saved1 number_0saved2 inField_0saved2 first_0saved2 last_0saved2 number_0saved3 inField_0saved3 first_0saved3 last_0saved3 number_0saved4 inField_0saved4 first_0saved4 last_0saved4 number_0saved5 inField_0saved5 first_0saved5 last_0saved5)) (va_runV (As := [.ref a_0saved1]) (rest := []) ⟨hx, hb, hml, hown, hts⟩ (c_fBoard_copy l dC dI cI cZ cJ cQ a_1 a_0saved1 a_0saved1number a_1number a_0saved1inField a_1inField a_0saved1first a_1first a_0saved1last a_1last _ h_s3) (cwV 1 hts gX3_loadLatest_X0_copy rfl rfl rfl (by decide +kernel) ⟨Nat.le_of_ble_eq_true rfl, Nat.le_of_ble_eq_true rfl⟩) (wh_preV (C := RX0) (T := TX0) (N := 4) hK hN hP hD [8, 3, 17, 10, 18, 12, 19, 14, 20, 16] rfl rfl 0 0 rfl rfl) rfl rfl hl.1 rfl (lv_room (Nat.le_of_ble_eq_true rfl)) dX3_loadLatest_36 ⟨Nat.le_refl _, Nat.le_refl _⟩) hP hD hS hA [8, 3, 17, 10, 18, 12, 19, 14, 20, 16] [0, 1, 2, 4, 5, 6, 7, 9, 11, 13, 15, 21, 22, 23, 24, 25, 26, 27, 28, 29, 30, 31, 32, 33, 34, 35, 36] [0, 1, 2, 28, 3, 4, 5, 6, 27, 7, 30, 8, 32, 9, 34, 10, 36, 29, 31, 33, 35, 11, 12, 13, 14, 15, 16, 17, 18, 19, 20, 21, 22, 23, 24, 25, 26] rfl rfl rfl rfl (fun H locs hP hD hS => ?_)
        obtain rfl := Option.some.inj hf
        exact hret _ _ _ _ hP hD hS dX3_loadLatest_39
      replace hf := hf_neg hq hf
      by_cases hq : v1 = a_0saved2
      · subst v1
        replace hf := hf_pos rfl hf
        obtain ⟨s4, h_s4, hf⟩ := hf_bind hf
        refine wh_callv (D := (dC, dI)) (ws' := (wl_fHistory_loadLatest cI cZ cJ cQ a_0 a_0saved a_0saved0 a_0saved1 a_0saved2 a_0saved3 a_0saved4 a_0saved5 a_1 a_0saved0number a_1number a_0saved0inField a_1inField a_0saved0first a_1first a_0saved0last a_1last a_0saved1number a_0saved1inField a_0saved1first a_0saved1last a_0saved2number a_0saved2inField a_0saved2first a_0saved2last a_0saved3number a_0saved3inField a_0saved3first a_0saved3last a_0saved4number a_0saved4inField a_0saved4first a_0saved4last a_0saved5number a_0saved5inField a_0saved5first a_0saved5last a_0snapshot a_0filled (count_0 - (1 : Int32)) saved_0 number_0saved0 s4.1 inField_0saved0 s4.2.1 first_0saved0 s4.2.2.1 last_0saved0 s4.2.2.2 number_0saved1 inField_0saved1 first_0saved1 last_0saved1 number_0saved2 inField_0saved2 first_0saved2 last_0saved2 number_0saved3 inField_0saved3 first_0saved3 last_0saved3 number_0saved4 inField_0saved4 first_0saved4 last_0saved4 number_0saved5 inField_0saved5 first_0saved5 last_0saved5)) (va_runV (As := [.ref a_0saved2]) (rest := []) ⟨hx, hb, hml, hown, hts⟩ (c_fBoard_copy l dC dI cI cZ cJ cQ a_1 a_0saved2 a_0saved2number a_1number a_0saved2inField a_1inField a_0saved2first a_1first a_0saved2last a_1last _ h_s4) (cwV 1 hts gX3_loadLatest_X0_copy rfl rfl rfl (by decide +kernel) ⟨Nat.le_of_ble_eq_true rfl, Nat.le_of_ble_eq_true rfl⟩) (wh_preV (C := RX0) (T := TX0) (N := 4) hK hN hP hD [8, 4, 21, 10, 22, 12, 23, 14, 24, 16] rfl rfl 0 0 rfl rfl) rfl rfl hl.1 rfl (lv_room (Nat.le_of_ble_eq_true rfl)) dX3_loadLatest_36 ⟨Nat.le_refl _, Nat.le_refl _⟩) hP hD hS hA [8, 4, 21, 10, 22, 12, 23, 14, 24, 16] [0, 1, 2, 3, 5, 6, 7, 9, 11, 13, 15, 17, 18, 19, 20, 25, 26, 27, 28, 29, 30, 31, 32, 33, 34, 35, 36] [0, 1, 2, 3, 28, 4, 5, 6, 27, 7, 30, 8, 32, 9, 34, 10, 36, 11, 12, 13, 14, 29, 31, 33, 35, 15, 16, 17, 18, 19, 20, 21, 22, 23, 24, 25, 26] rfl rfl rfl rfl (fun H locs hP hD hS => ?_)
        obtain rfl := Option.some.inj hf
        exact hret _ _ _ _ hP hD hS dX3_loadLatest_39
      replace hf := hf_neg hq hf
      by_cases hq : v1 = a_0saved3
      · subst v1
        replace hf := hf_pos rfl hf
        obtain ⟨s5, h_s5, hf⟩ := hf_bind hf
        refine wh_callv (D := (dC, dI)) (ws' := (wl_fHistory_loadLatest cI cZ cJ cQ a_0 a_0saved a_0saved0 a_0saved1 a_0saved2 a_0saved3 a_0saved4 a_0saved5 a_1 a_0saved0number a_1number a_0saved0inField a_1inField a_0saved0first a_1first a_0saved0last a_1last a_0saved1number a_0saved1inField a_0saved1first a_0saved1last a_0saved2number a_0saved2inField a_0saved2first a_0saved2last a_0saved3number a_0saved3inField a_0saved3first a_0saved3last a_0saved4number a_0saved4inField a_0saved4first a_0saved4last a_0saved5number a_0saved5inField a_0saved5first a_0saved5last a_0snapshot a_0filled (count_0 - (1 : Int32)) saved_0 number_0saved0 s5.1 inField_0saved0 s5.2.1 first_0saved0 s5.2.2.1 last_0saved0 s5.2.2.2 number_0saved1 inField_0saved1 first_0saved1 last_0saved1 number_0saved2 inField_0saved2 first_0saved2 last_0saved2 number_0saved3 inField_0saved3 first_0saved3 last_0saved3 number_0saved4 inField_0saved4 first_0saved4 last_0saved4 number_0saved5 inField_0saved5 first_0saved5 last_0saved5)) (va_runV (As := [.ref a_0saved3]) (rest := []) ⟨hx, hb, hml, hown, hts⟩ (c_fBoard_copy l dC dI cI cZ cJ cQ a_1 a_0saved3 a_0saved3number a_1number a_0saved3inField a_1inField a_0saved3first a_1first a_0saved3last a_1last _ h_s5) (cwV 1 hts gX3_loadLatest_X0_copy rfl rfl rfl (by decide +kernel) ⟨Nat.le_of_ble_eq_true rfl, Nat.le_of_ble_eq_true rfl⟩) (wh_preV (C := RX0) (T := TX0) (N := 4) hK hN hP hD [8, 5, 25, 10, 26, 12, 27, 14, 28, 16] rfl rfl 0 0 rfl rfl) rfl rfl hl.1 rfl (lv_room (Nat.le_of_ble_eq_true rfl)) dX3_loadLatest_36 ⟨Nat.le_refl _, Nat.le_refl _⟩) hP hD hS hA [8, 5, 25, 10, 26, 12, 27, 14, 28, 16] [0, 1, 2, 3, 4, 6, 7, 9, 11, 13, 15, 17, 18, 19, 20, 21, 22, 23, 24, 29, 30, 31, 32, 33, 34, 35, 36] [0, 1, 2, 3, 4, 28, 5, 6, 27, 7, 30, 8, 32, 9, 34, 10, 36, 11, 12, 13, 14, 15, 16, 17, 18, 29, 31, 33, 35, 19, 20, 21, 22, 23, 24, 25, 26] rfl rfl rfl rfl (fun H locs hP hD hS => ?_)
        obtain rfl := Option.some.inj hf
        exact hret _ _ _ _ hP hD hS dX3_loadLatest_39
      replace hf := hf_neg hq hf
      by_cases hq : v1 = a_0saved4
      · subst v1
        replace hf := hf_pos rfl hf
        obtain ⟨s6, h_s6, hf⟩ := hf_bind hf
        refine wh_callv (D := (dC, dI)) (ws' := (wl_fHistory_loadLatest cI cZ cJ cQ a_0 a_0saved a_0saved0 a_0saved1 a_0saved2 a_0saved3 a_0saved4 a_0saved5 a_1 a_0saved0number a_1number a_0saved0inField a_1inField a_0saved0first a_1first a_0saved0last a_1last a_0saved1number a_0saved1inField a_0saved1first a_0saved1last a_0saved2number a_0saved2inField a_0saved2first a_0saved2last a_0saved3number a_0saved3inField a_0saved3first a_0saved3last a_0saved4number a_0saved4inField a_0saved4first a_0saved4last a_0saved5number a_0saved5inField a_0saved5first a_0saved5last a_0snapshot a_0filled (count_0 - (1 : Int32)) saved_0 number_0saved0 s6.1 inField_0saved0 s6.2.1 first_0saved0 s6.2.2.1 last_0saved0 s6.2.2.2 number_0saved1 inField_0saved1 first_0saved1 last_0saved1 number_0saved2 inField_0saved2 first_0saved2 last_0saved2 number_0saved3 inField_0saved3 first_0saved3 last_0saved3 number_0saved4 inField_0saved4 first_0saved4 last_0saved4 number_0saved5 inField_0saved5 first_0saved5 last_0saved5)) (va_runV (As := [.ref a_0saved4]) (rest := []) ⟨hx, hb, hml, hown, hts⟩ (c_fBoard_copy l dC dI cI cZ cJ cQ a_1 a_0saved4 a_0saved4number a_1number a_0saved4inField a_1inField a_0saved4first a_1first a_0saved4last a_1last _ h_s6) (cwV 1 hts gX3_loadLatest_X0_copy rfl rfl rfl (by decide +kernel) ⟨Nat.le_of_ble_eq_true rfl, Nat.le_of_ble_eq_true rfl⟩) (wh_preV (C := RX0) (T := TX0) (N := 4) hK hN hP hD [8, 6, 29, 10, 30, 12, 31, 14, 32, 16] rfl rfl 0 0 rfl rfl) rfl rfl hl.1 rfl (lv_room (Nat.le_of_ble_eq_true rfl)) dX3_loadLatest_36 ⟨Nat.le_refl _, Nat.le_refl _⟩) hP hD hS hA [8, 6, 29, 10, 30, 12, 31, 14, 32, 16] [0, 1, 2, 3, 4, 5, 7, 9, 11, 13, 15, 17, 18, 19, 20, 21, 22, 23, 24, 25, 26, 27, 28, 33, 34, 35, 36] [0, 1, 2, 3, 4, 5, 28, 6, 27, 7, 30, 8, 32, 9, 34, 10, 36, 11, 12, 13, 14, 15, 16, 17, 18, 19, 20, 21, 22, 29, 31, 33, 35, 23, 24, 25, 26] rfl rfl rfl rfl (fun H locs hP hD hS => ?_)
        obtain rfl := Option.some.inj hf
        exact hret _ _ _ _ hP hD hS dX3_loadLatest_39
      replace hf := hf_neg hq hf
      by_cases hq : v1 = a_0saved5
      · subst v1
        replace hf := hf_pos rfl hf
        obtain ⟨s7, h_s7, hf⟩ := hf_bind hf
        refine wh_callv (D := (dC, dI)) (ws' := (wl_fHistory_loadLatest cI cZ cJ cQ a_0 a_0saved a_0saved0 a_0saved1 a_0saved2 a_0saved3 a_0saved4 a_0saved5 a_1 a_0saved0number a_1number a_0saved0inField a_1inField a_0saved0first a_1first a_0saved0last a_1last a_0saved1number a_0saved1inField a_0saved1first a_0saved1last a_0saved2number a_0saved2inField a_0saved2first a_0saved2last a_0saved3number a_0saved3inField a_0saved3first a_0saved3last a_0saved4number a_0saved4inField a_0saved4first a_0saved4last a_0saved5number a_0saved5inField a_0saved5first a_0saved5last a_0snapshot a_0filled (count_0 - (1 : Int32)) saved_0 number_0saved0 s7.1 inField_0saved0 s7.2.1 first_0saved0 s7.2.2.1 last_0saved0 s7.2.2.2 number_0saved1 inField_0saved1 first_0saved1 last_0saved1 number_0saved2 inField_0saved2 first_0saved2 last_0saved2 number_0saved3 inField_0saved3 first_0saved3 last_0saved3 number_0saved4 inField_0saved4 first_0saved4 last_0saved4 number_0saved5 inField_0saved5 first_0saved5 last_0saved5)) (va_runV (As := [.ref a_0saved5]) (rest := []) ⟨hx, hb, hml, hown, hts⟩ (c_fBoard_copy l dC dI cI cZ cJ cQ a_1 a_0saved5 a_0saved5number a_1number a_0saved5inField a_1inField a_0saved5first a_1first a_0saved5last a_1last _ h_s7) (cwV 1 hts gX3_loadLatest_X0_copy rfl rfl rfl (by decide +kernel) ⟨Nat.le_of_ble_eq_true rfl, Nat.le_of_ble_eq_true rfl⟩) (wh_preV (C := RX0) (T := TX0) (N := 4) hK hN hP hD [8, 7, 33, 10, 34, 12, 35, 14, 36, 16] rfl rfl 0 0 rfl rfl) rfl rfl hl.1 rfl (lv_room (Nat.le_of_ble_eq_true rfl)) dX3_loadLatest_36 ⟨Nat.le_refl _, Nat.le_refl _⟩) hP hD hS hA [8, 7, 33, 10, 34, 12, 35, 14, 36, 16] [0, 1, 2, 3, 4, 5, 6, 9, 11, 13, 15, 17, 18, 19, 20, 21, 22, 23, 24, 25, 26, 27, 28, 29, 30, 31, 32] [0, 1, 2, 3, 4, 5, 6, 28, 27, 7, 30, 8, 32, 9, 34, 10, 36, 11, 12, 13, 14, 15, 16, 17, 18, 19, 20, 21, 22, 23, 24, 25, 26, 29, 31, 33, 35] rfl rfl rfl rfl (fun H locs hP hD hS => ?_)
        obtain rfl := Option.some.inj hf
        exact hret _ _ _ _ hP hD hS dX3_loadLatest_39
      replace hf := hf_neg hq hf
      exact nomatch hf
set_option maxHeartbeats 4000000 in
set_option maxRecDepth 100000 in
theorem c_fHash_value (l : Launch) (dC : Nat → ClassId) (dI : Nat → Nat → Nat) (cI cZ cJ cQ : ClassId) (a_0 : Nat) (sz : Nat) {value_0 : Int64} {out : Int64} (hf : fHash_value value_0 = some out) : Met l yX2_value wsX2_value ({ frames := 0, cells := 0, slots := 0, locals := 0 } : Room) (va_Pc [.ref a_0] (wlP (dC, dI) (wlT cI cZ cJ cQ) (wl_fHash_value cI cZ cJ cQ a_0 value_0) sz)) (va_Ql (fun (v : Int64) (_ : Unit) => v = out) (wlQ (dC, dI) (va_A (wl_fHash_value cI cZ cJ cQ a_0 value_0) sz) (wl_fHash_value cI cZ cJ cQ a_0 value_0)) (va_A (wl_fHash_value cI cZ cJ cQ a_0 value_0) sz)) 0 0 (va_A (wl_fHash_value cI cZ cJ cQ a_0 value_0) sz) := by
  refine wh_ofWl (lv := [(0, .ref a_0)]) RX2 (by decide) rfl rfl (Nat.le_of_ble_eq_true rfl) rfl ?_
  intro p e s m below meth c A QQ hx hb hml hown hts hP hK hN hD hA hret ls hl
  have hS : va_S A s.heap s.heap [] := va_S.rf
  have hiX2 : ∀ w ∈ wsX20, w ∈ wsX2_value := (fun _ h => List.mem_cons_of_mem _ (List.mem_append_right _ (h)))
  unfold fHash_value at hf
  refine lv_aload_n hx hb dX2_value_0 rfl (lv_at hl 0 rfl) ?_
  refine va_get (D := (dC, dI)) (ci := 2) (C := RX2) (T := TX2) (N := 1) hx hb hts hiX2 hown hK hP 0 rfl rfl 0 (by decide) (hts (.fieldLink RX2 9 "PaddockFields$Hash" "value" "J") (List.mem_cons_of_mem _ (List.mem_append_left _ (List.mem_of_getElem? (i := 0) rfl)))) (fun _ h9 => h9) rfl dX2_value_1 ?_
  obtain rfl := Option.some.inj hf
  exact hret _ _ _ _ hP hD hS dX2_value_4
set_option maxHeartbeats 4000000 in
set_option maxRecDepth 100000 in
theorem c_fHash_add (l : Launch) (dC : Nat → ClassId) (dI : Nat → Nat → Nat) (cI cZ cJ cQ : ClassId) (a_0 : Nat) (sz : Nat) {x1 : Int64} {value_0 : Int64} {out : Int64} (hf : fHash_add x1 value_0 = some out) : Met l yX2_add wsX2_add ({ frames := 0, cells := 0, slots := 0, locals := 0 } : Room) (va_Pc [.ref a_0, .long x1] (wlP (dC, dI) (wlT cI cZ cJ cQ) (wl_fHash_add cI cZ cJ cQ a_0 value_0) sz)) (va_Qv (fun (_ : Unit) => True) (wlQ (dC, dI) (va_A (wl_fHash_add cI cZ cJ cQ a_0 value_0) sz) (wl_fHash_add cI cZ cJ cQ a_0 out)) (va_A (wl_fHash_add cI cZ cJ cQ a_0 value_0) sz)) 0 0 (va_A (wl_fHash_add cI cZ cJ cQ a_0 value_0) sz) := by
  refine wh_ofWv (lv := [(0, .ref a_0), (1, .long x1)]) RX2 (by decide) rfl rfl (Nat.le_of_ble_eq_true rfl) rfl ?_
  intro p e s m below meth c A QQ hx hb hml hown hts hP hK hN hD hA hret ls hl
  have hS : va_S A s.heap s.heap [] := va_S.rf
  have hiX2 : ∀ w ∈ wsX20, w ∈ wsX2_add := (fun _ h => List.mem_cons_of_mem _ (List.mem_append_right _ (h)))
  unfold fHash_add at hf
  refine lv_aload_n hx hb dX2_add_0 rfl (lv_at hl 0 rfl) ?_
  refine lv_ldc2 hx hb hown (hts (.constantLong RX2 15 (31)) (List.mem_cons_of_mem _ (List.mem_append_left _ (List.mem_of_getElem? (i := 0) rfl)))) dX2_add_1 ?_
  refine lv_aload_n hx hb dX2_add_4 rfl (lv_at hl 0 rfl) ?_
  refine va_get (D := (dC, dI)) (ci := 2) (C := RX2) (T := TX2) (N := 1) hx hb hts hiX2 hown hK hP 0 rfl rfl 0 (by decide) (hts (.fieldLink RX2 9 "PaddockFields$Hash" "value" "J") (List.mem_cons_of_mem _ (List.mem_append_left _ (List.mem_of_getElem? (i := 1) rfl)))) (fun _ h9 => h9) rfl dX2_add_5 ?_
  refine lv_lmul hx hb dX2_add_8 ?_
  refine lv_lload_n hx hb dX2_add_9 rfl (lv_at hl 1 rfl) ?_
  refine lv_ladd hx hb dX2_add_10 ?_
  refine wh_put (D := (dC, dI)) (ci := 2) (C := RX2) (T := TX2) (N := 1) (ty := .long) (v := .long (((31 : Int64) * value_0) + x1)) (ws' := (wl_fHash_add cI cZ cJ cQ a_0 (((31 : Int64) * value_0) + x1))) hx hb hts hiX2 tyX2 tyX2_ok nmX2 hown hK hP hD hS 0 rfl rfl 0 (by decide) (hts (.fieldLink RX2 9 "PaddockFields$Hash" "value" "J") (List.mem_cons_of_mem _ (List.mem_append_left _ (List.mem_of_getElem? (i := 1) rfl)))) (fun _ h9 => h9) rfl rfl rfl rfl (Nat.le_of_ble_eq_true rfl) rfl dX2_add_11 (fun H locs hP hD hS => ?_)
  obtain rfl := Option.some.inj hf
  exact hret _ _ _ _ hP hD hS dX2_add_14
set_option maxHeartbeats 4000000 in
set_option maxRecDepth 100000 in
theorem c_fHash_bitsOf (l : Launch) (dC : Nat → ClassId) (dI : Nat → Nat → Nat) (cI cZ cJ cQ : ClassId) (sz : Nat) {F : Nat} {x0 : UInt64} {out : Int64} (hf : fHash_bitsOf F x0 = some out) : Met l yX2_bitsOf wsX2_bitsOf ({ frames := 0, cells := 0, slots := 0, locals := 0 } : Room) (va_Pc [.double x0] (wlP (dC, dI) (wlT cI cZ cJ cQ) (wl_fHash_bitsOf cI cZ cJ cQ) sz)) (va_Ql (fun (v : Int64) (_ : Unit) => v = out) (wlQ (dC, dI) (va_A (wl_fHash_bitsOf cI cZ cJ cQ) sz) (wl_fHash_bitsOf cI cZ cJ cQ)) (va_A (wl_fHash_bitsOf cI cZ cJ cQ) sz)) 0 0 (va_A (wl_fHash_bitsOf cI cZ cJ cQ) sz) := by
  refine wh_ofWl (lv := [(0, .double x0)]) RX2 (by decide) rfl rfl (Nat.le_of_ble_eq_true rfl) rfl ?_
  intro p e s m below meth c A QQ hx hb hml hown hts hP hK hN hD hA hret ls hl
  have hS : va_S A s.heap s.heap [] := va_S.rf
  unfold fHash_bitsOf at hf
  refine lv_dload_n hx hb dX2_bitsOf_0 rfl (lv_at hl 0 rfl) ?_
  refine lv_dconst0 hx hb dX2_bitsOf_1 ?_
  refine lv_dcmp hx hb dX2_bitsOf_2 ?_
  refine lv_if_gt (tgt := 8) hx hb dX2_bitsOf_3 (by decide) (fun cc => ?_) (fun cc => ?_)
  · replace hf := hf_pos cc hf
    refine lv_dload_n hx hb dX2_bitsOf_8 rfl (lv_at hl 0 rfl) ?_
    refine lv_dstore_n (lv' := [(2, .double x0), (0, .double x0)]) hx hb dX2_bitsOf_9 rfl hl (by decide) rfl (fun ls hl => ?_)
    refine lv_ldc2 hx hb hown (hts (.constantLong RX2 25 (1023)) (List.mem_cons_of_mem _ (List.mem_of_getElem? (i := 0) rfl))) dX2_bitsOf_10 ?_
    refine lv_lstore (lv' := [(4, .long (1023 : Int64)), (2, .double x0), (0, .double x0)]) hx hb dX2_bitsOf_13 hl (by decide) rfl (fun ls hl => ?_)
    refine lv_iconst (v := 0) hx hb dX2_bitsOf_15 (by decide) ?_
    refine lv_istore (lv' := [(6, .int (0 : Int32)), (4, .long (1023 : Int64)), (2, .double x0), (0, .double x0)]) hx hb dX2_bitsOf_16 hl (by decide) rfl (fun ls hl => ?_)
    obtain ⟨r2, h_r2, hf⟩ := hf_bind hf
    have hE_1 : ∀ (H : Heap) (locs : List Loc) (ls : Array Slot), lv_has ls 7 [(2, .double r2.1), (4, .long r2.2.1)] → va_P (dC, dI) vwCl (wl_fHash_bitsOf cI cZ cJ cQ) H → va_D A (wl_fHash_bitsOf cI cZ cJ cQ) → va_S A s.heap H locs → W p l e ({ frames := 0, cells := 0, slots := 0, locals := 0 } : Room) s m [.double x0].toArray below meth c H locs 0 0 QQ (F0 m 52 ls []) := by
      intro H locs ls hl hP hD hS
      refine lv_iconst (v := 0) hx hb dX2_bitsOf_52 (by decide) ?_
      refine lv_istore (lv' := [(6, .int (0 : Int32)), (2, .double r2.1), (4, .long r2.2.1)]) hx hb dX2_bitsOf_53 hl (by decide) rfl (fun ls hl => ?_)
      obtain ⟨r4, h_r4, hf⟩ := hf_bind hf
      have hE_2 : ∀ (H : Heap) (locs : List Loc) (ls : Array Slot), lv_has ls 7 [(2, .double r4.1), (4, .long r4.2.1)] → va_P (dC, dI) vwCl (wl_fHash_bitsOf cI cZ cJ cQ) H → va_D A (wl_fHash_bitsOf cI cZ cJ cQ) → va_S A s.heap H locs → W p l e ({ frames := 0, cells := 0, slots := 0, locals := 0 } : Room) s m [.double x0].toArray below meth c H locs 0 0 QQ (F0 m 87 ls []) := by
        intro H locs ls hl hP hD hS
        refine lv_lload hx hb dX2_bitsOf_87 (lv_at hl 1 rfl) ?_
        refine lv_bipush (v := 52) hx hb dX2_bitsOf_89 (by decide) ?_
        refine lv_lshl hx hb dX2_bitsOf_91 rfl ?_
        refine lv_dload_n hx hb dX2_bitsOf_92 rfl (lv_at hl 0 rfl) ?_
        refine lv_dconst1 hx hb dX2_bitsOf_93 ?_
        obtain ⟨v5, h_v5, hf⟩ := hf_bind hf
        refine wh_dsub hx hb h_v5 dX2_bitsOf_94 ?_
        refine lv_ldc2d hx hb hown (hts (.constantDouble RX2 29 (4841369599423283200)) (List.mem_cons_of_mem _ (List.mem_of_getElem? (i := 2) rfl))) dX2_bitsOf_95 ?_
        obtain ⟨v6, h_v6, hf⟩ := hf_bind hf
        refine wh_dmul hx hb h_v6 dX2_bitsOf_98 ?_
        refine lv_d2l hx hb dX2_bitsOf_99 ?_
        refine lv_lor hx hb dX2_bitsOf_100 ?_
        obtain rfl := Option.some.inj hf
        exact hret _ _ _ _ hP hD hS dX2_bitsOf_101
      have hL_3 : ∀ (N : Nat) (l2_4 : UInt64) (l4_5 : Int64) (l6_6 : Int32), fHash_bitsOf_L55 F N l2_4 l4_5 l6_6 = some r4 → ∀ (H : Heap) (locs : List Loc) (ls : Array Slot), lv_has ls 7 [(2, .double l2_4), (4, .long l4_5), (6, .int l6_6)] → va_P (dC, dI) vwCl (wl_fHash_bitsOf cI cZ cJ cQ) H → va_D A (wl_fHash_bitsOf cI cZ cJ cQ) → va_S A s.heap H locs → W p l e ({ frames := 0, cells := 0, slots := 0, locals := 0 } : Room) s m [.double x0].toArray below meth c H locs 0 0 QQ (F0 m 55 ls []) := by
        intro N
        induction N with
        | zero => intro l2_4 l4_5 l6_6 hf; exact nomatch (show none = some _ from hf)
        | succ N ih =>
          intro l2_4 l4_5 l6_6 hf H locs ls hl hP hD hS
          rw [fHash_bitsOf_L55] at hf
          refine lv_iload hx hb dX2_bitsOf_55 (lv_at hl 2 rfl) ?_
          refine lv_sipush (v := 1100) hx hb dX2_bitsOf_57 (by decide) ?_
          refine lv_icmp_ge (tgt := 87) hx hb dX2_bitsOf_60 (by decide) (fun cc => ?_) (fun cc => ?_)
          · replace hf := hf_pos cc hf
            obtain rfl := Option.some.inj hf
            exact hE_2 _ _ _ (lv_sub hl [0, 1] rfl) hP hD hS
          · replace hf := hf_neg cc hf
            refine lv_dload_n hx hb dX2_bitsOf_63 rfl (lv_at hl 0 rfl) ?_
            refine lv_dconst1 hx hb dX2_bitsOf_64 ?_
            refine lv_dcmp hx hb dX2_bitsOf_65 ?_
            refine lv_if_ge (tgt := 87) hx hb dX2_bitsOf_66 (by decide) (fun cc => ?_) (fun cc => ?_)
            · replace hf := hf_pos cc hf
              obtain rfl := Option.some.inj hf
              exact hE_2 _ _ _ (lv_sub hl [0, 1] rfl) hP hD hS
            · replace hf := hf_neg cc hf
              refine lv_dload_n hx hb dX2_bitsOf_69 rfl (lv_at hl 0 rfl) ?_
              refine lv_ldc2d hx hb hown (hts (.constantDouble RX2 27 (4611686018427387904)) (List.mem_cons_of_mem _ (List.mem_of_getElem? (i := 1) rfl))) dX2_bitsOf_70 ?_
              obtain ⟨v3, h_v3, hf⟩ := hf_bind hf
              refine wh_dmul hx hb h_v3 dX2_bitsOf_73 ?_
              refine lv_dstore_n (lv' := [(2, .double v3), (4, .long l4_5), (6, .int l6_6)]) hx hb dX2_bitsOf_74 rfl hl (by decide) rfl (fun ls hl => ?_)
              refine lv_lload hx hb dX2_bitsOf_75 (lv_at hl 1 rfl) ?_
              refine lv_lconst (v := 1) hx hb dX2_bitsOf_77 (by decide) ?_
              refine lv_lsub hx hb dX2_bitsOf_78 ?_
              refine lv_lstore (lv' := [(4, .long (l4_5 - (1 : Int64))), (2, .double v3), (6, .int l6_6)]) hx hb dX2_bitsOf_79 hl (by decide) rfl (fun ls hl => ?_)
              refine lv_iinc (v := (l6_6 + (1 : Int32))) (lv' := [(6, .int (l6_6 + (1 : Int32))), (4, .long (l4_5 - (1 : Int64))), (2, .double v3)]) hx hb dX2_bitsOf_81 hl (k := 2) rfl rfl (by decide) rfl (fun ls hl => ?_)
              refine lv_goto (tgt := 55) hx hb dX2_bitsOf_84 (by decide) ?_
              exact ih _ _ _ hf _ _ _ (lv_sub hl [2, 1, 0] rfl) hP hD hS
      exact hL_3 _ _ _ _ h_r4 _ _ _ (lv_sub hl [1, 2, 0] rfl) hP hD hS
    have hL_7 : ∀ (N : Nat) (l2_8 : UInt64) (l4_9 : Int64) (l6_10 : Int32), fHash_bitsOf_L18 F N l2_8 l4_9 l6_10 = some r2 → ∀ (H : Heap) (locs : List Loc) (ls : Array Slot), lv_has ls 7 [(2, .double l2_8), (4, .long l4_9), (6, .int l6_10)] → va_P (dC, dI) vwCl (wl_fHash_bitsOf cI cZ cJ cQ) H → va_D A (wl_fHash_bitsOf cI cZ cJ cQ) → va_S A s.heap H locs → W p l e ({ frames := 0, cells := 0, slots := 0, locals := 0 } : Room) s m [.double x0].toArray below meth c H locs 0 0 QQ (F0 m 18 ls []) := by
      intro N
      induction N with
      | zero => intro l2_8 l4_9 l6_10 hf; exact nomatch (show none = some _ from hf)
      | succ N ih =>
        intro l2_8 l4_9 l6_10 hf H locs ls hl hP hD hS
        rw [fHash_bitsOf_L18] at hf
        refine lv_iload hx hb dX2_bitsOf_18 (lv_at hl 2 rfl) ?_
        refine lv_sipush (v := 1100) hx hb dX2_bitsOf_20 (by decide) ?_
        refine lv_icmp_ge (tgt := 52) hx hb dX2_bitsOf_23 (by decide) (fun cc => ?_) (fun cc => ?_)
        · replace hf := hf_pos cc hf
          obtain rfl := Option.some.inj hf
          exact hE_1 _ _ _ (lv_sub hl [0, 1] rfl) hP hD hS
        · replace hf := hf_neg cc hf
          refine lv_dload_n hx hb dX2_bitsOf_26 rfl (lv_at hl 0 rfl) ?_
          refine lv_ldc2d hx hb hown (hts (.constantDouble RX2 27 (4611686018427387904)) (List.mem_cons_of_mem _ (List.mem_of_getElem? (i := 1) rfl))) dX2_bitsOf_27 ?_
          refine lv_dcmp hx hb dX2_bitsOf_30 ?_
          refine lv_if_lt (tgt := 52) hx hb dX2_bitsOf_31 (by decide) (fun cc => ?_) (fun cc => ?_)
          · replace hf := hf_pos cc hf
            obtain rfl := Option.some.inj hf
            exact hE_1 _ _ _ (lv_sub hl [0, 1] rfl) hP hD hS
          · replace hf := hf_neg cc hf
            refine lv_dload_n hx hb dX2_bitsOf_34 rfl (lv_at hl 0 rfl) ?_
            refine lv_ldc2d hx hb hown (hts (.constantDouble RX2 27 (4611686018427387904)) (List.mem_cons_of_mem _ (List.mem_of_getElem? (i := 1) rfl))) dX2_bitsOf_35 ?_
            obtain ⟨v1, h_v1, hf⟩ := hf_bind hf
            refine wh_ddiv hx hb h_v1 dX2_bitsOf_38 ?_
            refine lv_dstore_n (lv' := [(2, .double v1), (4, .long l4_9), (6, .int l6_10)]) hx hb dX2_bitsOf_39 rfl hl (by decide) rfl (fun ls hl => ?_)
            refine lv_lload hx hb dX2_bitsOf_40 (lv_at hl 1 rfl) ?_
            refine lv_lconst (v := 1) hx hb dX2_bitsOf_42 (by decide) ?_
            refine lv_ladd hx hb dX2_bitsOf_43 ?_
            refine lv_lstore (lv' := [(4, .long (l4_9 + (1 : Int64))), (2, .double v1), (6, .int l6_10)]) hx hb dX2_bitsOf_44 hl (by decide) rfl (fun ls hl => ?_)
            refine lv_iinc (v := (l6_10 + (1 : Int32))) (lv' := [(6, .int (l6_10 + (1 : Int32))), (4, .long (l4_9 + (1 : Int64))), (2, .double v1)]) hx hb dX2_bitsOf_46 hl (k := 2) rfl rfl (by decide) rfl (fun ls hl => ?_)
            refine lv_goto (tgt := 18) hx hb dX2_bitsOf_49 (by decide) ?_
            exact ih _ _ _ hf _ _ _ (lv_sub hl [2, 1, 0] rfl) hP hD hS
    exact hL_7 _ _ _ _ h_r2 _ _ _ (lv_sub hl [2, 1, 0] rfl) hP hD hS
  · replace hf := hf_neg cc hf
    refine lv_lconst (v := 0) hx hb dX2_bitsOf_6 (by decide) ?_
    obtain rfl := Option.some.inj hf
    exact hret _ _ _ _ hP hD hS dX2_bitsOf_7
set_option maxHeartbeats 4000000 in
set_option maxRecDepth 100000 in
theorem c_fHash_addBits (l : Launch) (dC : Nat → ClassId) (dI : Nat → Nat → Nat) (cI cZ cJ cQ : ClassId) (a_0 : Nat) (sz : Nat) {F : Nat} {x1 : UInt64} {value_0 : Int64} {out : Int64} (hf : fHash_addBits F x1 value_0 = some out) : Met l yX2_addBits wsX2_addBits ({ frames := 1, cells := 0, slots := 0, locals := 26 } : Room) (va_Pc [.ref a_0, .double x1] (wlP (dC, dI) (wlT cI cZ cJ cQ) (wl_fHash_addBits cI cZ cJ cQ a_0 value_0) sz)) (va_Qv (fun (_ : Unit) => True) (wlQ (dC, dI) (va_A (wl_fHash_addBits cI cZ cJ cQ a_0 value_0) sz) (wl_fHash_addBits cI cZ cJ cQ a_0 out)) (va_A (wl_fHash_addBits cI cZ cJ cQ a_0 value_0) sz)) 0 0 (va_A (wl_fHash_addBits cI cZ cJ cQ a_0 value_0) sz) := by
  refine wh_ofWv (lv := [(0, .ref a_0), (1, .double x1)]) RX2 (by decide) rfl rfl (Nat.le_of_ble_eq_true rfl) rfl ?_
  intro p e s m below meth c A QQ hx hb hml hown hts hP hK hN hD hA hret ls hl
  have hS : va_S A s.heap s.heap [] := va_S.rf
  unfold fHash_addBits at hf
  refine lv_aload_n hx hb dX2_addBits_0 rfl (lv_at hl 0 rfl) ?_
  refine lv_dload_n hx hb dX2_addBits_1 rfl (lv_at hl 1 rfl) ?_
  obtain ⟨s1, h_s1, hf⟩ := hf_bind hf
  refine wh_calll (D := (dC, dI)) (ws' := (wl_fHash_addBits cI cZ cJ cQ a_0 value_0)) (va_runS (As := [.double x1]) (rest := [.ref a_0]) ⟨hx, hb, hml, hown, hts⟩ (c_fHash_bitsOf l dC dI cI cZ cJ cQ _ h_s1) (va_cwS 1 hts gX2_addBits_X2_bitsOf rfl rfl rfl (by decide +kernel) ⟨Nat.le_of_ble_eq_true rfl, Nat.le_of_ble_eq_true rfl⟩) (wh_preS hK hN hP hD [] rfl rfl) rfl rfl hl.1 rfl (lv_room (Nat.le_of_ble_eq_true rfl)) dX2_addBits_2 ⟨Nat.le_refl _, Nat.le_refl _⟩) hP hD hS hA [] [0] [0] rfl rfl rfl rfl (fun H locs hP hD hS => ?_)
  obtain ⟨s2, h_s2, hf⟩ := hf_bind hf
  refine wh_callv (D := (dC, dI)) (ws' := (wl_fHash_addBits cI cZ cJ cQ a_0 s2)) (va_runV (As := [.long s1]) (rest := []) ⟨hx, hb, hml, hown, hts⟩ (c_fHash_add l dC dI cI cZ cJ cQ a_0 _ h_s2) (cwV 1 hts gX2_addBits_X2_add rfl rfl rfl (by decide +kernel) ⟨Nat.le_of_ble_eq_true rfl, Nat.le_of_ble_eq_true rfl⟩) (wh_preV (C := RX2) (T := TX2) (N := 1) hK hN hP hD [0] rfl rfl 2 0 rfl rfl) rfl rfl hl.1 rfl (lv_room (Nat.le_of_ble_eq_true rfl)) dX2_addBits_5 ⟨Nat.le_refl _, Nat.le_refl _⟩) hP hD hS hA [0] [] [0] rfl rfl rfl rfl (fun H locs hP hD hS => ?_)
  obtain rfl := Option.some.inj hf
  exact hret _ _ _ _ hP hD hS dX2_addBits_8
set_option maxHeartbeats 4000000 in
set_option maxRecDepth 100000 in
theorem c_fCellSearch_placeChosen (l : Launch) (dC : Nat → ClassId) (dI : Nat → Nat → Nat) (cI cZ cJ cQ : ClassId) (a_0 a_0chosen a_0list a_0listfirst a_0listlast a_0way a_0wayinField a_0wayfirst a_0waylast a_0listeveryFirst a_0listeveryLast a_0listeveryCells a_0listcells a_0listowner a_0waynumber : Nat) (limit_0 : Int32) (ways_0 : Int32) (sz : Nat) {F : Nat} {x1 : Int32} {chosen_0 : Nat → Int32} {count_0list : Int32} {first_0list : Nat → Int32} {last_0list : Nat → Int32} {inField_0way : Nat → Int32} {first_0way : Nat → Int32} {last_0way : Nat → Int32} {out : (Nat → Int32) × (Nat → Int32) × (Nat → Int32)} (hf : fCellSearch_placeChosen F x1 chosen_0 count_0list first_0list last_0list inField_0way first_0way last_0way = some out) : Met l yX1_placeChosen wsX1_placeChosen ({ frames := 2, cells := 0, slots := 0, locals := 46 } : Room) (va_Pc [.ref a_0, .int x1] (wlP (dC, dI) (wlT cI cZ cJ cQ) (wl_fCellSearch_placeChosen cI cZ cJ cQ a_0 a_0chosen a_0list a_0listfirst a_0listlast a_0way a_0wayinField a_0wayfirst a_0waylast a_0listeveryFirst a_0listeveryLast a_0listeveryCells a_0listcells a_0listowner a_0waynumber limit_0 ways_0 chosen_0 count_0list first_0list last_0list inField_0way first_0way last_0way) sz)) (va_Qv (fun (_ : Unit) => True) (wlQ (dC, dI) (va_A (wl_fCellSearch_placeChosen cI cZ cJ cQ a_0 a_0chosen a_0list a_0listfirst a_0listlast a_0way a_0wayinField a_0wayfirst a_0waylast a_0listeveryFirst a_0listeveryLast a_0listeveryCells a_0listcells a_0listowner a_0waynumber limit_0 ways_0 chosen_0 count_0list first_0list last_0list inField_0way first_0way last_0way) sz) (wl_fCellSearch_placeChosen cI cZ cJ cQ a_0 a_0chosen a_0list a_0listfirst a_0listlast a_0way a_0wayinField a_0wayfirst a_0waylast a_0listeveryFirst a_0listeveryLast a_0listeveryCells a_0listcells a_0listowner a_0waynumber limit_0 ways_0 chosen_0 count_0list first_0list last_0list out.1 out.2.1 out.2.2)) (va_A (wl_fCellSearch_placeChosen cI cZ cJ cQ a_0 a_0chosen a_0list a_0listfirst a_0listlast a_0way a_0wayinField a_0wayfirst a_0waylast a_0listeveryFirst a_0listeveryLast a_0listeveryCells a_0listcells a_0listowner a_0waynumber limit_0 ways_0 chosen_0 count_0list first_0list last_0list inField_0way first_0way last_0way) sz)) 0 0 (va_A (wl_fCellSearch_placeChosen cI cZ cJ cQ a_0 a_0chosen a_0list a_0listfirst a_0listlast a_0way a_0wayinField a_0wayfirst a_0waylast a_0listeveryFirst a_0listeveryLast a_0listeveryCells a_0listcells a_0listowner a_0waynumber limit_0 ways_0 chosen_0 count_0list first_0list last_0list inField_0way first_0way last_0way) sz) := by
  refine wh_ofWv (lv := [(0, .ref a_0), (1, .int x1)]) RX1 (by decide) rfl rfl (Nat.le_of_ble_eq_true rfl) rfl ?_
  intro p e s m below meth c A QQ hx hb hml hown hts hP hK hN hD hA hret ls hl
  have hS : va_S A s.heap s.heap [] := va_S.rf
  have hiX1 : ∀ w ∈ wsX10, w ∈ wsX1_placeChosen := (fun _ h => List.mem_cons_of_mem _ (List.mem_append_left _ (List.mem_append_left _ (List.mem_append_right _ (h)))))
  unfold fCellSearch_placeChosen at hf
  refine lv_iconst (v := 0) hx hb dX1_placeChosen_0 (by decide) ?_
  refine lv_istore_n (lv' := [(2, .int (0 : Int32)), (0, .ref a_0), (1, .int x1)]) hx hb dX1_placeChosen_1 rfl hl (by decide) rfl (fun ls hl => ?_)
  obtain ⟨r6, h_r6, hf⟩ := hf_bind hf
  have hE_1 : ∀ (H : Heap) (locs : List Loc) (ls : Array Slot), lv_has ls 3 [] → va_P (dC, dI) vwCl (wl_fCellSearch_placeChosen cI cZ cJ cQ a_0 a_0chosen a_0list a_0listfirst a_0listlast a_0way a_0wayinField a_0wayfirst a_0waylast a_0listeveryFirst a_0listeveryLast a_0listeveryCells a_0listcells a_0listowner a_0waynumber limit_0 ways_0 chosen_0 count_0list first_0list last_0list r6.2.1 r6.2.2.1 r6.2.2.2) H → va_D A (wl_fCellSearch_placeChosen cI cZ cJ cQ a_0 a_0chosen a_0list a_0listfirst a_0listlast a_0way a_0wayinField a_0wayfirst a_0waylast a_0listeveryFirst a_0listeveryLast a_0listeveryCells a_0listcells a_0listowner a_0waynumber limit_0 ways_0 chosen_0 count_0list first_0list last_0list r6.2.1 r6.2.2.1 r6.2.2.2) → va_S A s.heap H locs → W p l e ({ frames := 2, cells := 0, slots := 0, locals := 46 } : Room) s m [.ref a_0, .int x1].toArray below meth c H locs 0 0 QQ (F0 m 52 ls []) := by
    intro H locs ls hl hP hD hS
    obtain rfl := Option.some.inj hf
    exact hret _ _ _ _ hP hD hS dX1_placeChosen_52
  have hL_2 : ∀ (N : Nat) (l2_3 : Int32) (inField_0way_4 : Nat → Int32) (first_0way_5 : Nat → Int32) (last_0way_6 : Nat → Int32), fCellSearch_placeChosen_L2 F x1 chosen_0 count_0list first_0list last_0list N l2_3 inField_0way_4 first_0way_5 last_0way_6 = some r6 → ∀ (H : Heap) (locs : List Loc) (ls : Array Slot), lv_has ls 3 [(0, .ref a_0), (1, .int x1), (2, .int l2_3)] → va_P (dC, dI) vwCl (wl_fCellSearch_placeChosen cI cZ cJ cQ a_0 a_0chosen a_0list a_0listfirst a_0listlast a_0way a_0wayinField a_0wayfirst a_0waylast a_0listeveryFirst a_0listeveryLast a_0listeveryCells a_0listcells a_0listowner a_0waynumber limit_0 ways_0 chosen_0 count_0list first_0list last_0list inField_0way_4 first_0way_5 last_0way_6) H → va_D A (wl_fCellSearch_placeChosen cI cZ cJ cQ a_0 a_0chosen a_0list a_0listfirst a_0listlast a_0way a_0wayinField a_0wayfirst a_0waylast a_0listeveryFirst a_0listeveryLast a_0listeveryCells a_0listcells a_0listowner a_0waynumber limit_0 ways_0 chosen_0 count_0list first_0list last_0list inField_0way_4 first_0way_5 last_0way_6) → va_S A s.heap H locs → W p l e ({ frames := 2, cells := 0, slots := 0, locals := 46 } : Room) s m [.ref a_0, .int x1].toArray below meth c H locs 0 0 QQ (F0 m 2 ls []) := by
    intro N
    induction N with
    | zero => intro l2_3 inField_0way_4 first_0way_5 last_0way_6 hf; exact nomatch (show none = some _ from hf)
    | succ N ih =>
      intro l2_3 inField_0way_4 first_0way_5 last_0way_6 hf H locs ls hl hP hD hS
      rw [fCellSearch_placeChosen_L2] at hf
      refine lv_iload_n hx hb dX1_placeChosen_2 rfl (lv_at hl 2 rfl) ?_
      refine lv_iload_n hx hb dX1_placeChosen_3 rfl (lv_at hl 1 rfl) ?_
      refine lv_icmp_ge (tgt := 52) hx hb dX1_placeChosen_4 (by decide) (fun cc => ?_) (fun cc => ?_)
      · replace hf := hf_pos cc hf
        obtain rfl := Option.some.inj hf
        exact hE_1 _ _ _ (lv_sub hl [] rfl) hP hD hS
      · replace hf := hf_neg cc hf
        refine lv_iload_n hx hb dX1_placeChosen_7 rfl (lv_at hl 2 rfl) ?_
        refine lv_bipush (v := 42) hx hb dX1_placeChosen_8 (by decide) ?_
        refine lv_icmp_ge (tgt := 52) hx hb dX1_placeChosen_10 (by decide) (fun cc => ?_) (fun cc => ?_)
        · replace hf := hf_pos cc hf
          obtain rfl := Option.some.inj hf
          exact hE_1 _ _ _ (lv_sub hl [] rfl) hP hD hS
        · replace hf := hf_neg cc hf
          refine lv_aload_n hx hb dX1_placeChosen_13 rfl (lv_at hl 0 rfl) ?_
          refine va_get (D := (dC, dI)) (ci := 1) (C := RX1) (T := TX1) (N := 5) hx hb hts hiX1 hown hK hP 0 rfl rfl 2 (by decide) (hts (.fieldLink RX1 22 "PaddockFields$CellSearch" "way" "LPaddockFields$Board;") (List.mem_cons_of_mem _ (List.mem_append_left _ (List.mem_append_left _ (List.mem_append_left _ (List.mem_append_left _ (List.mem_of_getElem? (i := 0) rfl))))))) (fun _ h9 => h9) rfl dX1_placeChosen_14 ?_
          refine lv_aload_n hx hb dX1_placeChosen_17 rfl (lv_at hl 0 rfl) ?_
          refine va_get (D := (dC, dI)) (ci := 1) (C := RX1) (T := TX1) (N := 5) hx hb hts hiX1 hown hK hP 0 rfl rfl 0 (by decide) (hts (.fieldLink RX1 9 "PaddockFields$CellSearch" "list" "LPaddockFields$Rectangles;") (List.mem_cons_of_mem _ (List.mem_append_left _ (List.mem_append_left _ (List.mem_append_left _ (List.mem_append_left _ (List.mem_of_getElem? (i := 1) rfl))))))) (fun _ h9 => h9) rfl dX1_placeChosen_18 ?_
          refine lv_aload_n hx hb dX1_placeChosen_21 rfl (lv_at hl 0 rfl) ?_
          refine va_get (D := (dC, dI)) (ci := 1) (C := RX1) (T := TX1) (N := 5) hx hb hts hiX1 hown hK hP 0 rfl rfl 1 (by decide) (hts (.fieldLink RX1 15 "PaddockFields$CellSearch" "chosen" "[I") (List.mem_cons_of_mem _ (List.mem_append_left _ (List.mem_append_left _ (List.mem_append_left _ (List.mem_append_left _ (List.mem_of_getElem? (i := 2) rfl))))))) (fun _ h9 => h9) rfl dX1_placeChosen_22 ?_
          refine lv_iload_n hx hb dX1_placeChosen_25 rfl (lv_at hl 2 rfl) ?_
          obtain ⟨v1, h_v1, hf⟩ := hf_bind hf
          refine wh_ldI (D := (dC, dI)) hx hb hK hP 1 0 rfl rfl h_v1 dX1_placeChosen_26 ?_
          obtain ⟨s2, h_s2, hf⟩ := hf_bind hf
          refine wh_calli (D := (dC, dI)) (ws' := (wl_fCellSearch_placeChosen cI cZ cJ cQ a_0 a_0chosen a_0list a_0listfirst a_0listlast a_0way a_0wayinField a_0wayfirst a_0waylast a_0listeveryFirst a_0listeveryLast a_0listeveryCells a_0listcells a_0listowner a_0waynumber limit_0 ways_0 chosen_0 count_0list first_0list last_0list inField_0way_4 first_0way_5 last_0way_6)) (va_runV (As := [.int v1]) (rest := [.ref a_0way]) ⟨hx, hb, hml, hown, hts⟩ (c_fRectangles_firstAt l dC dI cI cZ cJ cQ a_0list a_0listfirst a_0listeveryFirst a_0listeveryLast a_0listeveryCells a_0listlast a_0listcells a_0listowner _ h_s2) (cwV 1 hts gX1_placeChosen_X7_firstAt rfl rfl rfl (by decide +kernel) ⟨Nat.le_of_ble_eq_true rfl, Nat.le_of_ble_eq_true rfl⟩) (wh_preV (C := RX7) (T := TX7) (N := 8) hK hN hP hD [2, 3] rfl rfl 7 0 rfl rfl) rfl rfl hl.1 rfl (lv_room (Nat.le_of_ble_eq_true rfl)) dX1_placeChosen_27 ⟨Nat.le_refl _, Nat.le_refl _⟩) hP hD hS hA [2, 3] [0, 1, 4, 5, 6, 7, 8] [0, 1, 7, 8, 2, 3, 4, 5, 6] rfl rfl rfl rfl (fun H locs hP hD hS => ?_)
          refine lv_aload_n hx hb dX1_placeChosen_30 rfl (lv_at hl 0 rfl) ?_
          refine va_get (D := (dC, dI)) (ci := 1) (C := RX1) (T := TX1) (N := 5) hx hb hts hiX1 hown hK hP 0 rfl rfl 0 (by decide) (hts (.fieldLink RX1 9 "PaddockFields$CellSearch" "list" "LPaddockFields$Rectangles;") (List.mem_cons_of_mem _ (List.mem_append_left _ (List.mem_append_left _ (List.mem_append_left _ (List.mem_append_left _ (List.mem_of_getElem? (i := 1) rfl))))))) (fun _ h9 => h9) rfl dX1_placeChosen_31 ?_
          refine lv_aload_n hx hb dX1_placeChosen_34 rfl (lv_at hl 0 rfl) ?_
          refine va_get (D := (dC, dI)) (ci := 1) (C := RX1) (T := TX1) (N := 5) hx hb hts hiX1 hown hK hP 0 rfl rfl 1 (by decide) (hts (.fieldLink RX1 15 "PaddockFields$CellSearch" "chosen" "[I") (List.mem_cons_of_mem _ (List.mem_append_left _ (List.mem_append_left _ (List.mem_append_left _ (List.mem_append_left _ (List.mem_of_getElem? (i := 2) rfl))))))) (fun _ h9 => h9) rfl dX1_placeChosen_35 ?_
          refine lv_iload_n hx hb dX1_placeChosen_38 rfl (lv_at hl 2 rfl) ?_
          obtain ⟨v3, h_v3, hf⟩ := hf_bind hf
          refine wh_ldI (D := (dC, dI)) hx hb hK hP 1 0 rfl rfl h_v3 dX1_placeChosen_39 ?_
          obtain ⟨s4, h_s4, hf⟩ := hf_bind hf
          refine wh_calli (D := (dC, dI)) (ws' := (wl_fCellSearch_placeChosen cI cZ cJ cQ a_0 a_0chosen a_0list a_0listfirst a_0listlast a_0way a_0wayinField a_0wayfirst a_0waylast a_0listeveryFirst a_0listeveryLast a_0listeveryCells a_0listcells a_0listowner a_0waynumber limit_0 ways_0 chosen_0 count_0list first_0list last_0list inField_0way_4 first_0way_5 last_0way_6)) (va_runV (As := [.int v3]) (rest := [.int s2, .ref a_0way]) ⟨hx, hb, hml, hown, hts⟩ (c_fRectangles_lastAt l dC dI cI cZ cJ cQ a_0list a_0listlast a_0listeveryFirst a_0listeveryLast a_0listeveryCells a_0listfirst a_0listcells a_0listowner _ h_s4) (cwV 1 hts gX1_placeChosen_X7_lastAt rfl rfl rfl (by decide +kernel) ⟨Nat.le_of_ble_eq_true rfl, Nat.le_of_ble_eq_true rfl⟩) (wh_preV (C := RX7) (T := TX7) (N := 8) hK hN hP hD [2, 4] rfl rfl 7 0 rfl rfl) rfl rfl hl.1 rfl (lv_room (Nat.le_of_ble_eq_true rfl)) dX1_placeChosen_40 ⟨Nat.le_refl _, Nat.le_refl _⟩) hP hD hS hA [2, 4] [0, 1, 3, 5, 6, 7, 8] [0, 1, 7, 2, 8, 3, 4, 5, 6] rfl rfl rfl rfl (fun H locs hP hD hS => ?_)
          obtain ⟨s5, h_s5, hf⟩ := hf_bind hf
          refine wh_callv (D := (dC, dI)) (ws' := (wl_fCellSearch_placeChosen cI cZ cJ cQ a_0 a_0chosen a_0list a_0listfirst a_0listlast a_0way a_0wayinField a_0wayfirst a_0waylast a_0listeveryFirst a_0listeveryLast a_0listeveryCells a_0listcells a_0listowner a_0waynumber limit_0 ways_0 chosen_0 count_0list first_0list last_0list s5.1 s5.2.1 s5.2.2)) (va_runV (As := [.int s2, .int s4]) (rest := []) ⟨hx, hb, hml, hown, hts⟩ (c_fBoard_place l dC dI cI cZ cJ cQ a_0way a_0wayinField a_0wayfirst a_0waylast a_0waynumber _ h_s5) (cwV 2 hts gX1_placeChosen_X0_place rfl rfl rfl (by decide +kernel) ⟨Nat.le_of_ble_eq_true rfl, Nat.le_of_ble_eq_true rfl⟩) (wh_preV (C := RX0) (T := TX0) (N := 4) hK hN hP hD [5, 6, 7, 8] rfl rfl 0 0 rfl rfl) rfl rfl hl.1 rfl (lv_room (Nat.le_of_ble_eq_true rfl)) dX1_placeChosen_43 ⟨Nat.le_refl _, Nat.le_refl _⟩) hP hD hS hA [5, 6, 7, 8] [0, 1, 2, 3, 4] [0, 1, 2, 3, 4, 5, 6, 7, 8] rfl rfl rfl rfl (fun H locs hP hD hS => ?_)
          refine lv_iinc (v := (l2_3 + (1 : Int32))) (lv' := [(2, .int (l2_3 + (1 : Int32))), (0, .ref a_0), (1, .int x1)]) hx hb dX1_placeChosen_46 hl (k := 2) rfl rfl (by decide) rfl (fun ls hl => ?_)
          refine lv_goto (tgt := 2) hx hb dX1_placeChosen_49 (by decide) ?_
          exact ih _ _ _ _ hf _ _ _ (lv_sub hl [1, 2, 0] rfl) hP hD hS
  exact hL_2 _ _ _ _ _ h_r6 _ _ _ (lv_sub hl [1, 2, 0] rfl) hP hD hS
set_option maxHeartbeats 4000000 in
set_option maxRecDepth 100000 in
theorem c_fCellSearch_fillFrom (l : Launch) (dC : Nat → ClassId) (dI : Nat → Nat → Nat) (cI cZ cJ cQ : ClassId) (a_0 a_0list a_0listcells a_0listfirst a_0chosen a_0listlast a_0way a_0wayinField a_0wayfirst a_0waylast a_0listeveryFirst a_0listeveryLast a_0listeveryCells a_0listowner a_0waynumber : Nat) (sz : Nat) {F : Nat} {D : Nat} (ihR : ∀ (sz : Nat) (x1 : Int64) (x2 : Int32) (count_0list : Int32) (cells_0list : Nat → Int64) (ways_0 : Int32) (limit_0 : Int32) (first_0list : Nat → Int32) (chosen_0 : Nat → Int32) (last_0list : Nat → Int32) (inField_0way : Nat → Int32) (first_0way : Nat → Int32) (last_0way : Nat → Int32) (out : (Nat → Int32) × (Nat → Int32) × (Nat → Int32) × (Nat → Int32) × Int32), fCellSearch_fill F D x1 x2 count_0list cells_0list ways_0 limit_0 first_0list chosen_0 last_0list inField_0way first_0way last_0way = some out → Met l yX1_fill wsX1_fill ({ frames := 2 * D + 3, cells := 0, slots := 0, locals := 50 * D + 68 } : Room) (va_Pc [.ref a_0, .long x1, .int x2] (wlP (dC, dI) (wlT cI cZ cJ cQ) (wl_fCellSearch_fill cI cZ cJ cQ a_0 a_0list a_0listcells a_0listfirst a_0chosen a_0listlast a_0way a_0wayinField a_0wayfirst a_0waylast a_0listeveryFirst a_0listeveryLast a_0listeveryCells a_0listowner a_0waynumber limit_0 ways_0 count_0list cells_0list first_0list chosen_0 last_0list inField_0way first_0way last_0way) sz)) (va_Qv (fun (_ : Unit) => True) (wlQ (dC, dI) (va_A (wl_fCellSearch_fill cI cZ cJ cQ a_0 a_0list a_0listcells a_0listfirst a_0chosen a_0listlast a_0way a_0wayinField a_0wayfirst a_0waylast a_0listeveryFirst a_0listeveryLast a_0listeveryCells a_0listowner a_0waynumber limit_0 ways_0 count_0list cells_0list first_0list chosen_0 last_0list inField_0way first_0way last_0way) sz) (wl_fCellSearch_fill cI cZ cJ cQ a_0 a_0list a_0listcells a_0listfirst a_0chosen a_0listlast a_0way a_0wayinField a_0wayfirst a_0waylast a_0listeveryFirst a_0listeveryLast a_0listeveryCells a_0listowner a_0waynumber limit_0 out.2.2.2.2 count_0list cells_0list first_0list out.1 last_0list out.2.1 out.2.2.1 out.2.2.2.1)) (va_A (wl_fCellSearch_fill cI cZ cJ cQ a_0 a_0list a_0listcells a_0listfirst a_0chosen a_0listlast a_0way a_0wayinField a_0wayfirst a_0waylast a_0listeveryFirst a_0listeveryLast a_0listeveryCells a_0listowner a_0waynumber limit_0 ways_0 count_0list cells_0list first_0list chosen_0 last_0list inField_0way first_0way last_0way) sz)) 0 0 (va_A (wl_fCellSearch_fill cI cZ cJ cQ a_0 a_0list a_0listcells a_0listfirst a_0chosen a_0listlast a_0way a_0wayinField a_0wayfirst a_0waylast a_0listeveryFirst a_0listeveryLast a_0listeveryCells a_0listowner a_0waynumber limit_0 ways_0 count_0list cells_0list first_0list chosen_0 last_0list inField_0way first_0way last_0way) sz)) {x1 : Int32} {x2 : Int64} {x3 : Int32} {count_0list : Int32} {ways_0 : Int32} {limit_0 : Int32} {cells_0list : Nat → Int64} {first_0list : Nat → Int32} {chosen_0 : Nat → Int32} {last_0list : Nat → Int32} {inField_0way : Nat → Int32} {first_0way : Nat → Int32} {last_0way : Nat → Int32} {out : (Nat → Int32) × (Nat → Int32) × (Nat → Int32) × (Nat → Int32) × Int32} (hf : fCellSearch_fillFrom F (fCellSearch_fill F D) x1 x2 x3 count_0list ways_0 limit_0 cells_0list first_0list chosen_0 last_0list inField_0way first_0way last_0way = some out) : Met l yX1_fillFrom wsX1_fillFrom ({ frames := 2 * D + 4, cells := 0, slots := 0, locals := 50 * D + 91 } : Room) (va_Pc [.ref a_0, .int x1, .long x2, .int x3] (wlP (dC, dI) (wlT cI cZ cJ cQ) (wl_fCellSearch_fillFrom cI cZ cJ cQ a_0 a_0list a_0listcells a_0listfirst a_0chosen a_0listlast a_0way a_0wayinField a_0wayfirst a_0waylast a_0listeveryFirst a_0listeveryLast a_0listeveryCells a_0listowner a_0waynumber limit_0 ways_0 count_0list cells_0list first_0list chosen_0 last_0list inField_0way first_0way last_0way) sz)) (va_Qv (fun (_ : Unit) => True) (wlQ (dC, dI) (va_A (wl_fCellSearch_fillFrom cI cZ cJ cQ a_0 a_0list a_0listcells a_0listfirst a_0chosen a_0listlast a_0way a_0wayinField a_0wayfirst a_0waylast a_0listeveryFirst a_0listeveryLast a_0listeveryCells a_0listowner a_0waynumber limit_0 ways_0 count_0list cells_0list first_0list chosen_0 last_0list inField_0way first_0way last_0way) sz) (wl_fCellSearch_fillFrom cI cZ cJ cQ a_0 a_0list a_0listcells a_0listfirst a_0chosen a_0listlast a_0way a_0wayinField a_0wayfirst a_0waylast a_0listeveryFirst a_0listeveryLast a_0listeveryCells a_0listowner a_0waynumber limit_0 out.2.2.2.2 count_0list cells_0list first_0list out.1 last_0list out.2.1 out.2.2.1 out.2.2.2.1)) (va_A (wl_fCellSearch_fillFrom cI cZ cJ cQ a_0 a_0list a_0listcells a_0listfirst a_0chosen a_0listlast a_0way a_0wayinField a_0wayfirst a_0waylast a_0listeveryFirst a_0listeveryLast a_0listeveryCells a_0listowner a_0waynumber limit_0 ways_0 count_0list cells_0list first_0list chosen_0 last_0list inField_0way first_0way last_0way) sz)) 0 0 (va_A (wl_fCellSearch_fillFrom cI cZ cJ cQ a_0 a_0list a_0listcells a_0listfirst a_0chosen a_0listlast a_0way a_0wayinField a_0wayfirst a_0waylast a_0listeveryFirst a_0listeveryLast a_0listeveryCells a_0listowner a_0waynumber limit_0 ways_0 count_0list cells_0list first_0list chosen_0 last_0list inField_0way first_0way last_0way) sz) := by
  refine wh_ofWv (lv := [(0, .ref a_0), (1, .int x1), (2, .long x2), (4, .int x3)]) RX1 (by decide) rfl rfl (Nat.le_of_ble_eq_true rfl) rfl ?_
  intro p e s m below meth c A QQ hx hb hml hown hts hP hK hN hD hA hret ls hl
  have hS : va_S A s.heap s.heap [] := va_S.rf
  have hiX1 : ∀ w ∈ wsX10, w ∈ wsX1_fillFrom := (fun _ h => List.mem_cons_of_mem _ (List.mem_append_left _ (List.mem_append_left _ (List.mem_append_right _ (h)))))
  unfold fCellSearch_fillFrom at hf
  refine lv_iconst (v := 0) hx hb dX1_fillFrom_0 (by decide) ?_
  refine lv_istore (lv' := [(5, .int (0 : Int32)), (0, .ref a_0), (1, .int x1), (2, .long x2), (4, .int x3)]) hx hb dX1_fillFrom_1 hl (by decide) rfl (fun ls hl => ?_)
  obtain ⟨r7, h_r7, hf⟩ := hf_bind hf
  have hE_1 : ∀ (H : Heap) (locs : List Loc) (ls : Array Slot), lv_has ls 8 [] → va_P (dC, dI) vwCl (wl_fCellSearch_fillFrom cI cZ cJ cQ a_0 a_0list a_0listcells a_0listfirst a_0chosen a_0listlast a_0way a_0wayinField a_0wayfirst a_0waylast a_0listeveryFirst a_0listeveryLast a_0listeveryCells a_0listowner a_0waynumber limit_0 r7.2.1 count_0list cells_0list first_0list r7.2.2.1 last_0list r7.2.2.2.1 r7.2.2.2.2.1 r7.2.2.2.2.2) H → va_D A (wl_fCellSearch_fillFrom cI cZ cJ cQ a_0 a_0list a_0listcells a_0listfirst a_0chosen a_0listlast a_0way a_0wayinField a_0wayfirst a_0waylast a_0listeveryFirst a_0listeveryLast a_0listeveryCells a_0listowner a_0waynumber limit_0 r7.2.1 count_0list cells_0list first_0list r7.2.2.1 last_0list r7.2.2.2.1 r7.2.2.2.2.1 r7.2.2.2.2.2) → va_S A s.heap H locs → W p l e ({ frames := 2 * D + 4, cells := 0, slots := 0, locals := 50 * D + 91 } : Room) s m [.ref a_0, .int x1, .long x2, .int x3].toArray below meth c H locs 0 0 QQ (F0 m 98 ls []) := by
    intro H locs ls hl hP hD hS
    obtain rfl := Option.some.inj hf
    exact hret _ _ _ _ hP hD hS dX1_fillFrom_98
  have hL_2 : ∀ (N : Nat) (l5_3 : Int32) (ways_0_4 : Int32) (chosen_0_5 : Nat → Int32) (inField_0way_6 : Nat → Int32) (first_0way_7 : Nat → Int32) (last_0way_8 : Nat → Int32), fCellSearch_fillFrom_L3 F (fCellSearch_fill F D) x1 x2 x3 count_0list limit_0 cells_0list first_0list last_0list N l5_3 ways_0_4 chosen_0_5 inField_0way_6 first_0way_7 last_0way_8 = some r7 → ∀ (H : Heap) (locs : List Loc) (ls : Array Slot), lv_has ls 8 [(0, .ref a_0), (1, .int x1), (2, .long x2), (4, .int x3), (5, .int l5_3)] → va_P (dC, dI) vwCl (wl_fCellSearch_fillFrom cI cZ cJ cQ a_0 a_0list a_0listcells a_0listfirst a_0chosen a_0listlast a_0way a_0wayinField a_0wayfirst a_0waylast a_0listeveryFirst a_0listeveryLast a_0listeveryCells a_0listowner a_0waynumber limit_0 ways_0_4 count_0list cells_0list first_0list chosen_0_5 last_0list inField_0way_6 first_0way_7 last_0way_8) H → va_D A (wl_fCellSearch_fillFrom cI cZ cJ cQ a_0 a_0list a_0listcells a_0listfirst a_0chosen a_0listlast a_0way a_0wayinField a_0wayfirst a_0waylast a_0listeveryFirst a_0listeveryLast a_0listeveryCells a_0listowner a_0waynumber limit_0 ways_0_4 count_0list cells_0list first_0list chosen_0_5 last_0list inField_0way_6 first_0way_7 last_0way_8) → va_S A s.heap H locs → W p l e ({ frames := 2 * D + 4, cells := 0, slots := 0, locals := 50 * D + 91 } : Room) s m [.ref a_0, .int x1, .long x2, .int x3].toArray below meth c H locs 0 0 QQ (F0 m 3 ls []) := by
    intro N
    induction N with
    | zero => intro l5_3 ways_0_4 chosen_0_5 inField_0way_6 first_0way_7 last_0way_8 hf; exact nomatch (show none = some _ from hf)
    | succ N ih =>
      intro l5_3 ways_0_4 chosen_0_5 inField_0way_6 first_0way_7 last_0way_8 hf H locs ls hl hP hD hS
      rw [fCellSearch_fillFrom_L3] at hf
      refine lv_iload hx hb dX1_fillFrom_3 (lv_at hl 4 rfl) ?_
      refine lv_aload_n hx hb dX1_fillFrom_5 rfl (lv_at hl 0 rfl) ?_
      refine va_get (D := (dC, dI)) (ci := 1) (C := RX1) (T := TX1) (N := 5) hx hb hts hiX1 hown hK hP 0 rfl rfl 0 (by decide) (hts (.fieldLink RX1 9 "PaddockFields$CellSearch" "list" "LPaddockFields$Rectangles;") (List.mem_cons_of_mem _ (List.mem_append_left _ (List.mem_append_left _ (List.mem_append_left _ (List.mem_append_left _ (List.mem_of_getElem? (i := 0) rfl))))))) (fun _ h9 => h9) rfl dX1_fillFrom_6 ?_
      obtain ⟨s1, h_s1, hf⟩ := hf_bind hf
      refine wh_calli (D := (dC, dI)) (ws' := (wl_fCellSearch_fillFrom cI cZ cJ cQ a_0 a_0list a_0listcells a_0listfirst a_0chosen a_0listlast a_0way a_0wayinField a_0wayfirst a_0waylast a_0listeveryFirst a_0listeveryLast a_0listeveryCells a_0listowner a_0waynumber limit_0 ways_0_4 count_0list cells_0list first_0list chosen_0_5 last_0list inField_0way_6 first_0way_7 last_0way_8)) (va_runV (As := []) (rest := [.int l5_3]) ⟨hx, hb, hml, hown, hts⟩ (c_fRectangles_size l dC dI cI cZ cJ cQ a_0list a_0listeveryFirst a_0listeveryLast a_0listeveryCells a_0listfirst a_0listlast a_0listcells a_0listowner _ h_s1) (cwV 0 hts gX1_fillFrom_X7_size rfl rfl rfl (by decide +kernel) ⟨by show 0 + 1 ≤ 2 * D + 4; omega, by show 8 + (1 + 11) + (0) ≤ 50 * D + 91; omega⟩) (wh_preV (C := RX7) (T := TX7) (N := 8) hK hN hP hD [1] rfl rfl 7 0 rfl rfl) rfl rfl hl.1 rfl (lv_room (Nat.le_of_ble_eq_true rfl)) dX1_fillFrom_9 ⟨Nat.le_refl _, Nat.le_refl _⟩) hP hD hS hA [1] [0, 2, 3, 4, 5, 6, 7, 8, 9] [0, 9, 1, 2, 3, 4, 5, 6, 7, 8] rfl rfl rfl rfl (fun H locs hP hD hS => ?_)
      refine lv_icmp_ge (tgt := 98) hx hb dX1_fillFrom_12 (by decide) (fun cc => ?_) (fun cc => ?_)
      · replace hf := hf_pos cc hf
        obtain rfl := Option.some.inj hf
        exact hE_1 _ _ _ (lv_sub hl [] rfl) hP hD hS
      · replace hf := hf_neg cc hf
        refine lv_aload_n hx hb dX1_fillFrom_15 rfl (lv_at hl 0 rfl) ?_
        refine va_get (D := (dC, dI)) (ci := 1) (C := RX1) (T := TX1) (N := 5) hx hb hts hiX1 hown hK hP 0 rfl rfl 4 (by decide) (hts (.fieldLink RX1 30 "PaddockFields$CellSearch" "ways" "I") (List.mem_cons_of_mem _ (List.mem_append_left _ (List.mem_append_left _ (List.mem_append_left _ (List.mem_append_left _ (List.mem_of_getElem? (i := 1) rfl))))))) (fun _ h9 => h9) rfl dX1_fillFrom_16 ?_
        refine lv_aload_n hx hb dX1_fillFrom_19 rfl (lv_at hl 0 rfl) ?_
        refine va_get (D := (dC, dI)) (ci := 1) (C := RX1) (T := TX1) (N := 5) hx hb hts hiX1 hown hK hP 0 rfl rfl 3 (by decide) (hts (.fieldLink RX1 26 "PaddockFields$CellSearch" "limit" "I") (List.mem_cons_of_mem _ (List.mem_append_left _ (List.mem_append_left _ (List.mem_append_left _ (List.mem_append_left _ (List.mem_of_getElem? (i := 2) rfl))))))) (fun _ h9 => h9) rfl dX1_fillFrom_20 ?_
        refine lv_icmp_ge (tgt := 98) hx hb dX1_fillFrom_23 (by decide) (fun cc => ?_) (fun cc => ?_)
        · replace hf := hf_pos cc hf
          obtain rfl := Option.some.inj hf
          exact hE_1 _ _ _ (lv_sub hl [] rfl) hP hD hS
        · replace hf := hf_neg cc hf
          refine lv_aload_n hx hb dX1_fillFrom_26 rfl (lv_at hl 0 rfl) ?_
          refine va_get (D := (dC, dI)) (ci := 1) (C := RX1) (T := TX1) (N := 5) hx hb hts hiX1 hown hK hP 0 rfl rfl 0 (by decide) (hts (.fieldLink RX1 9 "PaddockFields$CellSearch" "list" "LPaddockFields$Rectangles;") (List.mem_cons_of_mem _ (List.mem_append_left _ (List.mem_append_left _ (List.mem_append_left _ (List.mem_append_left _ (List.mem_of_getElem? (i := 0) rfl))))))) (fun _ h9 => h9) rfl dX1_fillFrom_27 ?_
          refine lv_iload hx hb dX1_fillFrom_30 (lv_at hl 4 rfl) ?_
          obtain ⟨s2, h_s2, hf⟩ := hf_bind hf
          refine wh_calll (D := (dC, dI)) (ws' := (wl_fCellSearch_fillFrom cI cZ cJ cQ a_0 a_0list a_0listcells a_0listfirst a_0chosen a_0listlast a_0way a_0wayinField a_0wayfirst a_0waylast a_0listeveryFirst a_0listeveryLast a_0listeveryCells a_0listowner a_0waynumber limit_0 ways_0_4 count_0list cells_0list first_0list chosen_0_5 last_0list inField_0way_6 first_0way_7 last_0way_8)) (va_runV (As := [.int l5_3]) (rest := []) ⟨hx, hb, hml, hown, hts⟩ (c_fRectangles_cellsAt l dC dI cI cZ cJ cQ a_0list a_0listcells a_0listeveryFirst a_0listeveryLast a_0listeveryCells a_0listfirst a_0listlast a_0listowner _ h_s2) (cwV 1 hts gX1_fillFrom_X7_cellsAt rfl rfl rfl (by decide +kernel) ⟨by show 0 + 1 ≤ 2 * D + 4; omega, by show 8 + (2 + 11) + (0) ≤ 50 * D + 91; omega⟩) (wh_preV (C := RX7) (T := TX7) (N := 8) hK hN hP hD [1, 2] rfl rfl 7 0 rfl rfl) rfl rfl hl.1 rfl (lv_room (Nat.le_of_ble_eq_true rfl)) dX1_fillFrom_32 ⟨Nat.le_refl _, Nat.le_refl _⟩) hP hD hS hA [1, 2] [0, 3, 4, 5, 6, 7, 8, 9] [0, 8, 9, 1, 2, 3, 4, 5, 6, 7] rfl rfl rfl rfl (fun H locs hP hD hS => ?_)
          refine lv_lstore (lv' := [(6, .long s2), (0, .ref a_0), (1, .int x1), (2, .long x2), (4, .int x3), (5, .int l5_3)]) hx hb dX1_fillFrom_35 hl (by decide) rfl (fun ls hl => ?_)
          refine lv_aload_n hx hb dX1_fillFrom_37 rfl (lv_at hl 1 rfl) ?_
          refine va_get (D := (dC, dI)) (ci := 1) (C := RX1) (T := TX1) (N := 5) hx hb hts hiX1 hown hK hP 0 rfl rfl 0 (by decide) (hts (.fieldLink RX1 9 "PaddockFields$CellSearch" "list" "LPaddockFields$Rectangles;") (List.mem_cons_of_mem _ (List.mem_append_left _ (List.mem_append_left _ (List.mem_append_left _ (List.mem_append_left _ (List.mem_of_getElem? (i := 0) rfl))))))) (fun _ h9 => h9) rfl dX1_fillFrom_38 ?_
          refine lv_iload hx hb dX1_fillFrom_41 (lv_at hl 5 rfl) ?_
          obtain ⟨s3, h_s3, hf⟩ := hf_bind hf
          refine wh_calli (D := (dC, dI)) (ws' := (wl_fCellSearch_fillFrom cI cZ cJ cQ a_0 a_0list a_0listcells a_0listfirst a_0chosen a_0listlast a_0way a_0wayinField a_0wayfirst a_0waylast a_0listeveryFirst a_0listeveryLast a_0listeveryCells a_0listowner a_0waynumber limit_0 ways_0_4 count_0list cells_0list first_0list chosen_0_5 last_0list inField_0way_6 first_0way_7 last_0way_8)) (va_runV (As := [.int l5_3]) (rest := []) ⟨hx, hb, hml, hown, hts⟩ (c_fRectangles_firstAt l dC dI cI cZ cJ cQ a_0list a_0listfirst a_0listeveryFirst a_0listeveryLast a_0listeveryCells a_0listlast a_0listcells a_0listowner _ h_s3) (cwV 1 hts gX1_fillFrom_X7_firstAt rfl rfl rfl (by decide +kernel) ⟨by show 0 + 1 ≤ 2 * D + 4; omega, by show 8 + (2 + 11) + (0) ≤ 50 * D + 91; omega⟩) (wh_preV (C := RX7) (T := TX7) (N := 8) hK hN hP hD [1, 3] rfl rfl 7 0 rfl rfl) rfl rfl hl.1 rfl (lv_room (Nat.le_of_ble_eq_true rfl)) dX1_fillFrom_43 ⟨Nat.le_refl _, Nat.le_refl _⟩) hP hD hS hA [1, 3] [0, 2, 4, 5, 6, 7, 8, 9] [0, 8, 1, 9, 2, 3, 4, 5, 6, 7] rfl rfl rfl rfl (fun H locs hP hD hS => ?_)
          refine lv_iload_n hx hb dX1_fillFrom_46 rfl (lv_at hl 2 rfl) ?_
          obtain ⟨j6, h_j6, hf⟩ := hf_bind hf
          have hJ_9 : ∀ (H : Heap) (locs : List Loc) (ls : Array Slot), lv_has ls 8 [(0, .ref a_0), (1, .int x1), (2, .long x2), (4, .int x3), (5, .int l5_3)] → va_P (dC, dI) vwCl (wl_fCellSearch_fillFrom cI cZ cJ cQ a_0 a_0list a_0listcells a_0listfirst a_0chosen a_0listlast a_0way a_0wayinField a_0wayfirst a_0waylast a_0listeveryFirst a_0listeveryLast a_0listeveryCells a_0listowner a_0waynumber limit_0 j6.1 count_0list cells_0list first_0list j6.2.1 last_0list j6.2.2.1 j6.2.2.2.1 j6.2.2.2.2) H → va_D A (wl_fCellSearch_fillFrom cI cZ cJ cQ a_0 a_0list a_0listcells a_0listfirst a_0chosen a_0listlast a_0way a_0wayinField a_0wayfirst a_0waylast a_0listeveryFirst a_0listeveryLast a_0listeveryCells a_0listowner a_0waynumber limit_0 j6.1 count_0list cells_0list first_0list j6.2.1 last_0list j6.2.2.1 j6.2.2.2.1 j6.2.2.2.2) → va_S A s.heap H locs → W p l e ({ frames := 2 * D + 4, cells := 0, slots := 0, locals := 50 * D + 91 } : Room) s m [.ref a_0, .int x1, .long x2, .int x3].toArray below meth c H locs 0 0 QQ (F0 m 92 ls []) := by
            intro H locs ls hl hP hD hS
            refine lv_iinc (v := (l5_3 + (1 : Int32))) (lv' := [(5, .int (l5_3 + (1 : Int32))), (0, .ref a_0), (1, .int x1), (2, .long x2), (4, .int x3)]) hx hb dX1_fillFrom_92 hl (k := 4) rfl rfl (by decide) rfl (fun ls hl => ?_)
            refine lv_goto (tgt := 3) hx hb dX1_fillFrom_95 (by decide) ?_
            exact ih _ _ _ _ _ _ hf _ _ _ (lv_sub hl [1, 2, 3, 4, 0] rfl) hP hD hS
          clear hf
          have hf := h_j6
          clear h_j6
          refine lv_icmp_ne (tgt := 92) hx hb dX1_fillFrom_47 (by decide) (fun cc => ?_) (fun cc => ?_)
          · replace hf := hf_pos cc hf
            obtain rfl := Option.some.inj hf
            exact hJ_9 _ _ _ (lv_sub hl [1, 2, 3, 4, 5] rfl) hP hD hS
          · replace hf := hf_neg (not_not_intro cc) hf
            refine lv_lload hx hb dX1_fillFrom_50 (lv_at hl 0 rfl) ?_
            refine lv_lload_n hx hb dX1_fillFrom_52 rfl (lv_at hl 3 rfl) ?_
            refine lv_land hx hb dX1_fillFrom_53 ?_
            refine lv_lconst (v := 0) hx hb dX1_fillFrom_54 (by decide) ?_
            refine W.lcmp hx hb dX1_fillFrom_55 ?_
            refine lv_if_ne (tgt := 92) hx hb dX1_fillFrom_56 (by decide) (fun cc => ?_) (fun cc => ?_)
            · replace hf := hf_pos (mt (lg_cmp_eq _ _).mpr cc) hf
              obtain rfl := Option.some.inj hf
              exact hJ_9 _ _ _ (lv_sub hl [1, 2, 3, 4, 5] rfl) hP hD hS
            · replace hf := hf_neg (not_not_intro ((lg_cmp_eq _ _).mp cc)) hf
              refine lv_iload hx hb dX1_fillFrom_59 (lv_at hl 4 rfl) ?_
              refine lv_if_lt (tgt := 92) hx hb dX1_fillFrom_61 (by decide) (fun cc => ?_) (fun cc => ?_)
              · replace hf := hf_pos cc hf
                obtain rfl := Option.some.inj hf
                exact hJ_9 _ _ _ (lv_sub hl [1, 2, 3, 4, 5] rfl) hP hD hS
              · replace hf := hf_neg cc hf
                refine lv_iload hx hb dX1_fillFrom_64 (lv_at hl 4 rfl) ?_
                refine lv_bipush (v := 42) hx hb dX1_fillFrom_66 (by decide) ?_
                refine lv_icmp_ge (tgt := 92) hx hb dX1_fillFrom_68 (by decide) (fun cc => ?_) (fun cc => ?_)
                · replace hf := hf_pos cc hf
                  obtain rfl := Option.some.inj hf
                  exact hJ_9 _ _ _ (lv_sub hl [1, 2, 3, 4, 5] rfl) hP hD hS
                · replace hf := hf_neg cc hf
                  refine lv_aload_n hx hb dX1_fillFrom_71 rfl (lv_at hl 1 rfl) ?_
                  refine va_get (D := (dC, dI)) (ci := 1) (C := RX1) (T := TX1) (N := 5) hx hb hts hiX1 hown hK hP 0 rfl rfl 1 (by decide) (hts (.fieldLink RX1 15 "PaddockFields$CellSearch" "chosen" "[I") (List.mem_cons_of_mem _ (List.mem_append_left _ (List.mem_append_left _ (List.mem_append_left _ (List.mem_append_left _ (List.mem_of_getElem? (i := 3) rfl))))))) (fun _ h9 => h9) rfl dX1_fillFrom_72 ?_
                  refine lv_iload hx hb dX1_fillFrom_75 (lv_at hl 4 rfl) ?_
                  refine lv_iload hx hb dX1_fillFrom_77 (lv_at hl 5 rfl) ?_
                  obtain ⟨w4, h_w4, hf⟩ := hf_bind hf
                  refine wh_stI (D := (dC, dI)) (ws' := (wl_fCellSearch_fillFrom cI cZ cJ cQ a_0 a_0list a_0listcells a_0listfirst a_0chosen a_0listlast a_0way a_0wayinField a_0wayfirst a_0waylast a_0listeveryFirst a_0listeveryLast a_0listeveryCells a_0listowner a_0waynumber limit_0 ways_0_4 count_0list cells_0list first_0list w4 last_0list inField_0way_6 first_0way_7 last_0way_8)) hx hb hK hP hD hS 4 0 rfl rfl rfl h_w4 dX1_fillFrom_79 (fun H locs hP hD hS => ?_)
                  refine lv_aload_n hx hb dX1_fillFrom_80 rfl (lv_at hl 1 rfl) ?_
                  refine lv_lload_n hx hb dX1_fillFrom_81 rfl (lv_at hl 3 rfl) ?_
                  refine lv_lload hx hb dX1_fillFrom_82 (lv_at hl 0 rfl) ?_
                  refine lv_lor hx hb dX1_fillFrom_84 ?_
                  refine lv_iload hx hb dX1_fillFrom_85 (lv_at hl 4 rfl) ?_
                  refine lv_iconst (v := 1) hx hb dX1_fillFrom_87 (by decide) ?_
                  refine lv_iadd hx hb dX1_fillFrom_88 ?_
                  obtain ⟨s5, h_s5, hf⟩ := hf_bind hf
                  refine wh_callv (D := (dC, dI)) (ws' := (wl_fCellSearch_fillFrom cI cZ cJ cQ a_0 a_0list a_0listcells a_0listfirst a_0chosen a_0listlast a_0way a_0wayinField a_0wayfirst a_0waylast a_0listeveryFirst a_0listeveryLast a_0listeveryCells a_0listowner a_0waynumber limit_0 s5.2.2.2.2 count_0list cells_0list first_0list s5.1 last_0list s5.2.1 s5.2.2.1 s5.2.2.2.1)) (va_runV (As := [.long (x2 ||| s2), .int (x3 + (1 : Int32))]) (rest := []) ⟨hx, hb, hml, hown, hts⟩ (ihR _ _ _ _ _ _ _ _ _ _ _ _ _ _ h_s5) (cwV 2 hts gX1_fillFrom_X1_fill rfl rfl rfl (by decide +kernel) ⟨by show 2 * D + 3 + 1 ≤ 2 * D + 4; omega, by show 8 + (4 + 11) + (50 * D + 68) ≤ 50 * D + 91; omega⟩) (wh_preV (C := RX1) (T := TX1) (N := 5) hK hN hP hD [0, 1, 2, 3, 4, 5, 6, 7, 8, 9] rfl rfl 1 0 rfl rfl) rfl rfl hl.1 rfl (lv_room (Nat.le_of_ble_eq_true rfl)) dX1_fillFrom_89 ⟨Nat.le_refl _, Nat.le_refl _⟩) hP hD hS hA [0, 1, 2, 3, 4, 5, 6, 7, 8, 9] [] [0, 1, 2, 3, 4, 5, 6, 7, 8, 9] rfl rfl rfl rfl (fun H locs hP hD hS => ?_)
                  obtain rfl := Option.some.inj hf
                  exact hJ_9 _ _ _ (lv_sub hl [1, 2, 3, 4, 5] rfl) hP hD hS
  exact hL_2 _ _ _ _ _ _ _ h_r7 _ _ _ (lv_sub hl [1, 2, 3, 4, 0] rfl) hP hD hS
set_option maxHeartbeats 4000000 in
set_option maxRecDepth 100000 in
theorem c_fCellSearch_fill (l : Launch) (dC : Nat → ClassId) (dI : Nat → Nat → Nat) (cI cZ cJ cQ : ClassId) (a_0 a_0list a_0listcells a_0listfirst a_0chosen a_0listlast a_0way a_0wayinField a_0wayfirst a_0waylast a_0listeveryFirst a_0listeveryLast a_0listeveryCells a_0listowner a_0waynumber : Nat) {F : Nat} : ∀ (D : Nat) (sz : Nat) (x1 : Int64) (x2 : Int32) (count_0list : Int32) (cells_0list : Nat → Int64) (ways_0 : Int32) (limit_0 : Int32) (first_0list : Nat → Int32) (chosen_0 : Nat → Int32) (last_0list : Nat → Int32) (inField_0way : Nat → Int32) (first_0way : Nat → Int32) (last_0way : Nat → Int32) (out : (Nat → Int32) × (Nat → Int32) × (Nat → Int32) × (Nat → Int32) × Int32), fCellSearch_fill F D x1 x2 count_0list cells_0list ways_0 limit_0 first_0list chosen_0 last_0list inField_0way first_0way last_0way = some out → Met l yX1_fill wsX1_fill ({ frames := 2 * D + 3, cells := 0, slots := 0, locals := 50 * D + 68 } : Room) (va_Pc [.ref a_0, .long x1, .int x2] (wlP (dC, dI) (wlT cI cZ cJ cQ) (wl_fCellSearch_fill cI cZ cJ cQ a_0 a_0list a_0listcells a_0listfirst a_0chosen a_0listlast a_0way a_0wayinField a_0wayfirst a_0waylast a_0listeveryFirst a_0listeveryLast a_0listeveryCells a_0listowner a_0waynumber limit_0 ways_0 count_0list cells_0list first_0list chosen_0 last_0list inField_0way first_0way last_0way) sz)) (va_Qv (fun (_ : Unit) => True) (wlQ (dC, dI) (va_A (wl_fCellSearch_fill cI cZ cJ cQ a_0 a_0list a_0listcells a_0listfirst a_0chosen a_0listlast a_0way a_0wayinField a_0wayfirst a_0waylast a_0listeveryFirst a_0listeveryLast a_0listeveryCells a_0listowner a_0waynumber limit_0 ways_0 count_0list cells_0list first_0list chosen_0 last_0list inField_0way first_0way last_0way) sz) (wl_fCellSearch_fill cI cZ cJ cQ a_0 a_0list a_0listcells a_0listfirst a_0chosen a_0listlast a_0way a_0wayinField a_0wayfirst a_0waylast a_0listeveryFirst a_0listeveryLast a_0listeveryCells a_0listowner a_0waynumber limit_0 out.2.2.2.2 count_0list cells_0list first_0list out.1 last_0list out.2.1 out.2.2.1 out.2.2.2.1)) (va_A (wl_fCellSearch_fill cI cZ cJ cQ a_0 a_0list a_0listcells a_0listfirst a_0chosen a_0listlast a_0way a_0wayinField a_0wayfirst a_0waylast a_0listeveryFirst a_0listeveryLast a_0listeveryCells a_0listowner a_0waynumber limit_0 ways_0 count_0list cells_0list first_0list chosen_0 last_0list inField_0way first_0way last_0way) sz)) 0 0 (va_A (wl_fCellSearch_fill cI cZ cJ cQ a_0 a_0list a_0listcells a_0listfirst a_0chosen a_0listlast a_0way a_0wayinField a_0wayfirst a_0waylast a_0listeveryFirst a_0listeveryLast a_0listeveryCells a_0listowner a_0waynumber limit_0 ways_0 count_0list cells_0list first_0list chosen_0 last_0list inField_0way first_0way last_0way) sz) := by
  intro D
  induction D with
  | zero => intro sz x1 x2 count_0list cells_0list ways_0 limit_0 first_0list chosen_0 last_0list inField_0way first_0way last_0way out hf; exact nomatch (show none = some _ from hf)
  | succ D ihR =>
    intro sz x1 x2 count_0list cells_0list ways_0 limit_0 first_0list chosen_0 last_0list inField_0way first_0way last_0way out hf
    rw [fCellSearch_fill] at hf
    refine wh_ofWv (lv := [(0, .ref a_0), (1, .long x1), (3, .int x2)]) RX1 (by decide) rfl rfl (Nat.le_of_ble_eq_true rfl) rfl ?_
    intro p e s m below meth c A QQ hx hb hml hown hts hP hK hN hD hA hret ls hl
    have hS : va_S A s.heap s.heap [] := va_S.rf
    have hiX1 : ∀ w ∈ wsX10, w ∈ wsX1_fill := (fun _ h => List.mem_cons_of_mem _ (List.mem_append_left _ (List.mem_append_left _ (List.mem_append_right _ (h)))))
    refine lv_lload_n hx hb dX1_fill_0 rfl (lv_at hl 1 rfl) ?_
    refine lv_ldc2 hx hb hown (hts (.constantLong RX1 54 (4398046511103)) (List.mem_cons_of_mem _ (List.mem_append_left _ (List.mem_append_left _ (List.mem_append_left _ (List.mem_append_left _ (List.mem_of_getElem? (i := 0) rfl))))))) dX1_fill_1 ?_
    refine W.lcmp hx hb dX1_fill_4 ?_
    refine lv_if_ne (tgt := 33) hx hb dX1_fill_5 (by decide) (fun cc => ?_) (fun cc => ?_)
    · replace hf := hf_pos (mt (lg_cmp_eq _ _).mpr cc) hf
      refine lv_iload_n hx hb dX1_fill_33 rfl (lv_at hl 2 rfl) ?_
      refine lv_bipush (v := 42) hx hb dX1_fill_34 (by decide) ?_
      refine lv_icmp_ge (tgt := 78) hx hb dX1_fill_36 (by decide) (fun cc => ?_) (fun cc => ?_)
      · replace hf := hf_pos cc hf
        obtain rfl := Option.some.inj hf
        exact hret _ _ _ _ hP hD hS dX1_fill_78
      · replace hf := hf_neg cc hf
        refine lv_aload_n hx hb dX1_fill_39 rfl (lv_at hl 0 rfl) ?_
        refine va_get (D := (dC, dI)) (ci := 1) (C := RX1) (T := TX1) (N := 5) hx hb hts hiX1 hown hK hP 0 rfl rfl 0 (by decide) (hts (.fieldLink RX1 9 "PaddockFields$CellSearch" "list" "LPaddockFields$Rectangles;") (List.mem_cons_of_mem _ (List.mem_append_left _ (List.mem_append_left _ (List.mem_append_left _ (List.mem_append_left _ (List.mem_of_getElem? (i := 2) rfl))))))) (fun _ h9 => h9) rfl dX1_fill_40 ?_
        refine lv_lload_n hx hb dX1_fill_43 rfl (lv_at hl 1 rfl) ?_
        obtain ⟨s1, h_s1, hf⟩ := hf_bind hf
        refine wh_calll (D := (dC, dI)) (ws' := (wl_fCellSearch_fill cI cZ cJ cQ a_0 a_0list a_0listcells a_0listfirst a_0chosen a_0listlast a_0way a_0wayinField a_0wayfirst a_0waylast a_0listeveryFirst a_0listeveryLast a_0listeveryCells a_0listowner a_0waynumber limit_0 ways_0 count_0list cells_0list first_0list chosen_0 last_0list inField_0way first_0way last_0way)) (va_runV (As := [.long x1]) (rest := []) ⟨hx, hb, hml, hown, hts⟩ (c_fRectangles_cellsInReach l dC dI cI cZ cJ cQ a_0list a_0listcells a_0listeveryFirst a_0listeveryLast a_0listeveryCells a_0listfirst a_0listlast a_0listowner _ h_s1) (cwV 1 hts gX1_fill_X7_cellsInReach rfl rfl rfl (by decide +kernel) ⟨by show 1 + 1 ≤ 2 * (D + 1) + 3; omega, by show 8 + (8 + 11) + (21) ≤ 50 * (D + 1) + 68; omega⟩) (wh_preV (C := RX7) (T := TX7) (N := 8) hK hN hP hD [1, 2] rfl rfl 7 0 rfl rfl) rfl rfl hl.1 rfl (lv_room (Nat.le_of_ble_eq_true rfl)) dX1_fill_44 ⟨Nat.le_refl _, Nat.le_refl _⟩) hP hD hS hA [1, 2] [0, 3, 4, 5, 6, 7, 8, 9] [0, 8, 9, 1, 2, 3, 4, 5, 6, 7] rfl rfl rfl rfl (fun H locs hP hD hS => ?_)
        refine lv_ldc2 hx hb hown (hts (.constantLong RX1 54 (4398046511103)) (List.mem_cons_of_mem _ (List.mem_append_left _ (List.mem_append_left _ (List.mem_append_left _ (List.mem_append_left _ (List.mem_of_getElem? (i := 0) rfl))))))) dX1_fill_47 ?_
        refine lv_lload_n hx hb dX1_fill_50 rfl (lv_at hl 1 rfl) ?_
        refine lv_ldc2 hx hb hown (hts (.constantLong RX1 64 (-1)) (List.mem_cons_of_mem _ (List.mem_append_left _ (List.mem_append_left _ (List.mem_append_left _ (List.mem_append_left _ (List.mem_of_getElem? (i := 3) rfl))))))) dX1_fill_51 ?_
        refine lv_lxor hx hb dX1_fill_54 ?_
        refine lv_land hx hb dX1_fill_55 ?_
        refine W.lcmp hx hb dX1_fill_56 ?_
        refine lv_if_ne (tgt := 78) hx hb dX1_fill_57 (by decide) (fun cc => ?_) (fun cc => ?_)
        · replace hf := hf_pos (mt (lg_cmp_eq _ _).mpr cc) hf
          obtain rfl := Option.some.inj hf
          exact hret _ _ _ _ hP hD hS dX1_fill_78
        · replace hf := hf_neg (not_not_intro ((lg_cmp_eq _ _).mp cc)) hf
          refine lv_aload_n hx hb dX1_fill_60 rfl (lv_at hl 0 rfl) ?_
          refine lv_ldc2 hx hb hown (hts (.constantLong RX1 54 (4398046511103)) (List.mem_cons_of_mem _ (List.mem_append_left _ (List.mem_append_left _ (List.mem_append_left _ (List.mem_append_left _ (List.mem_of_getElem? (i := 0) rfl))))))) dX1_fill_61 ?_
          refine lv_lload_n hx hb dX1_fill_64 rfl (lv_at hl 1 rfl) ?_
          refine lv_ldc2 hx hb hown (hts (.constantLong RX1 64 (-1)) (List.mem_cons_of_mem _ (List.mem_append_left _ (List.mem_append_left _ (List.mem_append_left _ (List.mem_append_left _ (List.mem_of_getElem? (i := 3) rfl))))))) dX1_fill_65 ?_
          refine lv_lxor hx hb dX1_fill_68 ?_
          refine lv_land hx hb dX1_fill_69 ?_
          obtain ⟨s2, h_s2, hf⟩ := hf_bind hf
          refine wh_calli (D := (dC, dI)) (ws' := (wl_fCellSearch_fill cI cZ cJ cQ a_0 a_0list a_0listcells a_0listfirst a_0chosen a_0listlast a_0way a_0wayinField a_0wayfirst a_0waylast a_0listeveryFirst a_0listeveryLast a_0listeveryCells a_0listowner a_0waynumber limit_0 ways_0 count_0list cells_0list first_0list chosen_0 last_0list inField_0way first_0way last_0way)) (va_runSN (As := [.long ((4398046511103 : Int64) &&& (x1 ^^^ (-1 : Int64)))]) (rest := [.ref a_0]) ⟨hx, hb, hml, hown, hts⟩ (c_fX_lowestCell l dC dI cI cZ cJ cQ _ h_s2) ⟨va_cnB 1 hts gX1_fill_X9_lowestCell_n66 rfl rfl rfl (hN (RX1, 66, yX9_lowestCell) (List.mem_of_getElem? (i := 10) rfl)) (hts (.initialized RX9) (List.mem_cons_of_mem _ (List.mem_append_left _ (List.mem_append_left _ (List.mem_append_left _ (List.mem_append_right _ (List.mem_append_left _ (List.mem_of_getElem? (i := 8) rfl)))))))) (by decide +kernel) ⟨by show 1 + 1 ≤ 2 * (D + 1) + 3; omega, by show 8 + (2 + 11) + (21) ≤ 50 * (D + 1) + 68; omega⟩, (hts (.static yX9_lowestCell) (List.mem_cons_of_mem _ (List.mem_append_left _ (List.mem_append_left _ (List.mem_append_left _ (List.mem_append_right _ (List.mem_append_left _ (List.mem_of_getElem? (i := 19) rfl)))))))), trivial⟩ (wh_preS hK hN hP hD [] rfl rfl) rfl rfl hl.1 rfl (lv_room (Nat.le_of_ble_eq_true rfl)) dX1_fill_70 ⟨Nat.le_refl _, Nat.le_refl _⟩) hP hD hS hA [] [0, 1, 2, 3, 4, 5, 6, 7, 8, 9] [0, 1, 2, 3, 4, 5, 6, 7, 8, 9] rfl rfl rfl rfl (fun H locs hP hD hS => ?_)
          refine lv_lload_n hx hb dX1_fill_73 rfl (lv_at hl 1 rfl) ?_
          refine lv_iload_n hx hb dX1_fill_74 rfl (lv_at hl 2 rfl) ?_
          obtain ⟨s3, h_s3, hf⟩ := hf_bind hf
          refine wh_callv (D := (dC, dI)) (ws' := (wl_fCellSearch_fill cI cZ cJ cQ a_0 a_0list a_0listcells a_0listfirst a_0chosen a_0listlast a_0way a_0wayinField a_0wayfirst a_0waylast a_0listeveryFirst a_0listeveryLast a_0listeveryCells a_0listowner a_0waynumber limit_0 s3.2.2.2.2 count_0list cells_0list first_0list s3.1 last_0list s3.2.1 s3.2.2.1 s3.2.2.2.1)) (va_runV (As := [.int s2, .long x1, .int x2]) (rest := []) ⟨hx, hb, hml, hown, hts⟩ (c_fCellSearch_fillFrom l dC dI cI cZ cJ cQ a_0 a_0list a_0listcells a_0listfirst a_0chosen a_0listlast a_0way a_0wayinField a_0wayfirst a_0waylast a_0listeveryFirst a_0listeveryLast a_0listeveryCells a_0listowner a_0waynumber _ ihR h_s3) (cwV 3 hts gX1_fill_X1_fillFrom rfl rfl rfl (by decide +kernel) ⟨by show 2 * D + 4 + 1 ≤ 2 * (D + 1) + 3; omega, by show 8 + (8 + 11) + (50 * D + 91) ≤ 50 * (D + 1) + 68; omega⟩) (wh_preV (C := RX1) (T := TX1) (N := 5) hK hN hP hD [0, 1, 2, 3, 4, 5, 6, 7, 8, 9] rfl rfl 1 0 rfl rfl) rfl rfl hl.1 rfl (lv_room (Nat.le_of_ble_eq_true rfl)) dX1_fill_75 ⟨Nat.le_refl _, Nat.le_refl _⟩) hP hD hS hA [0, 1, 2, 3, 4, 5, 6, 7, 8, 9] [] [0, 1, 2, 3, 4, 5, 6, 7, 8, 9] rfl rfl rfl rfl (fun H locs hP hD hS => ?_)
          obtain rfl := Option.some.inj hf
          exact hret _ _ _ _ hP hD hS dX1_fill_78
    · replace hf := hf_neg (not_not_intro ((lg_cmp_eq _ _).mp cc)) hf
      refine lv_aload_n hx hb dX1_fill_8 rfl (lv_at hl 0 rfl) ?_
      refine va_get (D := (dC, dI)) (ci := 1) (C := RX1) (T := TX1) (N := 5) hx hb hts hiX1 hown hK hP 0 rfl rfl 4 (by decide) (hts (.fieldLink RX1 30 "PaddockFields$CellSearch" "ways" "I") (List.mem_cons_of_mem _ (List.mem_append_left _ (List.mem_append_left _ (List.mem_append_left _ (List.mem_append_left _ (List.mem_of_getElem? (i := 1) rfl))))))) (fun _ h9 => h9) rfl dX1_fill_9 ?_
      obtain ⟨j5, h_j5, hf⟩ := hf_bind hf
      have hJ_1 : ∀ (H : Heap) (locs : List Loc) (ls : Array Slot), lv_has ls 4 [(0, .ref a_0)] → va_P (dC, dI) vwCl (wl_fCellSearch_fill cI cZ cJ cQ a_0 a_0list a_0listcells a_0listfirst a_0chosen a_0listlast a_0way a_0wayinField a_0wayfirst a_0waylast a_0listeveryFirst a_0listeveryLast a_0listeveryCells a_0listowner a_0waynumber limit_0 ways_0 count_0list cells_0list first_0list chosen_0 last_0list j5.1 j5.2.1 j5.2.2) H → va_D A (wl_fCellSearch_fill cI cZ cJ cQ a_0 a_0list a_0listcells a_0listfirst a_0chosen a_0listlast a_0way a_0wayinField a_0wayfirst a_0waylast a_0listeveryFirst a_0listeveryLast a_0listeveryCells a_0listowner a_0waynumber limit_0 ways_0 count_0list cells_0list first_0list chosen_0 last_0list j5.1 j5.2.1 j5.2.2) → va_S A s.heap H locs → W p l e ({ frames := 2 * (D + 1) + 3, cells := 0, slots := 0, locals := 50 * (D + 1) + 68 } : Room) s m [.ref a_0, .long x1, .int x2].toArray below meth c H locs 0 0 QQ (F0 m 20 ls []) := by
        intro H locs ls hl hP hD hS
        refine lv_aload_n hx hb dX1_fill_20 rfl (lv_at hl 0 rfl) ?_
        refine lv_dup hx hb dX1_fill_21 rfl ?_
        refine va_get (D := (dC, dI)) (ci := 1) (C := RX1) (T := TX1) (N := 5) hx hb hts hiX1 hown hK hP 0 rfl rfl 4 (by decide) (hts (.fieldLink RX1 30 "PaddockFields$CellSearch" "ways" "I") (List.mem_cons_of_mem _ (List.mem_append_left _ (List.mem_append_left _ (List.mem_append_left _ (List.mem_append_left _ (List.mem_of_getElem? (i := 1) rfl))))))) (fun _ h9 => h9) rfl dX1_fill_22 ?_
        refine lv_iconst (v := 1) hx hb dX1_fill_25 (by decide) ?_
        refine lv_iadd hx hb dX1_fill_26 ?_
        refine wh_put (D := (dC, dI)) (ci := 1) (C := RX1) (T := TX1) (N := 5) (ty := .int) (v := .int (ways_0 + (1 : Int32))) (ws' := (wl_fCellSearch_fill cI cZ cJ cQ a_0 a_0list a_0listcells a_0listfirst a_0chosen a_0listlast a_0way a_0wayinField a_0wayfirst a_0waylast a_0listeveryFirst a_0listeveryLast a_0listeveryCells a_0listowner a_0waynumber limit_0 (ways_0 + (1 : Int32)) count_0list cells_0list first_0list chosen_0 last_0list j5.1 j5.2.1 j5.2.2)) hx hb hts hiX1 tyX1 tyX1_ok nmX1 hown hK hP hD hS 0 rfl rfl 4 (by decide) (hts (.fieldLink RX1 30 "PaddockFields$CellSearch" "ways" "I") (List.mem_cons_of_mem _ (List.mem_append_left _ (List.mem_append_left _ (List.mem_append_left _ (List.mem_append_left _ (List.mem_of_getElem? (i := 1) rfl))))))) (fun _ h9 => h9) rfl rfl rfl rfl (Nat.le_of_ble_eq_true rfl) rfl dX1_fill_27 (fun H locs hP hD hS => ?_)
        refine lv_goto (tgt := 78) hx hb dX1_fill_30 (by decide) ?_
        obtain rfl := Option.some.inj hf
        exact hret _ _ _ _ hP hD hS dX1_fill_78
      clear hf
      have hf := h_j5
      clear h_j5
      refine lv_if_ne (tgt := 20) hx hb dX1_fill_12 (by decide) (fun cc => ?_) (fun cc => ?_)
      · replace hf := hf_pos cc hf
        obtain rfl := Option.some.inj hf
        exact hJ_1 _ _ _ (lv_sub hl [0] rfl) hP hD hS
      · replace hf := hf_neg (not_not_intro cc) hf
        refine lv_aload_n hx hb dX1_fill_15 rfl (lv_at hl 0 rfl) ?_
        refine lv_iload_n hx hb dX1_fill_16 rfl (lv_at hl 2 rfl) ?_
        obtain ⟨s4, h_s4, hf⟩ := hf_bind hf
        refine wh_callv (D := (dC, dI)) (ws' := (wl_fCellSearch_fill cI cZ cJ cQ a_0 a_0list a_0listcells a_0listfirst a_0chosen a_0listlast a_0way a_0wayinField a_0wayfirst a_0waylast a_0listeveryFirst a_0listeveryLast a_0listeveryCells a_0listowner a_0waynumber limit_0 ways_0 count_0list cells_0list first_0list chosen_0 last_0list s4.1 s4.2.1 s4.2.2)) (va_runV (As := [.int x2]) (rest := []) ⟨hx, hb, hml, hown, hts⟩ (c_fCellSearch_placeChosen l dC dI cI cZ cJ cQ a_0 a_0chosen a_0list a_0listfirst a_0listlast a_0way a_0wayinField a_0wayfirst a_0waylast a_0listeveryFirst a_0listeveryLast a_0listeveryCells a_0listcells a_0listowner a_0waynumber limit_0 ways_0 _ h_s4) (cwV 1 hts gX1_fill_X1_placeChosen rfl rfl rfl (by decide +kernel) ⟨by show 2 + 1 ≤ 2 * (D + 1) + 3; omega, by show 8 + (3 + 11) + (46) ≤ 50 * (D + 1) + 68; omega⟩) (wh_preV (C := RX1) (T := TX1) (N := 5) hK hN hP hD [0, 4, 1, 3, 5, 6, 7, 8, 9] rfl rfl 1 0 rfl rfl) rfl rfl hl.1 rfl (lv_room (Nat.le_of_ble_eq_true rfl)) dX1_fill_17 ⟨Nat.le_refl _, Nat.le_refl _⟩) hP hD hS hA [0, 4, 1, 3, 5, 6, 7, 8, 9] [2] [1, 3, 0, 4, 2, 5, 6, 7, 8, 9] rfl rfl rfl rfl (fun H locs hP hD hS => ?_)
        obtain rfl := Option.some.inj hf
        exact hJ_1 _ _ _ (lv_sub hl [0] rfl) hP hD hS
set_option maxHeartbeats 4000000 in
set_option maxRecDepth 100000 in
theorem c_fCellSearch_countWays (l : Launch) (dC : Nat → ClassId) (dI : Nat → Nat → Nat) (cI cZ cJ cQ : ClassId) (a_0 a_1 a_1inField a_1number a_0list a_0listeveryCells a_0listeveryFirst a_0listfirst a_0listeveryLast a_0listlast a_0listcells a_0listowner a_0way a_0waynumber a_0wayinField a_1first a_0wayfirst a_1last a_0waylast a_0chosen : Nat) (sz : Nat) {F : Nat} {x2 : Int32} {inField_1 : Nat → Int32} {number_1 : Nat → Int32} {count_0list : Int32} {everyCells_0list : Nat → Int64} {everyFirst_0list : Nat → Int32} {first_0list : Nat → Int32} {everyLast_0list : Nat → Int32} {last_0list : Nat → Int32} {cells_0list : Nat → Int64} {owner_0list : Nat → Int32} {number_0way : Nat → Int32} {inField_0way : Nat → Int32} {first_1 : Nat → Int32} {first_0way : Nat → Int32} {last_1 : Nat → Int32} {last_0way : Nat → Int32} {limit_0 : Int32} {ways_0 : Int32} {chosen_0 : Nat → Int32} {out : Int32 × Int32 × (Nat → Int32) × (Nat → Int32) × (Nat → Int64) × (Nat → Int32) × (Nat → Int32) × (Nat → Int32) × (Nat → Int32) × (Nat → Int32) × Int32 × Int32 × (Nat → Int32)} (hf : fCellSearch_countWays F x2 inField_1 number_1 count_0list everyCells_0list everyFirst_0list first_0list everyLast_0list last_0list cells_0list owner_0list number_0way inField_0way first_1 first_0way last_1 last_0way limit_0 ways_0 chosen_0 = some out) : Met l yX1_countWays wsX1_countWays ({ frames := 92, cells := 0, slots := 0, locals := 2291 } : Room) (va_Pc [.ref a_0, .ref a_1, .int x2] (wlP (dC, dI) (wlT cI cZ cJ cQ) (wl_fCellSearch_countWays cI cZ cJ cQ a_0 a_1 a_1inField a_1number a_0list a_0listeveryCells a_0listeveryFirst a_0listfirst a_0listeveryLast a_0listlast a_0listcells a_0listowner a_0way a_0waynumber a_0wayinField a_1first a_0wayfirst a_1last a_0waylast a_0chosen limit_0 ways_0 inField_1 number_1 count_0list everyCells_0list everyFirst_0list first_0list everyLast_0list last_0list cells_0list owner_0list number_0way inField_0way first_1 first_0way last_1 last_0way chosen_0) sz)) (va_Qi (fun (v : Int32) (_ : Unit) => v = out.1) (wlQ (dC, dI) (va_A (wl_fCellSearch_countWays cI cZ cJ cQ a_0 a_1 a_1inField a_1number a_0list a_0listeveryCells a_0listeveryFirst a_0listfirst a_0listeveryLast a_0listlast a_0listcells a_0listowner a_0way a_0waynumber a_0wayinField a_1first a_0wayfirst a_1last a_0waylast a_0chosen limit_0 ways_0 inField_1 number_1 count_0list everyCells_0list everyFirst_0list first_0list everyLast_0list last_0list cells_0list owner_0list number_0way inField_0way first_1 first_0way last_1 last_0way chosen_0) sz) (wl_fCellSearch_countWays cI cZ cJ cQ a_0 a_1 a_1inField a_1number a_0list a_0listeveryCells a_0listeveryFirst a_0listfirst a_0listeveryLast a_0listlast a_0listcells a_0listowner a_0way a_0waynumber a_0wayinField a_1first a_0wayfirst a_1last a_0waylast a_0chosen out.2.2.2.2.2.2.2.2.2.2.1 out.2.2.2.2.2.2.2.2.2.2.2.1 inField_1 number_1 out.2.1 everyCells_0list everyFirst_0list out.2.2.1 everyLast_0list out.2.2.2.1 out.2.2.2.2.1 out.2.2.2.2.2.1 out.2.2.2.2.2.2.1 out.2.2.2.2.2.2.2.1 first_1 out.2.2.2.2.2.2.2.2.1 last_1 out.2.2.2.2.2.2.2.2.2.1 out.2.2.2.2.2.2.2.2.2.2.2.2)) (va_A (wl_fCellSearch_countWays cI cZ cJ cQ a_0 a_1 a_1inField a_1number a_0list a_0listeveryCells a_0listeveryFirst a_0listfirst a_0listeveryLast a_0listlast a_0listcells a_0listowner a_0way a_0waynumber a_0wayinField a_1first a_0wayfirst a_1last a_0waylast a_0chosen limit_0 ways_0 inField_1 number_1 count_0list everyCells_0list everyFirst_0list first_0list everyLast_0list last_0list cells_0list owner_0list number_0way inField_0way first_1 first_0way last_1 last_0way chosen_0) sz)) 0 0 (va_A (wl_fCellSearch_countWays cI cZ cJ cQ a_0 a_1 a_1inField a_1number a_0list a_0listeveryCells a_0listeveryFirst a_0listfirst a_0listeveryLast a_0listlast a_0listcells a_0listowner a_0way a_0waynumber a_0wayinField a_1first a_0wayfirst a_1last a_0waylast a_0chosen limit_0 ways_0 inField_1 number_1 count_0list everyCells_0list everyFirst_0list first_0list everyLast_0list last_0list cells_0list owner_0list number_0way inField_0way first_1 first_0way last_1 last_0way chosen_0) sz) := by
  refine wh_ofWi (lv := [(0, .ref a_0), (1, .ref a_1), (2, .int x2)]) RX1 (by decide) rfl rfl (Nat.le_of_ble_eq_true rfl) rfl ?_
  intro p e s m below meth c A QQ hx hb hml hown hts hP hK hN hD hA hret ls hl
  have hS : va_S A s.heap s.heap [] := va_S.rf
  have hiX1 : ∀ w ∈ wsX10, w ∈ wsX1_countWays := (fun _ h => List.mem_cons_of_mem _ (List.mem_append_left _ (List.mem_append_left _ (List.mem_append_right _ (h)))))
  unfold fCellSearch_countWays at hf
  refine lv_aload_n hx hb dX1_countWays_0 rfl (lv_at hl 0 rfl) ?_
  refine va_get (D := (dC, dI)) (ci := 1) (C := RX1) (T := TX1) (N := 5) hx hb hts hiX1 hown hK hP 0 rfl rfl 0 (by decide) (hts (.fieldLink RX1 9 "PaddockFields$CellSearch" "list" "LPaddockFields$Rectangles;") (List.mem_cons_of_mem _ (List.mem_append_left _ (List.mem_append_left _ (List.mem_append_left _ (List.mem_append_left _ (List.mem_of_getElem? (i := 0) rfl))))))) (fun _ h9 => h9) rfl dX1_countWays_1 ?_
  refine lv_aload_n hx hb dX1_countWays_4 rfl (lv_at hl 1 rfl) ?_
  obtain ⟨s1, h_s1, hf⟩ := hf_bind hf
  refine wh_callv (D := (dC, dI)) (ws' := (wl_fCellSearch_countWays cI cZ cJ cQ a_0 a_1 a_1inField a_1number a_0list a_0listeveryCells a_0listeveryFirst a_0listfirst a_0listeveryLast a_0listlast a_0listcells a_0listowner a_0way a_0waynumber a_0wayinField a_1first a_0wayfirst a_1last a_0waylast a_0chosen limit_0 ways_0 inField_1 number_1 s1.1 everyCells_0list everyFirst_0list s1.2.1 everyLast_0list s1.2.2.1 s1.2.2.2.1 s1.2.2.2.2 number_0way inField_0way first_1 first_0way last_1 last_0way chosen_0)) (va_runV (As := [.ref a_1]) (rest := []) ⟨hx, hb, hml, hown, hts⟩ (c_fRectangles_find l dC dI cI cZ cJ cQ a_1 a_1inField a_1number a_0list a_0listeveryCells a_0listeveryFirst a_0listfirst a_0listeveryLast a_0listlast a_0listcells a_0listowner a_1first a_1last _ h_s1) (cwV 1 hts gX1_countWays_X7_find rfl rfl rfl (by decide +kernel) ⟨Nat.le_of_ble_eq_true rfl, Nat.le_of_ble_eq_true rfl⟩) (wh_preV (C := RX7) (T := TX7) (N := 8) hK hN hP hD [1, 2, 3, 4, 5, 6, 7, 8, 9, 10, 11] rfl rfl 7 3 rfl rfl) rfl rfl hl.1 rfl (lv_room (Nat.le_of_ble_eq_true rfl)) dX1_countWays_5 ⟨Nat.le_refl _, Nat.le_refl _⟩) hP hD hS hA [1, 2, 3, 4, 5, 6, 7, 8, 9, 10, 11] [0, 12, 13, 14, 15, 16, 17, 18, 19] [0, 9, 10, 11, 12, 13, 14, 15, 16, 17, 18, 19, 1, 2, 3, 4, 5, 6, 7, 8] rfl rfl rfl rfl (fun H locs hP hD hS => ?_)
  refine lv_aload_n hx hb dX1_countWays_8 rfl (lv_at hl 0 rfl) ?_
  refine va_get (D := (dC, dI)) (ci := 1) (C := RX1) (T := TX1) (N := 5) hx hb hts hiX1 hown hK hP 0 rfl rfl 2 (by decide) (hts (.fieldLink RX1 22 "PaddockFields$CellSearch" "way" "LPaddockFields$Board;") (List.mem_cons_of_mem _ (List.mem_append_left _ (List.mem_append_left _ (List.mem_append_left _ (List.mem_append_left _ (List.mem_of_getElem? (i := 1) rfl))))))) (fun _ h9 => h9) rfl dX1_countWays_9 ?_
  refine lv_aload_n hx hb dX1_countWays_12 rfl (lv_at hl 1 rfl) ?_
  obtain ⟨s2, h_s2, hf⟩ := hf_bind hf
  refine wh_callv (D := (dC, dI)) (ws' := (wl_fCellSearch_countWays cI cZ cJ cQ a_0 a_1 a_1inField a_1number a_0list a_0listeveryCells a_0listeveryFirst a_0listfirst a_0listeveryLast a_0listlast a_0listcells a_0listowner a_0way a_0waynumber a_0wayinField a_1first a_0wayfirst a_1last a_0waylast a_0chosen limit_0 ways_0 inField_1 number_1 s1.1 everyCells_0list everyFirst_0list s1.2.1 everyLast_0list s1.2.2.1 s1.2.2.2.1 s1.2.2.2.2 s2.1 s2.2.1 first_1 s2.2.2.1 last_1 s2.2.2.2 chosen_0)) (va_runV (As := [.ref a_1]) (rest := []) ⟨hx, hb, hml, hown, hts⟩ (c_fBoard_copy l dC dI cI cZ cJ cQ a_0way a_1 a_1number a_0waynumber a_1inField a_0wayinField a_1first a_0wayfirst a_1last a_0waylast _ h_s2) (cwV 1 hts gX1_countWays_X0_copy rfl rfl rfl (by decide +kernel) ⟨Nat.le_of_ble_eq_true rfl, Nat.le_of_ble_eq_true rfl⟩) (wh_preV (C := RX0) (T := TX0) (N := 4) hK hN hP hD [12, 1, 3, 13, 2, 14, 15, 16, 17, 18] rfl rfl 0 0 rfl rfl) rfl rfl hl.1 rfl (lv_room (Nat.le_of_ble_eq_true rfl)) dX1_countWays_13 ⟨Nat.le_refl _, Nat.le_refl _⟩) hP hD hS hA [12, 1, 3, 13, 2, 14, 15, 16, 17, 18] [0, 4, 5, 6, 7, 8, 9, 10, 11, 19] [0, 11, 14, 12, 1, 2, 3, 4, 5, 6, 7, 8, 10, 13, 15, 16, 17, 18, 19, 9] rfl rfl rfl rfl (fun H locs hP hD hS => ?_)
  refine lv_aload_n hx hb dX1_countWays_16 rfl (lv_at hl 0 rfl) ?_
  refine lv_iload_n hx hb dX1_countWays_17 rfl (lv_at hl 2 rfl) ?_
  refine wh_put (D := (dC, dI)) (ci := 1) (C := RX1) (T := TX1) (N := 5) (ty := .int) (v := .int x2) (ws' := (wl_fCellSearch_countWays cI cZ cJ cQ a_0 a_1 a_1inField a_1number a_0list a_0listeveryCells a_0listeveryFirst a_0listfirst a_0listeveryLast a_0listlast a_0listcells a_0listowner a_0way a_0waynumber a_0wayinField a_1first a_0wayfirst a_1last a_0waylast a_0chosen x2 ways_0 inField_1 number_1 s1.1 everyCells_0list everyFirst_0list s1.2.1 everyLast_0list s1.2.2.1 s1.2.2.2.1 s1.2.2.2.2 s2.1 s2.2.1 first_1 s2.2.2.1 last_1 s2.2.2.2 chosen_0)) hx hb hts hiX1 tyX1 tyX1_ok nmX1 hown hK hP hD hS 0 rfl rfl 3 (by decide) (hts (.fieldLink RX1 26 "PaddockFields$CellSearch" "limit" "I") (List.mem_cons_of_mem _ (List.mem_append_left _ (List.mem_append_left _ (List.mem_append_left _ (List.mem_append_left _ (List.mem_of_getElem? (i := 2) rfl))))))) (fun _ h9 => h9) rfl rfl rfl rfl (Nat.le_of_ble_eq_true rfl) rfl dX1_countWays_18 (fun H locs hP hD hS => ?_)
  refine lv_aload_n hx hb dX1_countWays_21 rfl (lv_at hl 0 rfl) ?_
  refine lv_iconst (v := 0) hx hb dX1_countWays_22 (by decide) ?_
  refine wh_put (D := (dC, dI)) (ci := 1) (C := RX1) (T := TX1) (N := 5) (ty := .int) (v := .int (0 : Int32)) (ws' := (wl_fCellSearch_countWays cI cZ cJ cQ a_0 a_1 a_1inField a_1number a_0list a_0listeveryCells a_0listeveryFirst a_0listfirst a_0listeveryLast a_0listlast a_0listcells a_0listowner a_0way a_0waynumber a_0wayinField a_1first a_0wayfirst a_1last a_0waylast a_0chosen x2 (0 : Int32) inField_1 number_1 s1.1 everyCells_0list everyFirst_0list s1.2.1 everyLast_0list s1.2.2.1 s1.2.2.2.1 s1.2.2.2.2 s2.1 s2.2.1 first_1 s2.2.2.1 last_1 s2.2.2.2 chosen_0)) hx hb hts hiX1 tyX1 tyX1_ok nmX1 hown hK hP hD hS 0 rfl rfl 4 (by decide) (hts (.fieldLink RX1 30 "PaddockFields$CellSearch" "ways" "I") (List.mem_cons_of_mem _ (List.mem_append_left _ (List.mem_append_left _ (List.mem_append_left _ (List.mem_append_left _ (List.mem_of_getElem? (i := 3) rfl))))))) (fun _ h9 => h9) rfl rfl rfl rfl (Nat.le_of_ble_eq_true rfl) rfl dX1_countWays_23 (fun H locs hP hD hS => ?_)
  refine lv_aload_n hx hb dX1_countWays_26 rfl (lv_at hl 1 rfl) ?_
  obtain ⟨s3, h_s3, hf⟩ := hf_bind hf
  refine wh_calli (D := (dC, dI)) (ws' := (wl_fCellSearch_countWays cI cZ cJ cQ a_0 a_1 a_1inField a_1number a_0list a_0listeveryCells a_0listeveryFirst a_0listfirst a_0listeveryLast a_0listlast a_0listcells a_0listowner a_0way a_0waynumber a_0wayinField a_1first a_0wayfirst a_1last a_0waylast a_0chosen x2 (0 : Int32) inField_1 number_1 s1.1 everyCells_0list everyFirst_0list s1.2.1 everyLast_0list s1.2.2.1 s1.2.2.2.1 s1.2.2.2.2 s2.1 s2.2.1 first_1 s2.2.2.1 last_1 s2.2.2.2 chosen_0)) (va_runV (As := []) (rest := []) ⟨hx, hb, hml, hown, hts⟩ (c_fBoard_addsUp l dC dI cI cZ cJ cQ a_1 a_1inField a_1number a_1first a_1last _ h_s3) (cwV 0 hts gX1_countWays_X0_addsUp rfl rfl rfl (by decide +kernel) ⟨Nat.le_of_ble_eq_true rfl, Nat.le_of_ble_eq_true rfl⟩) (wh_preV (C := RX0) (T := TX0) (N := 4) hK hN hP hD [1, 2, 3] rfl rfl 0 0 rfl rfl) rfl rfl hl.1 rfl (lv_room (Nat.le_of_ble_eq_true rfl)) dX1_countWays_27 ⟨Nat.le_refl _, Nat.le_refl _⟩) hP hD hS hA [1, 2, 3] [0, 4, 5, 6, 7, 8, 9, 10, 11, 12, 13, 14, 15, 16, 17, 18, 19] [0, 17, 18, 19, 1, 2, 3, 4, 5, 6, 7, 8, 9, 10, 11, 12, 13, 14, 15, 16] rfl rfl rfl rfl (fun H locs hP hD hS => ?_)
  obtain ⟨j6, h_j6, hf⟩ := hf_bind hf
  have hJ_1 : ∀ (H : Heap) (locs : List Loc) (ls : Array Slot), lv_has ls 3 [(0, .ref a_0)] → va_P (dC, dI) vwCl (wl_fCellSearch_countWays cI cZ cJ cQ a_0 a_1 a_1inField a_1number a_0list a_0listeveryCells a_0listeveryFirst a_0listfirst a_0listeveryLast a_0listlast a_0listcells a_0listowner a_0way a_0waynumber a_0wayinField a_1first a_0wayfirst a_1last a_0waylast a_0chosen x2 j6.2.2.2.1 inField_1 number_1 s1.1 everyCells_0list everyFirst_0list s1.2.1 everyLast_0list s1.2.2.1 s1.2.2.2.1 s1.2.2.2.2 s2.1 j6.1 first_1 j6.2.1 last_1 j6.2.2.1 j6.2.2.2.2) H → va_D A (wl_fCellSearch_countWays cI cZ cJ cQ a_0 a_1 a_1inField a_1number a_0list a_0listeveryCells a_0listeveryFirst a_0listfirst a_0listeveryLast a_0listlast a_0listcells a_0listowner a_0way a_0waynumber a_0wayinField a_1first a_0wayfirst a_1last a_0waylast a_0chosen x2 j6.2.2.2.1 inField_1 number_1 s1.1 everyCells_0list everyFirst_0list s1.2.1 everyLast_0list s1.2.2.1 s1.2.2.2.1 s1.2.2.2.2 s2.1 j6.1 first_1 j6.2.1 last_1 j6.2.2.1 j6.2.2.2.2) → va_S A s.heap H locs → W p l e ({ frames := 92, cells := 0, slots := 0, locals := 2291 } : Room) s m [.ref a_0, .ref a_1, .int x2].toArray below meth c H locs 0 0 QQ (F0 m 42 ls []) := by
    intro H locs ls hl hP hD hS
    refine lv_aload_n hx hb dX1_countWays_42 rfl (lv_at hl 0 rfl) ?_
    refine va_get (D := (dC, dI)) (ci := 1) (C := RX1) (T := TX1) (N := 5) hx hb hts hiX1 hown hK hP 0 rfl rfl 4 (by decide) (hts (.fieldLink RX1 30 "PaddockFields$CellSearch" "ways" "I") (List.mem_cons_of_mem _ (List.mem_append_left _ (List.mem_append_left _ (List.mem_append_left _ (List.mem_append_left _ (List.mem_of_getElem? (i := 3) rfl))))))) (fun _ h9 => h9) rfl dX1_countWays_43 ?_
    obtain rfl := Option.some.inj hf
    exact hret _ _ _ _ hP hD hS dX1_countWays_46
  clear hf
  have hf := h_j6
  clear h_j6
  refine lv_if_eq (tgt := 42) hx hb dX1_countWays_30 (by decide) (fun cc => ?_) (fun cc => ?_)
  · replace hf := hf_pos cc hf
    obtain rfl := Option.some.inj hf
    exact hJ_1 _ _ _ (lv_sub hl [0] rfl) hP hD hS
  · replace hf := hf_neg cc hf
    refine lv_aload_n hx hb dX1_countWays_33 rfl (lv_at hl 0 rfl) ?_
    refine lv_aload_n hx hb dX1_countWays_34 rfl (lv_at hl 1 rfl) ?_
    obtain ⟨s4, h_s4, hf⟩ := hf_bind hf
    refine wh_calll (D := (dC, dI)) (ws' := (wl_fCellSearch_countWays cI cZ cJ cQ a_0 a_1 a_1inField a_1number a_0list a_0listeveryCells a_0listeveryFirst a_0listfirst a_0listeveryLast a_0listlast a_0listcells a_0listowner a_0way a_0waynumber a_0wayinField a_1first a_0wayfirst a_1last a_0waylast a_0chosen x2 (0 : Int32) inField_1 number_1 s1.1 everyCells_0list everyFirst_0list s1.2.1 everyLast_0list s1.2.2.1 s1.2.2.2.1 s1.2.2.2.2 s2.1 s2.2.1 first_1 s2.2.2.1 last_1 s2.2.2.2 chosen_0)) (va_runV (As := []) (rest := [.ref a_0]) ⟨hx, hb, hml, hown, hts⟩ (c_fBoard_cellsInFields l dC dI cI cZ cJ cQ a_1 a_1inField a_1number a_1first a_1last _ h_s4) (cwV 0 hts gX1_countWays_X0_cellsInFields rfl rfl rfl (by decide +kernel) ⟨Nat.le_of_ble_eq_true rfl, Nat.le_of_ble_eq_true rfl⟩) (wh_preV (C := RX0) (T := TX0) (N := 4) hK hN hP hD [1, 2] rfl rfl 0 0 rfl rfl) rfl rfl hl.1 rfl (lv_room (Nat.le_of_ble_eq_true rfl)) dX1_countWays_35 ⟨Nat.le_refl _, Nat.le_refl _⟩) hP hD hS hA [1, 2] [0, 3, 4, 5, 6, 7, 8, 9, 10, 11, 12, 13, 14, 15, 16, 17, 18, 19] [0, 18, 19, 1, 2, 3, 4, 5, 6, 7, 8, 9, 10, 11, 12, 13, 14, 15, 16, 17] rfl rfl rfl rfl (fun H locs hP hD hS => ?_)
    refine lv_iconst (v := 0) hx hb dX1_countWays_38 (by decide) ?_
    obtain ⟨s5, h_s5, hf⟩ := hf_bind hf
    refine wh_callv (D := (dC, dI)) (ws' := (wl_fCellSearch_countWays cI cZ cJ cQ a_0 a_1 a_1inField a_1number a_0list a_0listeveryCells a_0listeveryFirst a_0listfirst a_0listeveryLast a_0listlast a_0listcells a_0listowner a_0way a_0waynumber a_0wayinField a_1first a_0wayfirst a_1last a_0waylast a_0chosen x2 s5.2.2.2.2 inField_1 number_1 s1.1 everyCells_0list everyFirst_0list s1.2.1 everyLast_0list s1.2.2.1 s1.2.2.2.1 s1.2.2.2.2 s2.1 s5.2.1 first_1 s5.2.2.1 last_1 s5.2.2.2.1 s5.1)) (va_runV (As := [.long s4, .int (0 : Int32)]) (rest := []) ⟨hx, hb, hml, hown, hts⟩ (c_fCellSearch_fill l dC dI cI cZ cJ cQ a_0 a_0list a_0listcells a_0listfirst a_0chosen a_0listlast a_0way a_0wayinField a_0wayfirst a_0waylast a_0listeveryFirst a_0listeveryLast a_0listeveryCells a_0listowner a_0waynumber 44 _ _ _ _ _ _ _ _ _ _ _ _ _ _ h_s5) (cwV 2 hts gX1_countWays_X1_fill rfl rfl rfl (by decide +kernel) ⟨Nat.le_of_ble_eq_true rfl, Nat.le_of_ble_eq_true rfl⟩) (wh_preV (C := RX1) (T := TX1) (N := 5) hK hN hP hD [0, 4, 10, 7, 19, 9, 12, 14, 16, 18] rfl rfl 1 0 rfl rfl) rfl rfl hl.1 rfl (lv_room (Nat.le_of_ble_eq_true rfl)) dX1_countWays_39 ⟨Nat.le_refl _, Nat.le_refl _⟩) hP hD hS hA [0, 4, 10, 7, 19, 9, 12, 14, 16, 18] [1, 2, 3, 5, 6, 8, 11, 13, 15, 17] [10, 0, 1, 2, 11, 3, 4, 13, 5, 15, 12, 6, 16, 7, 17, 8, 18, 9, 19, 14] rfl rfl rfl rfl (fun H locs hP hD hS => ?_)
    obtain rfl := Option.some.inj hf
    exact hJ_1 _ _ _ (lv_sub hl [0] rfl) hP hD hS
set_option maxHeartbeats 4000000 in
set_option maxRecDepth 100000 in
theorem c_fCellSearch_firstWay (l : Launch) (dC : Nat → ClassId) (dI : Nat → Nat → Nat) (cI cZ cJ cQ : ClassId) (a_0 a_0list a_0chosen a_0way : Nat) (limit_0 : Int32) (ways_0 : Int32) (sz : Nat) {out : Unit} (hf : fCellSearch_firstWay = some out) : Met l yX1_firstWay wsX1_firstWay ({ frames := 0, cells := 0, slots := 0, locals := 0 } : Room) (va_Pc [.ref a_0] (wlP (dC, dI) (wlT cI cZ cJ cQ) (wl_fCellSearch_firstWay cI cZ cJ cQ a_0 a_0list a_0chosen a_0way limit_0 ways_0) sz)) (va_Qr (fun (_ : Unit) => True) (fun (u : Unit) (v : Nat) (t : State) => v = a_0way ∧ wlQ (dC, dI) (va_A (wl_fCellSearch_firstWay cI cZ cJ cQ a_0 a_0list a_0chosen a_0way limit_0 ways_0) sz) (wl_fCellSearch_firstWay cI cZ cJ cQ a_0 a_0list a_0chosen a_0way limit_0 ways_0) u t) (va_A (wl_fCellSearch_firstWay cI cZ cJ cQ a_0 a_0list a_0chosen a_0way limit_0 ways_0) sz)) 0 0 (va_A (wl_fCellSearch_firstWay cI cZ cJ cQ a_0 a_0list a_0chosen a_0way limit_0 ways_0) sz) := by
  refine wh_ofWr (lv := [(0, .ref a_0)]) (rc := "PaddockFields$Board") RX1 (by decide) rfl rfl (Nat.le_of_ble_eq_true rfl) rfl ?_
  intro p e s m below meth c A QQ hx hb hml hown hts hP hK hN hD hA hret ls hl
  have hS : va_S A s.heap s.heap [] := va_S.rf
  have hiX1 : ∀ w ∈ wsX10, w ∈ wsX1_firstWay := (fun _ h => List.mem_cons_of_mem _ (List.mem_append_right _ (h)))
  unfold fCellSearch_firstWay at hf
  refine lv_aload_n hx hb dX1_firstWay_0 rfl (lv_at hl 0 rfl) ?_
  refine va_get (D := (dC, dI)) (ci := 1) (C := RX1) (T := TX1) (N := 5) hx hb hts hiX1 hown hK hP 0 rfl rfl 2 (by decide) (hts (.fieldLink RX1 22 "PaddockFields$CellSearch" "way" "LPaddockFields$Board;") (List.mem_cons_of_mem _ (List.mem_append_left _ (List.mem_of_getElem? (i := 0) rfl)))) (fun _ h9 => h9) rfl dX1_firstWay_1 ?_
  obtain rfl := Option.some.inj hf
  exact hret _ _ _ _ hP hD hS dX1_firstWay_4
set_option maxHeartbeats 4000000 in
set_option maxRecDepth 100000 in
theorem c_fNumberSearch_countChoices (l : Launch) (dC : Nat → ClassId) (dI : Nat → Nat → Nat) (cI cZ cJ cQ : ClassId) (a_0 a_0choices a_0list a_0listowner a_0listcells a_0listeveryFirst a_0listeveryLast a_0listeveryCells a_0listfirst a_0listlast : Nat) (numbers_0 : Int64) (ways_0 : Int32) (sz : Nat) {F : Nat} {x1 : Int64} {choices_0 : Nat → Int32} {count_0list : Int32} {owner_0list : Nat → Int32} {cells_0list : Nat → Int64} {out : (Nat → Int32)} (hf : fNumberSearch_countChoices F x1 choices_0 count_0list owner_0list cells_0list = some out) : Met l yX6_countChoices wsX6_countChoices ({ frames := 1, cells := 0, slots := 0, locals := 21 } : Room) (va_Pc [.ref a_0, .long x1] (wlP (dC, dI) (wlT cI cZ cJ cQ) (wl_fNumberSearch_countChoices cI cZ cJ cQ a_0 a_0choices a_0list a_0listowner a_0listcells a_0listeveryFirst a_0listeveryLast a_0listeveryCells a_0listfirst a_0listlast numbers_0 ways_0 choices_0 count_0list owner_0list cells_0list) sz)) (va_Qv (fun (_ : Unit) => True) (wlQ (dC, dI) (va_A (wl_fNumberSearch_countChoices cI cZ cJ cQ a_0 a_0choices a_0list a_0listowner a_0listcells a_0listeveryFirst a_0listeveryLast a_0listeveryCells a_0listfirst a_0listlast numbers_0 ways_0 choices_0 count_0list owner_0list cells_0list) sz) (wl_fNumberSearch_countChoices cI cZ cJ cQ a_0 a_0choices a_0list a_0listowner a_0listcells a_0listeveryFirst a_0listeveryLast a_0listeveryCells a_0listfirst a_0listlast numbers_0 ways_0 out count_0list owner_0list cells_0list)) (va_A (wl_fNumberSearch_countChoices cI cZ cJ cQ a_0 a_0choices a_0list a_0listowner a_0listcells a_0listeveryFirst a_0listeveryLast a_0listeveryCells a_0listfirst a_0listlast numbers_0 ways_0 choices_0 count_0list owner_0list cells_0list) sz)) 0 0 (va_A (wl_fNumberSearch_countChoices cI cZ cJ cQ a_0 a_0choices a_0list a_0listowner a_0listcells a_0listeveryFirst a_0listeveryLast a_0listeveryCells a_0listfirst a_0listlast numbers_0 ways_0 choices_0 count_0list owner_0list cells_0list) sz) := by
  refine wh_ofWv (lv := [(0, .ref a_0), (1, .long x1)]) RX6 (by decide) rfl rfl (Nat.le_of_ble_eq_true rfl) rfl ?_
  intro p e s m below meth c A QQ hx hb hml hown hts hP hK hN hD hA hret ls hl
  have hS : va_S A s.heap s.heap [] := va_S.rf
  have hiX6 : ∀ w ∈ wsX60, w ∈ wsX6_countChoices := (fun _ h => List.mem_cons_of_mem _ (List.mem_append_left _ (List.mem_append_right _ (h))))
  unfold fNumberSearch_countChoices at hf
  refine lv_iconst (v := 0) hx hb dX6_countChoices_0 (by decide) ?_
  refine lv_istore_n (lv' := [(3, .int (0 : Int32)), (0, .ref a_0), (1, .long x1)]) hx hb dX6_countChoices_1 rfl hl (by decide) rfl (fun ls hl => ?_)
  obtain ⟨r2, h_r2, hf⟩ := hf_bind hf
  have hE_1 : ∀ (H : Heap) (locs : List Loc) (ls : Array Slot), lv_has ls 5 [(0, .ref a_0), (1, .long x1)] → va_P (dC, dI) vwCl (wl_fNumberSearch_countChoices cI cZ cJ cQ a_0 a_0choices a_0list a_0listowner a_0listcells a_0listeveryFirst a_0listeveryLast a_0listeveryCells a_0listfirst a_0listlast numbers_0 ways_0 r2.2 count_0list owner_0list cells_0list) H → va_D A (wl_fNumberSearch_countChoices cI cZ cJ cQ a_0 a_0choices a_0list a_0listowner a_0listcells a_0listeveryFirst a_0listeveryLast a_0listeveryCells a_0listfirst a_0listlast numbers_0 ways_0 r2.2 count_0list owner_0list cells_0list) → va_S A s.heap H locs → W p l e ({ frames := 1, cells := 0, slots := 0, locals := 21 } : Room) s m [.ref a_0, .long x1].toArray below meth c H locs 0 0 QQ (F0 m 21 ls []) := by
    intro H locs ls hl hP hD hS
    refine lv_iconst (v := 0) hx hb dX6_countChoices_21 (by decide) ?_
    refine lv_istore_n (lv' := [(3, .int (0 : Int32)), (0, .ref a_0), (1, .long x1)]) hx hb dX6_countChoices_22 rfl hl (by decide) rfl (fun ls hl => ?_)
    obtain ⟨r10, h_r10, hf⟩ := hf_bind hf
    have hE_2 : ∀ (H : Heap) (locs : List Loc) (ls : Array Slot), lv_has ls 5 [] → va_P (dC, dI) vwCl (wl_fNumberSearch_countChoices cI cZ cJ cQ a_0 a_0choices a_0list a_0listowner a_0listcells a_0listeveryFirst a_0listeveryLast a_0listeveryCells a_0listfirst a_0listlast numbers_0 ways_0 r10.2 count_0list owner_0list cells_0list) H → va_D A (wl_fNumberSearch_countChoices cI cZ cJ cQ a_0 a_0choices a_0list a_0listowner a_0listcells a_0listeveryFirst a_0listeveryLast a_0listeveryCells a_0listfirst a_0listlast numbers_0 ways_0 r10.2 count_0list owner_0list cells_0list) → va_S A s.heap H locs → W p l e ({ frames := 1, cells := 0, slots := 0, locals := 21 } : Room) s m [.ref a_0, .long x1].toArray below meth c H locs 0 0 QQ (F0 m 84 ls []) := by
      intro H locs ls hl hP hD hS
      obtain rfl := Option.some.inj hf
      exact hret _ _ _ _ hP hD hS dX6_countChoices_84
    have hL_3 : ∀ (N : Nat) (l3_4 : Int32) (choices_0_5 : Nat → Int32), fNumberSearch_countChoices_L23 F x1 count_0list owner_0list cells_0list N l3_4 choices_0_5 = some r10 → ∀ (H : Heap) (locs : List Loc) (ls : Array Slot), lv_has ls 5 [(0, .ref a_0), (1, .long x1), (3, .int l3_4)] → va_P (dC, dI) vwCl (wl_fNumberSearch_countChoices cI cZ cJ cQ a_0 a_0choices a_0list a_0listowner a_0listcells a_0listeveryFirst a_0listeveryLast a_0listeveryCells a_0listfirst a_0listlast numbers_0 ways_0 choices_0_5 count_0list owner_0list cells_0list) H → va_D A (wl_fNumberSearch_countChoices cI cZ cJ cQ a_0 a_0choices a_0list a_0listowner a_0listcells a_0listeveryFirst a_0listeveryLast a_0listeveryCells a_0listfirst a_0listlast numbers_0 ways_0 choices_0_5 count_0list owner_0list cells_0list) → va_S A s.heap H locs → W p l e ({ frames := 1, cells := 0, slots := 0, locals := 21 } : Room) s m [.ref a_0, .long x1].toArray below meth c H locs 0 0 QQ (F0 m 23 ls []) := by
      intro N
      induction N with
      | zero => intro l3_4 choices_0_5 hf; exact nomatch (show none = some _ from hf)
      | succ N ih =>
        intro l3_4 choices_0_5 hf H locs ls hl hP hD hS
        rw [fNumberSearch_countChoices_L23] at hf
        refine lv_iload_n hx hb dX6_countChoices_23 rfl (lv_at hl 2 rfl) ?_
        refine lv_aload_n hx hb dX6_countChoices_24 rfl (lv_at hl 0 rfl) ?_
        refine va_get (D := (dC, dI)) (ci := 6) (C := RX6) (T := TX6) (N := 4) hx hb hts hiX6 hown hK hP 0 rfl rfl 0 (by decide) (hts (.fieldLink RX6 9 "PaddockFields$NumberSearch" "list" "LPaddockFields$Rectangles;") (List.mem_cons_of_mem _ (List.mem_append_left _ (List.mem_append_left _ (List.mem_of_getElem? (i := 1) rfl))))) (fun _ h9 => h9) rfl dX6_countChoices_25 ?_
        obtain ⟨s3, h_s3, hf⟩ := hf_bind hf
        refine wh_calli (D := (dC, dI)) (ws' := (wl_fNumberSearch_countChoices cI cZ cJ cQ a_0 a_0choices a_0list a_0listowner a_0listcells a_0listeveryFirst a_0listeveryLast a_0listeveryCells a_0listfirst a_0listlast numbers_0 ways_0 choices_0_5 count_0list owner_0list cells_0list)) (va_runV (As := []) (rest := [.int l3_4]) ⟨hx, hb, hml, hown, hts⟩ (c_fRectangles_size l dC dI cI cZ cJ cQ a_0list a_0listeveryFirst a_0listeveryLast a_0listeveryCells a_0listfirst a_0listlast a_0listcells a_0listowner _ h_s3) (cwV 0 hts gX6_countChoices_X7_size rfl rfl rfl (by decide +kernel) ⟨Nat.le_of_ble_eq_true rfl, Nat.le_of_ble_eq_true rfl⟩) (wh_preV (C := RX7) (T := TX7) (N := 8) hK hN hP hD [2] rfl rfl 7 0 rfl rfl) rfl rfl hl.1 rfl (lv_room (Nat.le_of_ble_eq_true rfl)) dX6_countChoices_28 ⟨Nat.le_refl _, Nat.le_refl _⟩) hP hD hS hA [2] [0, 1, 3, 4] [0, 1, 4, 2, 3] rfl rfl rfl rfl (fun H locs hP hD hS => ?_)
        refine lv_icmp_ge (tgt := 84) hx hb dX6_countChoices_31 (by decide) (fun cc => ?_) (fun cc => ?_)
        · replace hf := hf_pos cc hf
          obtain rfl := Option.some.inj hf
          exact hE_2 _ _ _ (lv_sub hl [] rfl) hP hD hS
        · replace hf := hf_neg cc hf
          refine lv_aload_n hx hb dX6_countChoices_34 rfl (lv_at hl 0 rfl) ?_
          refine va_get (D := (dC, dI)) (ci := 6) (C := RX6) (T := TX6) (N := 4) hx hb hts hiX6 hown hK hP 0 rfl rfl 0 (by decide) (hts (.fieldLink RX6 9 "PaddockFields$NumberSearch" "list" "LPaddockFields$Rectangles;") (List.mem_cons_of_mem _ (List.mem_append_left _ (List.mem_append_left _ (List.mem_of_getElem? (i := 1) rfl))))) (fun _ h9 => h9) rfl dX6_countChoices_35 ?_
          refine lv_iload_n hx hb dX6_countChoices_38 rfl (lv_at hl 2 rfl) ?_
          obtain ⟨s4, h_s4, hf⟩ := hf_bind hf
          refine wh_calli (D := (dC, dI)) (ws' := (wl_fNumberSearch_countChoices cI cZ cJ cQ a_0 a_0choices a_0list a_0listowner a_0listcells a_0listeveryFirst a_0listeveryLast a_0listeveryCells a_0listfirst a_0listlast numbers_0 ways_0 choices_0_5 count_0list owner_0list cells_0list)) (va_runV (As := [.int l3_4]) (rest := []) ⟨hx, hb, hml, hown, hts⟩ (c_fRectangles_ownerAt l dC dI cI cZ cJ cQ a_0list a_0listowner a_0listeveryFirst a_0listeveryLast a_0listeveryCells a_0listfirst a_0listlast a_0listcells _ h_s4) (cwV 1 hts gX6_countChoices_X7_ownerAt rfl rfl rfl (by decide +kernel) ⟨Nat.le_of_ble_eq_true rfl, Nat.le_of_ble_eq_true rfl⟩) (wh_preV (C := RX7) (T := TX7) (N := 8) hK hN hP hD [2, 3] rfl rfl 7 0 rfl rfl) rfl rfl hl.1 rfl (lv_room (Nat.le_of_ble_eq_true rfl)) dX6_countChoices_39 ⟨Nat.le_refl _, Nat.le_refl _⟩) hP hD hS hA [2, 3] [0, 1, 4] [0, 1, 3, 4, 2] rfl rfl rfl rfl (fun H locs hP hD hS => ?_)
          refine lv_istore (lv' := [(4, .int s4), (0, .ref a_0), (1, .long x1), (3, .int l3_4)]) hx hb dX6_countChoices_42 hl (by decide) rfl (fun ls hl => ?_)
          refine lv_iload hx hb dX6_countChoices_44 (lv_at hl 0 rfl) ?_
          obtain ⟨s5, h_s5, hf⟩ := hf_bind hf
          refine wh_calli (D := (dC, dI)) (ws' := (wl_fNumberSearch_countChoices cI cZ cJ cQ a_0 a_0choices a_0list a_0listowner a_0listcells a_0listeveryFirst a_0listeveryLast a_0listeveryCells a_0listfirst a_0listlast numbers_0 ways_0 choices_0_5 count_0list owner_0list cells_0list)) (va_runSN (As := [.int s4]) (rest := []) ⟨hx, hb, hml, hown, hts⟩ (c_fX_isCell l dC dI cI cZ cJ cQ _ h_s5) ⟨va_cnB 1 hts gX6_countChoices_X9_isCell_n86 rfl rfl rfl (hN (RX6, 86, yX9_isCell) (List.mem_of_getElem? (i := 18) rfl)) (hts (.initialized RX9) (List.mem_cons_of_mem _ (List.mem_append_left _ (List.mem_append_left _ (List.mem_of_getElem? (i := 14) rfl))))) (by decide +kernel) ⟨Nat.le_of_ble_eq_true rfl, Nat.le_of_ble_eq_true rfl⟩, (hts (.static yX9_isCell) (List.mem_cons_of_mem _ (List.mem_append_left _ (List.mem_append_left _ (List.mem_of_getElem? (i := 13) rfl))))), trivial⟩ (wh_preS hK hN hP hD [] rfl rfl) rfl rfl hl.1 rfl (lv_room (Nat.le_of_ble_eq_true rfl)) dX6_countChoices_46 ⟨Nat.le_refl _, Nat.le_refl _⟩) hP hD hS hA [] [0, 1, 2, 3, 4] [0, 1, 2, 3, 4] rfl rfl rfl rfl (fun H locs hP hD hS => ?_)
          obtain ⟨j9, h_j9, hf⟩ := hf_bind hf
          have hJ_6 : ∀ (H : Heap) (locs : List Loc) (ls : Array Slot), lv_has ls 5 [(0, .ref a_0), (1, .long x1), (3, .int l3_4)] → va_P (dC, dI) vwCl (wl_fNumberSearch_countChoices cI cZ cJ cQ a_0 a_0choices a_0list a_0listowner a_0listcells a_0listeveryFirst a_0listeveryLast a_0listeveryCells a_0listfirst a_0listlast numbers_0 ways_0 j9 count_0list owner_0list cells_0list) H → va_D A (wl_fNumberSearch_countChoices cI cZ cJ cQ a_0 a_0choices a_0list a_0listowner a_0listcells a_0listeveryFirst a_0listeveryLast a_0listeveryCells a_0listfirst a_0listlast numbers_0 ways_0 j9 count_0list owner_0list cells_0list) → va_S A s.heap H locs → W p l e ({ frames := 1, cells := 0, slots := 0, locals := 21 } : Room) s m [.ref a_0, .long x1].toArray below meth c H locs 0 0 QQ (F0 m 78 ls []) := by
            intro H locs ls hl hP hD hS
            refine lv_iinc (v := (l3_4 + (1 : Int32))) (lv' := [(3, .int (l3_4 + (1 : Int32))), (0, .ref a_0), (1, .long x1)]) hx hb dX6_countChoices_78 hl (k := 2) rfl rfl (by decide) rfl (fun ls hl => ?_)
            refine lv_goto (tgt := 23) hx hb dX6_countChoices_81 (by decide) ?_
            exact ih _ _ hf _ _ _ (lv_sub hl [1, 2, 0] rfl) hP hD hS
          clear hf
          have hf := h_j9
          clear h_j9
          refine lv_if_eq (tgt := 78) hx hb dX6_countChoices_49 (by decide) (fun cc => ?_) (fun cc => ?_)
          · replace hf := hf_pos cc hf
            obtain rfl := Option.some.inj hf
            exact hJ_6 _ _ _ (lv_sub hl [1, 2, 3] rfl) hP hD hS
          · replace hf := hf_neg cc hf
            refine lv_aload_n hx hb dX6_countChoices_52 rfl (lv_at hl 1 rfl) ?_
            refine va_get (D := (dC, dI)) (ci := 6) (C := RX6) (T := TX6) (N := 4) hx hb hts hiX6 hown hK hP 0 rfl rfl 0 (by decide) (hts (.fieldLink RX6 9 "PaddockFields$NumberSearch" "list" "LPaddockFields$Rectangles;") (List.mem_cons_of_mem _ (List.mem_append_left _ (List.mem_append_left _ (List.mem_of_getElem? (i := 1) rfl))))) (fun _ h9 => h9) rfl dX6_countChoices_53 ?_
            refine lv_iload_n hx hb dX6_countChoices_56 rfl (lv_at hl 3 rfl) ?_
            obtain ⟨s6, h_s6, hf⟩ := hf_bind hf
            refine wh_calll (D := (dC, dI)) (ws' := (wl_fNumberSearch_countChoices cI cZ cJ cQ a_0 a_0choices a_0list a_0listowner a_0listcells a_0listeveryFirst a_0listeveryLast a_0listeveryCells a_0listfirst a_0listlast numbers_0 ways_0 choices_0_5 count_0list owner_0list cells_0list)) (va_runV (As := [.int l3_4]) (rest := []) ⟨hx, hb, hml, hown, hts⟩ (c_fRectangles_cellsAt l dC dI cI cZ cJ cQ a_0list a_0listcells a_0listeveryFirst a_0listeveryLast a_0listeveryCells a_0listfirst a_0listlast a_0listowner _ h_s6) (cwV 1 hts gX6_countChoices_X7_cellsAt rfl rfl rfl (by decide +kernel) ⟨Nat.le_of_ble_eq_true rfl, Nat.le_of_ble_eq_true rfl⟩) (wh_preV (C := RX7) (T := TX7) (N := 8) hK hN hP hD [2, 4] rfl rfl 7 0 rfl rfl) rfl rfl hl.1 rfl (lv_room (Nat.le_of_ble_eq_true rfl)) dX6_countChoices_57 ⟨Nat.le_refl _, Nat.le_refl _⟩) hP hD hS hA [2, 4] [0, 1, 3] [0, 1, 3, 2, 4] rfl rfl rfl rfl (fun H locs hP hD hS => ?_)
            refine lv_lload_n hx hb dX6_countChoices_60 rfl (lv_at hl 2 rfl) ?_
            refine lv_land hx hb dX6_countChoices_61 ?_
            refine lv_lconst (v := 0) hx hb dX6_countChoices_62 (by decide) ?_
            refine W.lcmp hx hb dX6_countChoices_63 ?_
            refine lv_if_ne (tgt := 78) hx hb dX6_countChoices_64 (by decide) (fun cc => ?_) (fun cc => ?_)
            · replace hf := hf_pos (mt (lg_cmp_eq _ _).mpr cc) hf
              obtain rfl := Option.some.inj hf
              exact hJ_6 _ _ _ (lv_sub hl [1, 2, 3] rfl) hP hD hS
            · replace hf := hf_neg (not_not_intro ((lg_cmp_eq _ _).mp cc)) hf
              refine lv_aload_n hx hb dX6_countChoices_67 rfl (lv_at hl 1 rfl) ?_
              refine va_get (D := (dC, dI)) (ci := 6) (C := RX6) (T := TX6) (N := 4) hx hb hts hiX6 hown hK hP 0 rfl rfl 1 (by decide) (hts (.fieldLink RX6 15 "PaddockFields$NumberSearch" "choices" "[I") (List.mem_cons_of_mem _ (List.mem_append_left _ (List.mem_append_left _ (List.mem_of_getElem? (i := 0) rfl))))) (fun _ h9 => h9) rfl dX6_countChoices_68 ?_
              refine lv_iload hx hb dX6_countChoices_71 (lv_at hl 0 rfl) ?_
              refine lv_dup2_11 hx hb dX6_countChoices_73 rfl rfl ?_
              obtain ⟨v7, h_v7, hf⟩ := hf_bind hf
              refine wh_ldI (D := (dC, dI)) hx hb hK hP 1 0 rfl rfl h_v7 dX6_countChoices_74 ?_
              refine lv_iconst (v := 1) hx hb dX6_countChoices_75 (by decide) ?_
              refine lv_iadd hx hb dX6_countChoices_76 ?_
              obtain ⟨w8, h_w8, hf⟩ := hf_bind hf
              refine wh_stI (D := (dC, dI)) (ws' := (wl_fNumberSearch_countChoices cI cZ cJ cQ a_0 a_0choices a_0list a_0listowner a_0listcells a_0listeveryFirst a_0listeveryLast a_0listeveryCells a_0listfirst a_0listlast numbers_0 ways_0 w8 count_0list owner_0list cells_0list)) hx hb hK hP hD hS 1 0 rfl rfl rfl h_w8 dX6_countChoices_77 (fun H locs hP hD hS => ?_)
              obtain rfl := Option.some.inj hf
              exact hJ_6 _ _ _ (lv_sub hl [1, 2, 3] rfl) hP hD hS
    exact hL_3 _ _ _ h_r10 _ _ _ (lv_sub hl [1, 2, 0] rfl) hP hD hS
  have hL_7 : ∀ (N : Nat) (l3_8 : Int32) (choices_0_9 : Nat → Int32), fNumberSearch_countChoices_L2 F N l3_8 choices_0_9 = some r2 → ∀ (H : Heap) (locs : List Loc) (ls : Array Slot), lv_has ls 5 [(0, .ref a_0), (1, .long x1), (3, .int l3_8)] → va_P (dC, dI) vwCl (wl_fNumberSearch_countChoices cI cZ cJ cQ a_0 a_0choices a_0list a_0listowner a_0listcells a_0listeveryFirst a_0listeveryLast a_0listeveryCells a_0listfirst a_0listlast numbers_0 ways_0 choices_0_9 count_0list owner_0list cells_0list) H → va_D A (wl_fNumberSearch_countChoices cI cZ cJ cQ a_0 a_0choices a_0list a_0listowner a_0listcells a_0listeveryFirst a_0listeveryLast a_0listeveryCells a_0listfirst a_0listlast numbers_0 ways_0 choices_0_9 count_0list owner_0list cells_0list) → va_S A s.heap H locs → W p l e ({ frames := 1, cells := 0, slots := 0, locals := 21 } : Room) s m [.ref a_0, .long x1].toArray below meth c H locs 0 0 QQ (F0 m 2 ls []) := by
    intro N
    induction N with
    | zero => intro l3_8 choices_0_9 hf; exact nomatch (show none = some _ from hf)
    | succ N ih =>
      intro l3_8 choices_0_9 hf H locs ls hl hP hD hS
      rw [fNumberSearch_countChoices_L2] at hf
      refine lv_iload_n hx hb dX6_countChoices_2 rfl (lv_at hl 2 rfl) ?_
      refine lv_bipush (v := 42) hx hb dX6_countChoices_3 (by decide) ?_
      refine lv_icmp_ge (tgt := 21) hx hb dX6_countChoices_5 (by decide) (fun cc => ?_) (fun cc => ?_)
      · replace hf := hf_pos cc hf
        obtain rfl := Option.some.inj hf
        exact hE_1 _ _ _ (lv_sub hl [0, 1] rfl) hP hD hS
      · replace hf := hf_neg cc hf
        refine lv_aload_n hx hb dX6_countChoices_8 rfl (lv_at hl 0 rfl) ?_
        refine va_get (D := (dC, dI)) (ci := 6) (C := RX6) (T := TX6) (N := 4) hx hb hts hiX6 hown hK hP 0 rfl rfl 1 (by decide) (hts (.fieldLink RX6 15 "PaddockFields$NumberSearch" "choices" "[I") (List.mem_cons_of_mem _ (List.mem_append_left _ (List.mem_append_left _ (List.mem_of_getElem? (i := 0) rfl))))) (fun _ h9 => h9) rfl dX6_countChoices_9 ?_
        refine lv_iload_n hx hb dX6_countChoices_12 rfl (lv_at hl 2 rfl) ?_
        refine lv_iconst (v := 0) hx hb dX6_countChoices_13 (by decide) ?_
        obtain ⟨w1, h_w1, hf⟩ := hf_bind hf
        refine wh_stI (D := (dC, dI)) (ws' := (wl_fNumberSearch_countChoices cI cZ cJ cQ a_0 a_0choices a_0list a_0listowner a_0listcells a_0listeveryFirst a_0listeveryLast a_0listeveryCells a_0listfirst a_0listlast numbers_0 ways_0 w1 count_0list owner_0list cells_0list)) hx hb hK hP hD hS 1 0 rfl rfl rfl h_w1 dX6_countChoices_14 (fun H locs hP hD hS => ?_)
        refine lv_iinc (v := (l3_8 + (1 : Int32))) (lv' := [(3, .int (l3_8 + (1 : Int32))), (0, .ref a_0), (1, .long x1)]) hx hb dX6_countChoices_15 hl (k := 2) rfl rfl (by decide) rfl (fun ls hl => ?_)
        refine lv_goto (tgt := 2) hx hb dX6_countChoices_18 (by decide) ?_
        exact ih _ _ hf _ _ _ (lv_sub hl [1, 2, 0] rfl) hP hD hS
  exact hL_7 _ _ _ h_r2 _ _ _ (lv_sub hl [1, 2, 0] rfl) hP hD hS
set_option maxHeartbeats 4000000 in
set_option maxRecDepth 100000 in
theorem c_fNumberSearch_scarcest (l : Launch) (dC : Nat → ClassId) (dI : Nat → Nat → Nat) (cI cZ cJ cQ : ClassId) (a_0 a_0choices a_0list a_0listowner a_0listcells a_0listeveryFirst a_0listeveryLast a_0listeveryCells a_0listfirst a_0listlast : Nat) (ways_0 : Int32) (sz : Nat) {F : Nat} {x1 : Int64} {choices_0 : Nat → Int32} {count_0list : Int32} {owner_0list : Nat → Int32} {cells_0list : Nat → Int64} {numbers_0 : Int64} {out : Int32 × (Nat → Int32)} (hf : fNumberSearch_scarcest F x1 choices_0 count_0list owner_0list cells_0list numbers_0 = some out) : Met l yX6_scarcest wsX6_scarcest ({ frames := 2, cells := 0, slots := 0, locals := 45 } : Room) (va_Pc [.ref a_0, .long x1] (wlP (dC, dI) (wlT cI cZ cJ cQ) (wl_fNumberSearch_scarcest cI cZ cJ cQ a_0 a_0choices a_0list a_0listowner a_0listcells a_0listeveryFirst a_0listeveryLast a_0listeveryCells a_0listfirst a_0listlast numbers_0 ways_0 choices_0 count_0list owner_0list cells_0list) sz)) (va_Qi (fun (v : Int32) (_ : Unit) => v = out.1) (wlQ (dC, dI) (va_A (wl_fNumberSearch_scarcest cI cZ cJ cQ a_0 a_0choices a_0list a_0listowner a_0listcells a_0listeveryFirst a_0listeveryLast a_0listeveryCells a_0listfirst a_0listlast numbers_0 ways_0 choices_0 count_0list owner_0list cells_0list) sz) (wl_fNumberSearch_scarcest cI cZ cJ cQ a_0 a_0choices a_0list a_0listowner a_0listcells a_0listeveryFirst a_0listeveryLast a_0listeveryCells a_0listfirst a_0listlast numbers_0 ways_0 out.2 count_0list owner_0list cells_0list)) (va_A (wl_fNumberSearch_scarcest cI cZ cJ cQ a_0 a_0choices a_0list a_0listowner a_0listcells a_0listeveryFirst a_0listeveryLast a_0listeveryCells a_0listfirst a_0listlast numbers_0 ways_0 choices_0 count_0list owner_0list cells_0list) sz)) 0 0 (va_A (wl_fNumberSearch_scarcest cI cZ cJ cQ a_0 a_0choices a_0list a_0listowner a_0listcells a_0listeveryFirst a_0listeveryLast a_0listeveryCells a_0listfirst a_0listlast numbers_0 ways_0 choices_0 count_0list owner_0list cells_0list) sz) := by
  refine wh_ofWi (lv := [(0, .ref a_0), (1, .long x1)]) RX6 (by decide) rfl rfl (Nat.le_of_ble_eq_true rfl) rfl ?_
  intro p e s m below meth c A QQ hx hb hml hown hts hP hK hN hD hA hret ls hl
  have hS : va_S A s.heap s.heap [] := va_S.rf
  have hiX6 : ∀ w ∈ wsX60, w ∈ wsX6_scarcest := (fun _ h => List.mem_cons_of_mem _ (List.mem_append_left _ (List.mem_append_right _ (h))))
  unfold fNumberSearch_scarcest at hf
  refine lv_aload_n hx hb dX6_scarcest_0 rfl (lv_at hl 0 rfl) ?_
  refine lv_lload_n hx hb dX6_scarcest_1 rfl (lv_at hl 1 rfl) ?_
  obtain ⟨s1, h_s1, hf⟩ := hf_bind hf
  refine wh_callv (D := (dC, dI)) (ws' := (wl_fNumberSearch_scarcest cI cZ cJ cQ a_0 a_0choices a_0list a_0listowner a_0listcells a_0listeveryFirst a_0listeveryLast a_0listeveryCells a_0listfirst a_0listlast numbers_0 ways_0 s1 count_0list owner_0list cells_0list)) (va_runV (As := [.long x1]) (rest := []) ⟨hx, hb, hml, hown, hts⟩ (c_fNumberSearch_countChoices l dC dI cI cZ cJ cQ a_0 a_0choices a_0list a_0listowner a_0listcells a_0listeveryFirst a_0listeveryLast a_0listeveryCells a_0listfirst a_0listlast numbers_0 ways_0 _ h_s1) (cwV 1 hts gX6_scarcest_X6_countChoices rfl rfl rfl (by decide +kernel) ⟨Nat.le_of_ble_eq_true rfl, Nat.le_of_ble_eq_true rfl⟩) (wh_preV (C := RX6) (T := TX6) (N := 4) hK hN hP hD [0, 1, 2, 3, 4] rfl rfl 6 0 rfl rfl) rfl rfl hl.1 rfl (lv_room (Nat.le_of_ble_eq_true rfl)) dX6_scarcest_2 ⟨Nat.le_refl _, Nat.le_refl _⟩) hP hD hS hA [0, 1, 2, 3, 4] [] [0, 1, 2, 3, 4] rfl rfl rfl rfl (fun H locs hP hD hS => ?_)
  refine lv_bipush (v := 42) hx hb dX6_scarcest_5 (by decide) ?_
  refine lv_istore_n (lv' := [(3, .int (42 : Int32)), (0, .ref a_0), (1, .long x1)]) hx hb dX6_scarcest_7 rfl hl (by decide) rfl (fun ls hl => ?_)
  refine lv_sipush (v := 589) hx hb dX6_scarcest_8 (by decide) ?_
  refine lv_istore (lv' := [(4, .int (589 : Int32)), (3, .int (42 : Int32)), (0, .ref a_0), (1, .long x1)]) hx hb dX6_scarcest_11 hl (by decide) rfl (fun ls hl => ?_)
  refine lv_iconst (v := 0) hx hb dX6_scarcest_13 (by decide) ?_
  refine lv_istore (lv' := [(5, .int (0 : Int32)), (4, .int (589 : Int32)), (3, .int (42 : Int32)), (0, .ref a_0), (1, .long x1)]) hx hb dX6_scarcest_14 hl (by decide) rfl (fun ls hl => ?_)
  obtain ⟨r6, h_r6, hf⟩ := hf_bind hf
  have hE_1 : ∀ (H : Heap) (locs : List Loc) (ls : Array Slot), lv_has ls 6 [(3, .int r6.1)] → va_P (dC, dI) vwCl (wl_fNumberSearch_scarcest cI cZ cJ cQ a_0 a_0choices a_0list a_0listowner a_0listcells a_0listeveryFirst a_0listeveryLast a_0listeveryCells a_0listfirst a_0listlast numbers_0 ways_0 s1 count_0list owner_0list cells_0list) H → va_D A (wl_fNumberSearch_scarcest cI cZ cJ cQ a_0 a_0choices a_0list a_0listowner a_0listcells a_0listeveryFirst a_0listeveryLast a_0listeveryCells a_0listfirst a_0listlast numbers_0 ways_0 s1 count_0list owner_0list cells_0list) → va_S A s.heap H locs → W p l e ({ frames := 2, cells := 0, slots := 0, locals := 45 } : Room) s m [.ref a_0, .long x1].toArray below meth c H locs 0 0 QQ (F0 m 71 ls []) := by
    intro H locs ls hl hP hD hS
    refine lv_iload_n hx hb dX6_scarcest_71 rfl (lv_at hl 0 rfl) ?_
    obtain rfl := Option.some.inj hf
    exact hret _ _ _ _ hP hD hS dX6_scarcest_72
  have hL_2 : ∀ (N : Nat) (l3_3 : Int32) (l4_4 : Int32) (l5_5 : Int32), fNumberSearch_scarcest_L16 F x1 s1 numbers_0 N l3_3 l4_4 l5_5 = some r6 → ∀ (H : Heap) (locs : List Loc) (ls : Array Slot), lv_has ls 6 [(0, .ref a_0), (1, .long x1), (3, .int l3_3), (4, .int l4_4), (5, .int l5_5)] → va_P (dC, dI) vwCl (wl_fNumberSearch_scarcest cI cZ cJ cQ a_0 a_0choices a_0list a_0listowner a_0listcells a_0listeveryFirst a_0listeveryLast a_0listeveryCells a_0listfirst a_0listlast numbers_0 ways_0 s1 count_0list owner_0list cells_0list) H → va_D A (wl_fNumberSearch_scarcest cI cZ cJ cQ a_0 a_0choices a_0list a_0listowner a_0listcells a_0listeveryFirst a_0listeveryLast a_0listeveryCells a_0listfirst a_0listlast numbers_0 ways_0 s1 count_0list owner_0list cells_0list) → va_S A s.heap H locs → W p l e ({ frames := 2, cells := 0, slots := 0, locals := 45 } : Room) s m [.ref a_0, .long x1].toArray below meth c H locs 0 0 QQ (F0 m 16 ls []) := by
    intro N
    induction N with
    | zero => intro l3_3 l4_4 l5_5 hf; exact nomatch (show none = some _ from hf)
    | succ N ih =>
      intro l3_3 l4_4 l5_5 hf H locs ls hl hP hD hS
      rw [fNumberSearch_scarcest_L16] at hf
      refine lv_iload hx hb dX6_scarcest_16 (lv_at hl 4 rfl) ?_
      refine lv_bipush (v := 42) hx hb dX6_scarcest_18 (by decide) ?_
      refine lv_icmp_ge (tgt := 71) hx hb dX6_scarcest_20 (by decide) (fun cc => ?_) (fun cc => ?_)
      · replace hf := hf_pos cc hf
        obtain rfl := Option.some.inj hf
        exact hE_1 _ _ _ (lv_sub hl [2] rfl) hP hD hS
      · replace hf := hf_neg cc hf
        refine lv_aload_n hx hb dX6_scarcest_23 rfl (lv_at hl 0 rfl) ?_
        refine va_get (D := (dC, dI)) (ci := 6) (C := RX6) (T := TX6) (N := 4) hx hb hts hiX6 hown hK hP 0 rfl rfl 2 (by decide) (hts (.fieldLink RX6 19 "PaddockFields$NumberSearch" "numbers" "J") (List.mem_cons_of_mem _ (List.mem_append_left _ (List.mem_append_left _ (List.mem_append_left _ (List.mem_of_getElem? (i := 0) rfl)))))) (fun _ h9 => h9) rfl dX6_scarcest_24 ?_
        refine lv_lload_n hx hb dX6_scarcest_27 rfl (lv_at hl 1 rfl) ?_
        refine lv_ldc2 hx hb hown (hts (.constantLong RX6 56 (-1)) (List.mem_cons_of_mem _ (List.mem_append_left _ (List.mem_append_left _ (List.mem_append_left _ (List.mem_of_getElem? (i := 1) rfl)))))) dX6_scarcest_28 ?_
        refine lv_lxor hx hb dX6_scarcest_31 ?_
        refine lv_land hx hb dX6_scarcest_32 ?_
        refine lv_iload hx hb dX6_scarcest_33 (lv_at hl 4 rfl) ?_
        obtain ⟨s2, h_s2, hf⟩ := hf_bind hf
        refine wh_calli (D := (dC, dI)) (ws' := (wl_fNumberSearch_scarcest cI cZ cJ cQ a_0 a_0choices a_0list a_0listowner a_0listcells a_0listeveryFirst a_0listeveryLast a_0listeveryCells a_0listfirst a_0listlast numbers_0 ways_0 s1 count_0list owner_0list cells_0list)) (va_runSN (As := [.long (numbers_0 &&& (x1 ^^^ (-1 : Int64))), .int l5_5]) (rest := []) ⟨hx, hb, hml, hown, hts⟩ (c_fX_has l dC dI cI cZ cJ cQ _ h_s2) ⟨va_cnB 2 hts gX6_scarcest_X9_has_n82 rfl rfl rfl (hN (RX6, 82, yX9_has) (List.mem_of_getElem? (i := 17) rfl)) (hts (.initialized RX9) (List.mem_cons_of_mem _ (List.mem_append_left _ (List.mem_append_left _ (List.mem_append_left _ (List.mem_of_getElem? (i := 21) rfl)))))) (by decide +kernel) ⟨Nat.le_of_ble_eq_true rfl, Nat.le_of_ble_eq_true rfl⟩, (hts (.static yX9_has) (List.mem_cons_of_mem _ (List.mem_append_left _ (List.mem_append_left _ (List.mem_append_right _ (List.mem_of_getElem? (i := 4) rfl)))))), trivial⟩ (wh_preS hK hN hP hD [] rfl rfl) rfl rfl hl.1 rfl (lv_room (Nat.le_of_ble_eq_true rfl)) dX6_scarcest_35 ⟨Nat.le_refl _, Nat.le_refl _⟩) hP hD hS hA [] [0, 1, 2, 3, 4] [0, 1, 2, 3, 4] rfl rfl rfl rfl (fun H locs hP hD hS => ?_)
        obtain ⟨j5, h_j5, hf⟩ := hf_bind hf
        have hJ_6 : ∀ (H : Heap) (locs : List Loc) (ls : Array Slot), lv_has ls 6 [(0, .ref a_0), (1, .long x1), (3, .int j5.1), (4, .int j5.2), (5, .int l5_5)] → va_P (dC, dI) vwCl (wl_fNumberSearch_scarcest cI cZ cJ cQ a_0 a_0choices a_0list a_0listowner a_0listcells a_0listeveryFirst a_0listeveryLast a_0listeveryCells a_0listfirst a_0listlast numbers_0 ways_0 s1 count_0list owner_0list cells_0list) H → va_D A (wl_fNumberSearch_scarcest cI cZ cJ cQ a_0 a_0choices a_0list a_0listowner a_0listcells a_0listeveryFirst a_0listeveryLast a_0listeveryCells a_0listfirst a_0listlast numbers_0 ways_0 s1 count_0list owner_0list cells_0list) → va_S A s.heap H locs → W p l e ({ frames := 2, cells := 0, slots := 0, locals := 45 } : Room) s m [.ref a_0, .long x1].toArray below meth c H locs 0 0 QQ (F0 m 65 ls []) := by
          intro H locs ls hl hP hD hS
          refine lv_iinc (v := (l5_5 + (1 : Int32))) (lv' := [(5, .int (l5_5 + (1 : Int32))), (0, .ref a_0), (1, .long x1), (3, .int j5.1), (4, .int j5.2)]) hx hb dX6_scarcest_65 hl (k := 4) rfl rfl (by decide) rfl (fun ls hl => ?_)
          refine lv_goto (tgt := 16) hx hb dX6_scarcest_68 (by decide) ?_
          exact ih _ _ _ hf _ _ _ (lv_sub hl [1, 2, 3, 4, 0] rfl) hP hD hS
        clear hf
        have hf := h_j5
        clear h_j5
        refine lv_if_eq (tgt := 65) hx hb dX6_scarcest_38 (by decide) (fun cc => ?_) (fun cc => ?_)
        · replace hf := hf_pos cc hf
          obtain rfl := Option.some.inj hf
          exact hJ_6 _ _ _ (lv_sub hl [0, 1, 2, 3, 4] rfl) hP hD hS
        · replace hf := hf_neg cc hf
          refine lv_aload_n hx hb dX6_scarcest_41 rfl (lv_at hl 0 rfl) ?_
          refine va_get (D := (dC, dI)) (ci := 6) (C := RX6) (T := TX6) (N := 4) hx hb hts hiX6 hown hK hP 0 rfl rfl 1 (by decide) (hts (.fieldLink RX6 15 "PaddockFields$NumberSearch" "choices" "[I") (List.mem_cons_of_mem _ (List.mem_append_left _ (List.mem_append_left _ (List.mem_append_left _ (List.mem_of_getElem? (i := 2) rfl)))))) (fun _ h9 => h9) rfl dX6_scarcest_42 ?_
          refine lv_iload hx hb dX6_scarcest_45 (lv_at hl 4 rfl) ?_
          obtain ⟨v3, h_v3, hf⟩ := hf_bind hf
          refine wh_ldI (D := (dC, dI)) hx hb hK hP 1 0 rfl rfl h_v3 dX6_scarcest_47 ?_
          refine lv_iload hx hb dX6_scarcest_48 (lv_at hl 3 rfl) ?_
          refine lv_icmp_ge (tgt := 65) hx hb dX6_scarcest_50 (by decide) (fun cc => ?_) (fun cc => ?_)
          · replace hf := hf_pos cc hf
            obtain rfl := Option.some.inj hf
            exact hJ_6 _ _ _ (lv_sub hl [0, 1, 2, 3, 4] rfl) hP hD hS
          · replace hf := hf_neg cc hf
            refine lv_iload hx hb dX6_scarcest_53 (lv_at hl 4 rfl) ?_
            refine lv_istore_n (lv' := [(3, .int l5_5), (0, .ref a_0), (1, .long x1), (4, .int l4_4), (5, .int l5_5)]) hx hb dX6_scarcest_55 rfl hl (by decide) rfl (fun ls hl => ?_)
            refine lv_aload_n hx hb dX6_scarcest_56 rfl (lv_at hl 1 rfl) ?_
            refine va_get (D := (dC, dI)) (ci := 6) (C := RX6) (T := TX6) (N := 4) hx hb hts hiX6 hown hK hP 0 rfl rfl 1 (by decide) (hts (.fieldLink RX6 15 "PaddockFields$NumberSearch" "choices" "[I") (List.mem_cons_of_mem _ (List.mem_append_left _ (List.mem_append_left _ (List.mem_append_left _ (List.mem_of_getElem? (i := 2) rfl)))))) (fun _ h9 => h9) rfl dX6_scarcest_57 ?_
            refine lv_iload hx hb dX6_scarcest_60 (lv_at hl 4 rfl) ?_
            obtain ⟨v4, h_v4, hf⟩ := hf_bind hf
            refine wh_ldI (D := (dC, dI)) hx hb hK hP 1 0 rfl rfl h_v4 dX6_scarcest_62 ?_
            refine lv_istore (lv' := [(4, .int v4), (3, .int l5_5), (0, .ref a_0), (1, .long x1), (5, .int l5_5)]) hx hb dX6_scarcest_63 hl (by decide) rfl (fun ls hl => ?_)
            obtain rfl := Option.some.inj hf
            exact hJ_6 _ _ _ (lv_sub hl [2, 3, 1, 0, 4] rfl) hP hD hS
  exact hL_2 _ _ _ _ h_r6 _ _ _ (lv_sub hl [3, 4, 2, 1, 0] rfl) hP hD hS
set_option maxHeartbeats 4000000 in
set_option maxRecDepth 100000 in
theorem c_fNumberSearch_fillFor (l : Launch) (dC : Nat → ClassId) (dI : Nat → Nat → Nat) (cI cZ cJ cQ : ClassId) (a_0 a_0list a_0listcells a_0listowner a_0choices a_0listeveryFirst a_0listeveryLast a_0listeveryCells a_0listfirst a_0listlast : Nat) (sz : Nat) {F : Nat} {D : Nat} (ihR : ∀ (sz : Nat) (x1 : Int64) (x2 : Int32) (count_0list : Int32) (cells_0list : Nat → Int64) (choices_0 : Nat → Int32) (owner_0list : Nat → Int32) (numbers_0 : Int64) (ways_0 : Int32) (out : (Nat → Int32) × Int32), fNumberSearch_fill F D x1 x2 count_0list cells_0list choices_0 owner_0list numbers_0 ways_0 = some out → Met l yX6_fill wsX6_fill ({ frames := 2 * D + 3, cells := 0, slots := 0, locals := 50 * D + 70 } : Room) (va_Pc [.ref a_0, .long x1, .int x2] (wlP (dC, dI) (wlT cI cZ cJ cQ) (wl_fNumberSearch_fill cI cZ cJ cQ a_0 a_0list a_0listcells a_0choices a_0listowner a_0listeveryFirst a_0listeveryLast a_0listeveryCells a_0listfirst a_0listlast numbers_0 ways_0 count_0list cells_0list choices_0 owner_0list) sz)) (va_Qv (fun (_ : Unit) => True) (wlQ (dC, dI) (va_A (wl_fNumberSearch_fill cI cZ cJ cQ a_0 a_0list a_0listcells a_0choices a_0listowner a_0listeveryFirst a_0listeveryLast a_0listeveryCells a_0listfirst a_0listlast numbers_0 ways_0 count_0list cells_0list choices_0 owner_0list) sz) (wl_fNumberSearch_fill cI cZ cJ cQ a_0 a_0list a_0listcells a_0choices a_0listowner a_0listeveryFirst a_0listeveryLast a_0listeveryCells a_0listfirst a_0listlast numbers_0 out.2 count_0list cells_0list out.1 owner_0list)) (va_A (wl_fNumberSearch_fill cI cZ cJ cQ a_0 a_0list a_0listcells a_0choices a_0listowner a_0listeveryFirst a_0listeveryLast a_0listeveryCells a_0listfirst a_0listlast numbers_0 ways_0 count_0list cells_0list choices_0 owner_0list) sz)) 0 0 (va_A (wl_fNumberSearch_fill cI cZ cJ cQ a_0 a_0list a_0listcells a_0choices a_0listowner a_0listeveryFirst a_0listeveryLast a_0listeveryCells a_0listfirst a_0listlast numbers_0 ways_0 count_0list cells_0list choices_0 owner_0list) sz)) {x1 : Int32} {x2 : Int64} {x3 : Int32} {count_0list : Int32} {ways_0 : Int32} {cells_0list : Nat → Int64} {owner_0list : Nat → Int32} {choices_0 : Nat → Int32} {numbers_0 : Int64} {out : (Nat → Int32) × Int32} (hf : fNumberSearch_fillFor F (fNumberSearch_fill F D) x1 x2 x3 count_0list ways_0 cells_0list owner_0list choices_0 numbers_0 = some out) : Met l yX6_fillFor wsX6_fillFor ({ frames := 2 * D + 4, cells := 0, slots := 0, locals := 50 * D + 93 } : Room) (va_Pc [.ref a_0, .int x1, .long x2, .int x3] (wlP (dC, dI) (wlT cI cZ cJ cQ) (wl_fNumberSearch_fillFor cI cZ cJ cQ a_0 a_0list a_0listcells a_0listowner a_0choices a_0listeveryFirst a_0listeveryLast a_0listeveryCells a_0listfirst a_0listlast numbers_0 ways_0 count_0list cells_0list owner_0list choices_0) sz)) (va_Qv (fun (_ : Unit) => True) (wlQ (dC, dI) (va_A (wl_fNumberSearch_fillFor cI cZ cJ cQ a_0 a_0list a_0listcells a_0listowner a_0choices a_0listeveryFirst a_0listeveryLast a_0listeveryCells a_0listfirst a_0listlast numbers_0 ways_0 count_0list cells_0list owner_0list choices_0) sz) (wl_fNumberSearch_fillFor cI cZ cJ cQ a_0 a_0list a_0listcells a_0listowner a_0choices a_0listeveryFirst a_0listeveryLast a_0listeveryCells a_0listfirst a_0listlast numbers_0 out.2 count_0list cells_0list owner_0list out.1)) (va_A (wl_fNumberSearch_fillFor cI cZ cJ cQ a_0 a_0list a_0listcells a_0listowner a_0choices a_0listeveryFirst a_0listeveryLast a_0listeveryCells a_0listfirst a_0listlast numbers_0 ways_0 count_0list cells_0list owner_0list choices_0) sz)) 0 0 (va_A (wl_fNumberSearch_fillFor cI cZ cJ cQ a_0 a_0list a_0listcells a_0listowner a_0choices a_0listeveryFirst a_0listeveryLast a_0listeveryCells a_0listfirst a_0listlast numbers_0 ways_0 count_0list cells_0list owner_0list choices_0) sz) := by
  refine wh_ofWv (lv := [(0, .ref a_0), (1, .int x1), (2, .long x2), (4, .int x3)]) RX6 (by decide) rfl rfl (Nat.le_of_ble_eq_true rfl) rfl ?_
  intro p e s m below meth c A QQ hx hb hml hown hts hP hK hN hD hA hret ls hl
  have hS : va_S A s.heap s.heap [] := va_S.rf
  have hiX6 : ∀ w ∈ wsX60, w ∈ wsX6_fillFor := (fun _ h => List.mem_cons_of_mem _ (List.mem_append_left _ (List.mem_append_right _ (h))))
  unfold fNumberSearch_fillFor at hf
  refine lv_iconst (v := 0) hx hb dX6_fillFor_0 (by decide) ?_
  refine lv_istore (lv' := [(5, .int (0 : Int32)), (0, .ref a_0), (1, .int x1), (2, .long x2), (4, .int x3)]) hx hb dX6_fillFor_1 hl (by decide) rfl (fun ls hl => ?_)
  obtain ⟨r6, h_r6, hf⟩ := hf_bind hf
  have hE_1 : ∀ (H : Heap) (locs : List Loc) (ls : Array Slot), lv_has ls 8 [] → va_P (dC, dI) vwCl (wl_fNumberSearch_fillFor cI cZ cJ cQ a_0 a_0list a_0listcells a_0listowner a_0choices a_0listeveryFirst a_0listeveryLast a_0listeveryCells a_0listfirst a_0listlast numbers_0 r6.2.1 count_0list cells_0list owner_0list r6.2.2) H → va_D A (wl_fNumberSearch_fillFor cI cZ cJ cQ a_0 a_0list a_0listcells a_0listowner a_0choices a_0listeveryFirst a_0listeveryLast a_0listeveryCells a_0listfirst a_0listlast numbers_0 r6.2.1 count_0list cells_0list owner_0list r6.2.2) → va_S A s.heap H locs → W p l e ({ frames := 2 * D + 4, cells := 0, slots := 0, locals := 50 * D + 93 } : Room) s m [.ref a_0, .int x1, .long x2, .int x3].toArray below meth c H locs 0 0 QQ (F0 m 75 ls []) := by
    intro H locs ls hl hP hD hS
    obtain rfl := Option.some.inj hf
    exact hret _ _ _ _ hP hD hS dX6_fillFor_75
  have hL_2 : ∀ (N : Nat) (l5_3 : Int32) (ways_0_4 : Int32) (choices_0_5 : Nat → Int32), fNumberSearch_fillFor_L3 F (fNumberSearch_fill F D) x1 x2 x3 count_0list cells_0list owner_0list numbers_0 N l5_3 ways_0_4 choices_0_5 = some r6 → ∀ (H : Heap) (locs : List Loc) (ls : Array Slot), lv_has ls 8 [(0, .ref a_0), (1, .int x1), (2, .long x2), (4, .int x3), (5, .int l5_3)] → va_P (dC, dI) vwCl (wl_fNumberSearch_fillFor cI cZ cJ cQ a_0 a_0list a_0listcells a_0listowner a_0choices a_0listeveryFirst a_0listeveryLast a_0listeveryCells a_0listfirst a_0listlast numbers_0 ways_0_4 count_0list cells_0list owner_0list choices_0_5) H → va_D A (wl_fNumberSearch_fillFor cI cZ cJ cQ a_0 a_0list a_0listcells a_0listowner a_0choices a_0listeveryFirst a_0listeveryLast a_0listeveryCells a_0listfirst a_0listlast numbers_0 ways_0_4 count_0list cells_0list owner_0list choices_0_5) → va_S A s.heap H locs → W p l e ({ frames := 2 * D + 4, cells := 0, slots := 0, locals := 50 * D + 93 } : Room) s m [.ref a_0, .int x1, .long x2, .int x3].toArray below meth c H locs 0 0 QQ (F0 m 3 ls []) := by
    intro N
    induction N with
    | zero => intro l5_3 ways_0_4 choices_0_5 hf; exact nomatch (show none = some _ from hf)
    | succ N ih =>
      intro l5_3 ways_0_4 choices_0_5 hf H locs ls hl hP hD hS
      rw [fNumberSearch_fillFor_L3] at hf
      refine lv_iload hx hb dX6_fillFor_3 (lv_at hl 4 rfl) ?_
      refine lv_aload_n hx hb dX6_fillFor_5 rfl (lv_at hl 0 rfl) ?_
      refine va_get (D := (dC, dI)) (ci := 6) (C := RX6) (T := TX6) (N := 4) hx hb hts hiX6 hown hK hP 0 rfl rfl 0 (by decide) (hts (.fieldLink RX6 9 "PaddockFields$NumberSearch" "list" "LPaddockFields$Rectangles;") (List.mem_cons_of_mem _ (List.mem_append_left _ (List.mem_append_left _ (List.mem_append_left _ (List.mem_of_getElem? (i := 0) rfl)))))) (fun _ h9 => h9) rfl dX6_fillFor_6 ?_
      obtain ⟨s1, h_s1, hf⟩ := hf_bind hf
      refine wh_calli (D := (dC, dI)) (ws' := (wl_fNumberSearch_fillFor cI cZ cJ cQ a_0 a_0list a_0listcells a_0listowner a_0choices a_0listeveryFirst a_0listeveryLast a_0listeveryCells a_0listfirst a_0listlast numbers_0 ways_0_4 count_0list cells_0list owner_0list choices_0_5)) (va_runV (As := []) (rest := [.int l5_3]) ⟨hx, hb, hml, hown, hts⟩ (c_fRectangles_size l dC dI cI cZ cJ cQ a_0list a_0listeveryFirst a_0listeveryLast a_0listeveryCells a_0listfirst a_0listlast a_0listcells a_0listowner _ h_s1) (cwV 0 hts gX6_fillFor_X7_size rfl rfl rfl (by decide +kernel) ⟨by show 0 + 1 ≤ 2 * D + 4; omega, by show 8 + (1 + 11) + (0) ≤ 50 * D + 93; omega⟩) (wh_preV (C := RX7) (T := TX7) (N := 8) hK hN hP hD [1] rfl rfl 7 0 rfl rfl) rfl rfl hl.1 rfl (lv_room (Nat.le_of_ble_eq_true rfl)) dX6_fillFor_9 ⟨Nat.le_refl _, Nat.le_refl _⟩) hP hD hS hA [1] [0, 2, 3, 4] [0, 4, 1, 2, 3] rfl rfl rfl rfl (fun H locs hP hD hS => ?_)
      refine lv_icmp_ge (tgt := 75) hx hb dX6_fillFor_12 (by decide) (fun cc => ?_) (fun cc => ?_)
      · replace hf := hf_pos cc hf
        obtain rfl := Option.some.inj hf
        exact hE_1 _ _ _ (lv_sub hl [] rfl) hP hD hS
      · replace hf := hf_neg cc hf
        refine lv_aload_n hx hb dX6_fillFor_15 rfl (lv_at hl 0 rfl) ?_
        refine va_get (D := (dC, dI)) (ci := 6) (C := RX6) (T := TX6) (N := 4) hx hb hts hiX6 hown hK hP 0 rfl rfl 3 (by decide) (hts (.fieldLink RX6 23 "PaddockFields$NumberSearch" "ways" "I") (List.mem_cons_of_mem _ (List.mem_append_left _ (List.mem_append_left _ (List.mem_append_left _ (List.mem_of_getElem? (i := 1) rfl)))))) (fun _ h9 => h9) rfl dX6_fillFor_16 ?_
        refine lv_bipush (v := 50) hx hb dX6_fillFor_19 (by decide) ?_
        refine lv_icmp_ge (tgt := 75) hx hb dX6_fillFor_21 (by decide) (fun cc => ?_) (fun cc => ?_)
        · replace hf := hf_pos cc hf
          obtain rfl := Option.some.inj hf
          exact hE_1 _ _ _ (lv_sub hl [] rfl) hP hD hS
        · replace hf := hf_neg cc hf
          refine lv_aload_n hx hb dX6_fillFor_24 rfl (lv_at hl 0 rfl) ?_
          refine va_get (D := (dC, dI)) (ci := 6) (C := RX6) (T := TX6) (N := 4) hx hb hts hiX6 hown hK hP 0 rfl rfl 0 (by decide) (hts (.fieldLink RX6 9 "PaddockFields$NumberSearch" "list" "LPaddockFields$Rectangles;") (List.mem_cons_of_mem _ (List.mem_append_left _ (List.mem_append_left _ (List.mem_append_left _ (List.mem_of_getElem? (i := 0) rfl)))))) (fun _ h9 => h9) rfl dX6_fillFor_25 ?_
          refine lv_iload hx hb dX6_fillFor_28 (lv_at hl 4 rfl) ?_
          obtain ⟨s2, h_s2, hf⟩ := hf_bind hf
          refine wh_calll (D := (dC, dI)) (ws' := (wl_fNumberSearch_fillFor cI cZ cJ cQ a_0 a_0list a_0listcells a_0listowner a_0choices a_0listeveryFirst a_0listeveryLast a_0listeveryCells a_0listfirst a_0listlast numbers_0 ways_0_4 count_0list cells_0list owner_0list choices_0_5)) (va_runV (As := [.int l5_3]) (rest := []) ⟨hx, hb, hml, hown, hts⟩ (c_fRectangles_cellsAt l dC dI cI cZ cJ cQ a_0list a_0listcells a_0listeveryFirst a_0listeveryLast a_0listeveryCells a_0listfirst a_0listlast a_0listowner _ h_s2) (cwV 1 hts gX6_fillFor_X7_cellsAt rfl rfl rfl (by decide +kernel) ⟨by show 0 + 1 ≤ 2 * D + 4; omega, by show 8 + (2 + 11) + (0) ≤ 50 * D + 93; omega⟩) (wh_preV (C := RX7) (T := TX7) (N := 8) hK hN hP hD [1, 2] rfl rfl 7 0 rfl rfl) rfl rfl hl.1 rfl (lv_room (Nat.le_of_ble_eq_true rfl)) dX6_fillFor_30 ⟨Nat.le_refl _, Nat.le_refl _⟩) hP hD hS hA [1, 2] [0, 3, 4] [0, 3, 4, 1, 2] rfl rfl rfl rfl (fun H locs hP hD hS => ?_)
          refine lv_lstore (lv' := [(6, .long s2), (0, .ref a_0), (1, .int x1), (2, .long x2), (4, .int x3), (5, .int l5_3)]) hx hb dX6_fillFor_33 hl (by decide) rfl (fun ls hl => ?_)
          refine lv_aload_n hx hb dX6_fillFor_35 rfl (lv_at hl 1 rfl) ?_
          refine va_get (D := (dC, dI)) (ci := 6) (C := RX6) (T := TX6) (N := 4) hx hb hts hiX6 hown hK hP 0 rfl rfl 0 (by decide) (hts (.fieldLink RX6 9 "PaddockFields$NumberSearch" "list" "LPaddockFields$Rectangles;") (List.mem_cons_of_mem _ (List.mem_append_left _ (List.mem_append_left _ (List.mem_append_left _ (List.mem_of_getElem? (i := 0) rfl)))))) (fun _ h9 => h9) rfl dX6_fillFor_36 ?_
          refine lv_iload hx hb dX6_fillFor_39 (lv_at hl 5 rfl) ?_
          obtain ⟨s3, h_s3, hf⟩ := hf_bind hf
          refine wh_calli (D := (dC, dI)) (ws' := (wl_fNumberSearch_fillFor cI cZ cJ cQ a_0 a_0list a_0listcells a_0listowner a_0choices a_0listeveryFirst a_0listeveryLast a_0listeveryCells a_0listfirst a_0listlast numbers_0 ways_0_4 count_0list cells_0list owner_0list choices_0_5)) (va_runV (As := [.int l5_3]) (rest := []) ⟨hx, hb, hml, hown, hts⟩ (c_fRectangles_ownerAt l dC dI cI cZ cJ cQ a_0list a_0listowner a_0listeveryFirst a_0listeveryLast a_0listeveryCells a_0listfirst a_0listlast a_0listcells _ h_s3) (cwV 1 hts gX6_fillFor_X7_ownerAt rfl rfl rfl (by decide +kernel) ⟨by show 0 + 1 ≤ 2 * D + 4; omega, by show 8 + (2 + 11) + (0) ≤ 50 * D + 93; omega⟩) (wh_preV (C := RX7) (T := TX7) (N := 8) hK hN hP hD [1, 3] rfl rfl 7 0 rfl rfl) rfl rfl hl.1 rfl (lv_room (Nat.le_of_ble_eq_true rfl)) dX6_fillFor_41 ⟨Nat.le_refl _, Nat.le_refl _⟩) hP hD hS hA [1, 3] [0, 2, 4] [0, 3, 1, 4, 2] rfl rfl rfl rfl (fun H locs hP hD hS => ?_)
          refine lv_iload_n hx hb dX6_fillFor_44 rfl (lv_at hl 2 rfl) ?_
          obtain ⟨j5, h_j5, hf⟩ := hf_bind hf
          have hJ_6 : ∀ (H : Heap) (locs : List Loc) (ls : Array Slot), lv_has ls 8 [(0, .ref a_0), (1, .int x1), (2, .long x2), (4, .int x3), (5, .int l5_3)] → va_P (dC, dI) vwCl (wl_fNumberSearch_fillFor cI cZ cJ cQ a_0 a_0list a_0listcells a_0listowner a_0choices a_0listeveryFirst a_0listeveryLast a_0listeveryCells a_0listfirst a_0listlast numbers_0 j5.1 count_0list cells_0list owner_0list j5.2) H → va_D A (wl_fNumberSearch_fillFor cI cZ cJ cQ a_0 a_0list a_0listcells a_0listowner a_0choices a_0listeveryFirst a_0listeveryLast a_0listeveryCells a_0listfirst a_0listlast numbers_0 j5.1 count_0list cells_0list owner_0list j5.2) → va_S A s.heap H locs → W p l e ({ frames := 2 * D + 4, cells := 0, slots := 0, locals := 50 * D + 93 } : Room) s m [.ref a_0, .int x1, .long x2, .int x3].toArray below meth c H locs 0 0 QQ (F0 m 69 ls []) := by
            intro H locs ls hl hP hD hS
            refine lv_iinc (v := (l5_3 + (1 : Int32))) (lv' := [(5, .int (l5_3 + (1 : Int32))), (0, .ref a_0), (1, .int x1), (2, .long x2), (4, .int x3)]) hx hb dX6_fillFor_69 hl (k := 4) rfl rfl (by decide) rfl (fun ls hl => ?_)
            refine lv_goto (tgt := 3) hx hb dX6_fillFor_72 (by decide) ?_
            exact ih _ _ _ hf _ _ _ (lv_sub hl [1, 2, 3, 4, 0] rfl) hP hD hS
          clear hf
          have hf := h_j5
          clear h_j5
          refine lv_icmp_ne (tgt := 69) hx hb dX6_fillFor_45 (by decide) (fun cc => ?_) (fun cc => ?_)
          · replace hf := hf_pos cc hf
            obtain rfl := Option.some.inj hf
            exact hJ_6 _ _ _ (lv_sub hl [1, 2, 3, 4, 5] rfl) hP hD hS
          · replace hf := hf_neg (not_not_intro cc) hf
            refine lv_lload hx hb dX6_fillFor_48 (lv_at hl 0 rfl) ?_
            refine lv_lload_n hx hb dX6_fillFor_50 rfl (lv_at hl 3 rfl) ?_
            refine lv_land hx hb dX6_fillFor_51 ?_
            refine lv_lconst (v := 0) hx hb dX6_fillFor_52 (by decide) ?_
            refine W.lcmp hx hb dX6_fillFor_53 ?_
            refine lv_if_ne (tgt := 69) hx hb dX6_fillFor_54 (by decide) (fun cc => ?_) (fun cc => ?_)
            · replace hf := hf_pos (mt (lg_cmp_eq _ _).mpr cc) hf
              obtain rfl := Option.some.inj hf
              exact hJ_6 _ _ _ (lv_sub hl [1, 2, 3, 4, 5] rfl) hP hD hS
            · replace hf := hf_neg (not_not_intro ((lg_cmp_eq _ _).mp cc)) hf
              refine lv_aload_n hx hb dX6_fillFor_57 rfl (lv_at hl 1 rfl) ?_
              refine lv_lload_n hx hb dX6_fillFor_58 rfl (lv_at hl 3 rfl) ?_
              refine lv_lload hx hb dX6_fillFor_59 (lv_at hl 0 rfl) ?_
              refine lv_lor hx hb dX6_fillFor_61 ?_
              refine lv_iload hx hb dX6_fillFor_62 (lv_at hl 4 rfl) ?_
              refine lv_iconst (v := 1) hx hb dX6_fillFor_64 (by decide) ?_
              refine lv_iadd hx hb dX6_fillFor_65 ?_
              obtain ⟨s4, h_s4, hf⟩ := hf_bind hf
              refine wh_callv (D := (dC, dI)) (ws' := (wl_fNumberSearch_fillFor cI cZ cJ cQ a_0 a_0list a_0listcells a_0listowner a_0choices a_0listeveryFirst a_0listeveryLast a_0listeveryCells a_0listfirst a_0listlast numbers_0 s4.2 count_0list cells_0list owner_0list s4.1)) (va_runV (As := [.long (x2 ||| s2), .int (x3 + (1 : Int32))]) (rest := []) ⟨hx, hb, hml, hown, hts⟩ (ihR _ _ _ _ _ _ _ _ _ _ h_s4) (cwV 2 hts gX6_fillFor_X6_fill rfl rfl rfl (by decide +kernel) ⟨by show 2 * D + 3 + 1 ≤ 2 * D + 4; omega, by show 8 + (4 + 11) + (50 * D + 70) ≤ 50 * D + 93; omega⟩) (wh_preV (C := RX6) (T := TX6) (N := 4) hK hN hP hD [0, 1, 2, 4, 3] rfl rfl 6 0 rfl rfl) rfl rfl hl.1 rfl (lv_room (Nat.le_of_ble_eq_true rfl)) dX6_fillFor_66 ⟨Nat.le_refl _, Nat.le_refl _⟩) hP hD hS hA [0, 1, 2, 4, 3] [] [0, 1, 2, 4, 3] rfl rfl rfl rfl (fun H locs hP hD hS => ?_)
              obtain rfl := Option.some.inj hf
              exact hJ_6 _ _ _ (lv_sub hl [1, 2, 3, 4, 5] rfl) hP hD hS
  exact hL_2 _ _ _ _ h_r6 _ _ _ (lv_sub hl [1, 2, 3, 4, 0] rfl) hP hD hS
set_option maxHeartbeats 4000000 in
set_option maxRecDepth 100000 in
theorem c_fNumberSearch_fill (l : Launch) (dC : Nat → ClassId) (dI : Nat → Nat → Nat) (cI cZ cJ cQ : ClassId) (a_0 a_0list a_0listcells a_0choices a_0listowner a_0listeveryFirst a_0listeveryLast a_0listeveryCells a_0listfirst a_0listlast : Nat) {F : Nat} : ∀ (D : Nat) (sz : Nat) (x1 : Int64) (x2 : Int32) (count_0list : Int32) (cells_0list : Nat → Int64) (choices_0 : Nat → Int32) (owner_0list : Nat → Int32) (numbers_0 : Int64) (ways_0 : Int32) (out : (Nat → Int32) × Int32), fNumberSearch_fill F D x1 x2 count_0list cells_0list choices_0 owner_0list numbers_0 ways_0 = some out → Met l yX6_fill wsX6_fill ({ frames := 2 * D + 3, cells := 0, slots := 0, locals := 50 * D + 70 } : Room) (va_Pc [.ref a_0, .long x1, .int x2] (wlP (dC, dI) (wlT cI cZ cJ cQ) (wl_fNumberSearch_fill cI cZ cJ cQ a_0 a_0list a_0listcells a_0choices a_0listowner a_0listeveryFirst a_0listeveryLast a_0listeveryCells a_0listfirst a_0listlast numbers_0 ways_0 count_0list cells_0list choices_0 owner_0list) sz)) (va_Qv (fun (_ : Unit) => True) (wlQ (dC, dI) (va_A (wl_fNumberSearch_fill cI cZ cJ cQ a_0 a_0list a_0listcells a_0choices a_0listowner a_0listeveryFirst a_0listeveryLast a_0listeveryCells a_0listfirst a_0listlast numbers_0 ways_0 count_0list cells_0list choices_0 owner_0list) sz) (wl_fNumberSearch_fill cI cZ cJ cQ a_0 a_0list a_0listcells a_0choices a_0listowner a_0listeveryFirst a_0listeveryLast a_0listeveryCells a_0listfirst a_0listlast numbers_0 out.2 count_0list cells_0list out.1 owner_0list)) (va_A (wl_fNumberSearch_fill cI cZ cJ cQ a_0 a_0list a_0listcells a_0choices a_0listowner a_0listeveryFirst a_0listeveryLast a_0listeveryCells a_0listfirst a_0listlast numbers_0 ways_0 count_0list cells_0list choices_0 owner_0list) sz)) 0 0 (va_A (wl_fNumberSearch_fill cI cZ cJ cQ a_0 a_0list a_0listcells a_0choices a_0listowner a_0listeveryFirst a_0listeveryLast a_0listeveryCells a_0listfirst a_0listlast numbers_0 ways_0 count_0list cells_0list choices_0 owner_0list) sz) := by
  intro D
  induction D with
  | zero => intro sz x1 x2 count_0list cells_0list choices_0 owner_0list numbers_0 ways_0 out hf; exact nomatch (show none = some _ from hf)
  | succ D ihR =>
    intro sz x1 x2 count_0list cells_0list choices_0 owner_0list numbers_0 ways_0 out hf
    rw [fNumberSearch_fill] at hf
    refine wh_ofWv (lv := [(0, .ref a_0), (1, .long x1), (3, .int x2)]) RX6 (by decide) rfl rfl (Nat.le_of_ble_eq_true rfl) rfl ?_
    intro p e s m below meth c A QQ hx hb hml hown hts hP hK hN hD hA hret ls hl
    have hS : va_S A s.heap s.heap [] := va_S.rf
    have hiX6 : ∀ w ∈ wsX60, w ∈ wsX6_fill := (fun _ h => List.mem_cons_of_mem _ (List.mem_append_left _ (List.mem_append_right _ (h))))
    refine lv_lload_n hx hb dX6_fill_0 rfl (lv_at hl 1 rfl) ?_
    refine lv_ldc2 hx hb hown (hts (.constantLong RX6 50 (4398046511103)) (List.mem_cons_of_mem _ (List.mem_append_left _ (List.mem_append_left _ (List.mem_append_left _ (List.mem_of_getElem? (i := 0) rfl)))))) dX6_fill_1 ?_
    refine W.lcmp hx hb dX6_fill_4 ?_
    refine lv_if_ne (tgt := 21) hx hb dX6_fill_5 (by decide) (fun cc => ?_) (fun cc => ?_)
    · replace hf := hf_pos (mt (lg_cmp_eq _ _).mpr cc) hf
      refine lv_iload_n hx hb dX6_fill_21 rfl (lv_at hl 2 rfl) ?_
      refine lv_bipush (v := 42) hx hb dX6_fill_22 (by decide) ?_
      refine lv_icmp_ge (tgt := 59) hx hb dX6_fill_24 (by decide) (fun cc => ?_) (fun cc => ?_)
      · replace hf := hf_pos cc hf
        obtain rfl := Option.some.inj hf
        exact hret _ _ _ _ hP hD hS dX6_fill_59
      · replace hf := hf_neg cc hf
        refine lv_aload_n hx hb dX6_fill_27 rfl (lv_at hl 0 rfl) ?_
        refine va_get (D := (dC, dI)) (ci := 6) (C := RX6) (T := TX6) (N := 4) hx hb hts hiX6 hown hK hP 0 rfl rfl 0 (by decide) (hts (.fieldLink RX6 9 "PaddockFields$NumberSearch" "list" "LPaddockFields$Rectangles;") (List.mem_cons_of_mem _ (List.mem_append_left _ (List.mem_append_left _ (List.mem_append_left _ (List.mem_of_getElem? (i := 2) rfl)))))) (fun _ h9 => h9) rfl dX6_fill_28 ?_
        refine lv_lload_n hx hb dX6_fill_31 rfl (lv_at hl 1 rfl) ?_
        obtain ⟨s1, h_s1, hf⟩ := hf_bind hf
        refine wh_calll (D := (dC, dI)) (ws' := (wl_fNumberSearch_fill cI cZ cJ cQ a_0 a_0list a_0listcells a_0choices a_0listowner a_0listeveryFirst a_0listeveryLast a_0listeveryCells a_0listfirst a_0listlast numbers_0 ways_0 count_0list cells_0list choices_0 owner_0list)) (va_runV (As := [.long x1]) (rest := []) ⟨hx, hb, hml, hown, hts⟩ (c_fRectangles_cellsInReach l dC dI cI cZ cJ cQ a_0list a_0listcells a_0listeveryFirst a_0listeveryLast a_0listeveryCells a_0listfirst a_0listlast a_0listowner _ h_s1) (cwV 1 hts gX6_fill_X7_cellsInReach rfl rfl rfl (by decide +kernel) ⟨by show 1 + 1 ≤ 2 * (D + 1) + 3; omega, by show 8 + (8 + 11) + (21) ≤ 50 * (D + 1) + 70; omega⟩) (wh_preV (C := RX7) (T := TX7) (N := 8) hK hN hP hD [1, 2] rfl rfl 7 0 rfl rfl) rfl rfl hl.1 rfl (lv_room (Nat.le_of_ble_eq_true rfl)) dX6_fill_32 ⟨Nat.le_refl _, Nat.le_refl _⟩) hP hD hS hA [1, 2] [0, 3, 4] [0, 3, 4, 1, 2] rfl rfl rfl rfl (fun H locs hP hD hS => ?_)
        refine lv_ldc2 hx hb hown (hts (.constantLong RX6 50 (4398046511103)) (List.mem_cons_of_mem _ (List.mem_append_left _ (List.mem_append_left _ (List.mem_append_left _ (List.mem_of_getElem? (i := 0) rfl)))))) dX6_fill_35 ?_
        refine lv_lload_n hx hb dX6_fill_38 rfl (lv_at hl 1 rfl) ?_
        refine lv_ldc2 hx hb hown (hts (.constantLong RX6 56 (-1)) (List.mem_cons_of_mem _ (List.mem_append_left _ (List.mem_append_left _ (List.mem_append_left _ (List.mem_of_getElem? (i := 3) rfl)))))) dX6_fill_39 ?_
        refine lv_lxor hx hb dX6_fill_42 ?_
        refine lv_land hx hb dX6_fill_43 ?_
        refine W.lcmp hx hb dX6_fill_44 ?_
        refine lv_if_ne (tgt := 59) hx hb dX6_fill_45 (by decide) (fun cc => ?_) (fun cc => ?_)
        · replace hf := hf_pos (mt (lg_cmp_eq _ _).mpr cc) hf
          obtain rfl := Option.some.inj hf
          exact hret _ _ _ _ hP hD hS dX6_fill_59
        · replace hf := hf_neg (not_not_intro ((lg_cmp_eq _ _).mp cc)) hf
          refine lv_aload_n hx hb dX6_fill_48 rfl (lv_at hl 0 rfl) ?_
          refine lv_aload_n hx hb dX6_fill_49 rfl (lv_at hl 0 rfl) ?_
          refine lv_lload_n hx hb dX6_fill_50 rfl (lv_at hl 1 rfl) ?_
          obtain ⟨s2, h_s2, hf⟩ := hf_bind hf
          refine wh_calli (D := (dC, dI)) (ws' := (wl_fNumberSearch_fill cI cZ cJ cQ a_0 a_0list a_0listcells a_0choices a_0listowner a_0listeveryFirst a_0listeveryLast a_0listeveryCells a_0listfirst a_0listlast numbers_0 ways_0 count_0list cells_0list s2.2 owner_0list)) (va_runV (As := [.long x1]) (rest := [.ref a_0]) ⟨hx, hb, hml, hown, hts⟩ (c_fNumberSearch_scarcest l dC dI cI cZ cJ cQ a_0 a_0choices a_0list a_0listowner a_0listcells a_0listeveryFirst a_0listeveryLast a_0listeveryCells a_0listfirst a_0listlast ways_0 _ h_s2) (cwV 1 hts gX6_fill_X6_scarcest rfl rfl rfl (by decide +kernel) ⟨by show 2 + 1 ≤ 2 * (D + 1) + 3; omega, by show 8 + (6 + 11) + (45) ≤ 50 * (D + 1) + 70; omega⟩) (wh_preV (C := RX6) (T := TX6) (N := 4) hK hN hP hD [0, 3, 1, 4, 2] rfl rfl 6 0 rfl rfl) rfl rfl hl.1 rfl (lv_room (Nat.le_of_ble_eq_true rfl)) dX6_fill_51 ⟨Nat.le_refl _, Nat.le_refl _⟩) hP hD hS hA [0, 3, 1, 4, 2] [] [0, 2, 4, 1, 3] rfl rfl rfl rfl (fun H locs hP hD hS => ?_)
          refine lv_lload_n hx hb dX6_fill_54 rfl (lv_at hl 1 rfl) ?_
          refine lv_iload_n hx hb dX6_fill_55 rfl (lv_at hl 2 rfl) ?_
          obtain ⟨s3, h_s3, hf⟩ := hf_bind hf
          refine wh_callv (D := (dC, dI)) (ws' := (wl_fNumberSearch_fill cI cZ cJ cQ a_0 a_0list a_0listcells a_0choices a_0listowner a_0listeveryFirst a_0listeveryLast a_0listeveryCells a_0listfirst a_0listlast numbers_0 s3.2 count_0list cells_0list s3.1 owner_0list)) (va_runV (As := [.int s2.1, .long x1, .int x2]) (rest := []) ⟨hx, hb, hml, hown, hts⟩ (c_fNumberSearch_fillFor l dC dI cI cZ cJ cQ a_0 a_0list a_0listcells a_0listowner a_0choices a_0listeveryFirst a_0listeveryLast a_0listeveryCells a_0listfirst a_0listlast _ ihR h_s3) (cwV 3 hts gX6_fill_X6_fillFor rfl rfl rfl (by decide +kernel) ⟨by show 2 * D + 4 + 1 ≤ 2 * (D + 1) + 3; omega, by show 8 + (8 + 11) + (50 * D + 93) ≤ 50 * (D + 1) + 70; omega⟩) (wh_preV (C := RX6) (T := TX6) (N := 4) hK hN hP hD [0, 1, 2, 4, 3] rfl rfl 6 0 rfl rfl) rfl rfl hl.1 rfl (lv_room (Nat.le_of_ble_eq_true rfl)) dX6_fill_56 ⟨Nat.le_refl _, Nat.le_refl _⟩) hP hD hS hA [0, 1, 2, 4, 3] [] [0, 1, 2, 4, 3] rfl rfl rfl rfl (fun H locs hP hD hS => ?_)
          obtain rfl := Option.some.inj hf
          exact hret _ _ _ _ hP hD hS dX6_fill_59
    · replace hf := hf_neg (not_not_intro ((lg_cmp_eq _ _).mp cc)) hf
      refine lv_aload_n hx hb dX6_fill_8 rfl (lv_at hl 0 rfl) ?_
      refine lv_dup hx hb dX6_fill_9 rfl ?_
      refine va_get (D := (dC, dI)) (ci := 6) (C := RX6) (T := TX6) (N := 4) hx hb hts hiX6 hown hK hP 0 rfl rfl 3 (by decide) (hts (.fieldLink RX6 23 "PaddockFields$NumberSearch" "ways" "I") (List.mem_cons_of_mem _ (List.mem_append_left _ (List.mem_append_left _ (List.mem_append_left _ (List.mem_of_getElem? (i := 1) rfl)))))) (fun _ h9 => h9) rfl dX6_fill_10 ?_
      refine lv_iconst (v := 1) hx hb dX6_fill_13 (by decide) ?_
      refine lv_iadd hx hb dX6_fill_14 ?_
      refine wh_put (D := (dC, dI)) (ci := 6) (C := RX6) (T := TX6) (N := 4) (ty := .int) (v := .int (ways_0 + (1 : Int32))) (ws' := (wl_fNumberSearch_fill cI cZ cJ cQ a_0 a_0list a_0listcells a_0choices a_0listowner a_0listeveryFirst a_0listeveryLast a_0listeveryCells a_0listfirst a_0listlast numbers_0 (ways_0 + (1 : Int32)) count_0list cells_0list choices_0 owner_0list)) hx hb hts hiX6 tyX6 tyX6_ok nmX6 hown hK hP hD hS 0 rfl rfl 3 (by decide) (hts (.fieldLink RX6 23 "PaddockFields$NumberSearch" "ways" "I") (List.mem_cons_of_mem _ (List.mem_append_left _ (List.mem_append_left _ (List.mem_append_left _ (List.mem_of_getElem? (i := 1) rfl)))))) (fun _ h9 => h9) rfl rfl rfl rfl (Nat.le_of_ble_eq_true rfl) rfl dX6_fill_15 (fun H locs hP hD hS => ?_)
      refine lv_goto (tgt := 59) hx hb dX6_fill_18 (by decide) ?_
      obtain rfl := Option.some.inj hf
      exact hret _ _ _ _ hP hD hS dX6_fill_59
set_option maxHeartbeats 4000000 in
set_option maxRecDepth 100000 in
theorem c_fNumberSearch_countWays (l : Launch) (dC : Nat → ClassId) (dI : Nat → Nat → Nat) (cI cZ cJ cQ : ClassId) (a_0 a_1 a_1inField a_1number a_0list a_0listeveryCells a_0listeveryFirst a_0listfirst a_0listeveryLast a_0listlast a_0listcells a_0listowner a_0choices a_1first a_1last : Nat) (sz : Nat) {F : Nat} {inField_1 : Nat → Int32} {number_1 : Nat → Int32} {count_0list : Int32} {everyCells_0list : Nat → Int64} {everyFirst_0list : Nat → Int32} {first_0list : Nat → Int32} {everyLast_0list : Nat → Int32} {last_0list : Nat → Int32} {cells_0list : Nat → Int64} {owner_0list : Nat → Int32} {numbers_0 : Int64} {ways_0 : Int32} {choices_0 : Nat → Int32} {out : Int32 × Int32 × (Nat → Int32) × (Nat → Int32) × (Nat → Int64) × (Nat → Int32) × Int64 × Int32 × (Nat → Int32)} (hf : fNumberSearch_countWays F inField_1 number_1 count_0list everyCells_0list everyFirst_0list first_0list everyLast_0list last_0list cells_0list owner_0list numbers_0 ways_0 choices_0 = some out) : Met l yX6_countWays wsX6_countWays ({ frames := 92, cells := 0, slots := 0, locals := 2293 } : Room) (va_Pc [.ref a_0, .ref a_1] (wlP (dC, dI) (wlT cI cZ cJ cQ) (wl_fNumberSearch_countWays cI cZ cJ cQ a_0 a_1 a_1inField a_1number a_0list a_0listeveryCells a_0listeveryFirst a_0listfirst a_0listeveryLast a_0listlast a_0listcells a_0listowner a_0choices a_1first a_1last numbers_0 ways_0 inField_1 number_1 count_0list everyCells_0list everyFirst_0list first_0list everyLast_0list last_0list cells_0list owner_0list choices_0) sz)) (va_Qi (fun (v : Int32) (_ : Unit) => v = out.1) (wlQ (dC, dI) (va_A (wl_fNumberSearch_countWays cI cZ cJ cQ a_0 a_1 a_1inField a_1number a_0list a_0listeveryCells a_0listeveryFirst a_0listfirst a_0listeveryLast a_0listlast a_0listcells a_0listowner a_0choices a_1first a_1last numbers_0 ways_0 inField_1 number_1 count_0list everyCells_0list everyFirst_0list first_0list everyLast_0list last_0list cells_0list owner_0list choices_0) sz) (wl_fNumberSearch_countWays cI cZ cJ cQ a_0 a_1 a_1inField a_1number a_0list a_0listeveryCells a_0listeveryFirst a_0listfirst a_0listeveryLast a_0listlast a_0listcells a_0listowner a_0choices a_1first a_1last out.2.2.2.2.2.2.1 out.2.2.2.2.2.2.2.1 inField_1 number_1 out.2.1 everyCells_0list everyFirst_0list out.2.2.1 everyLast_0list out.2.2.2.1 out.2.2.2.2.1 out.2.2.2.2.2.1 out.2.2.2.2.2.2.2.2)) (va_A (wl_fNumberSearch_countWays cI cZ cJ cQ a_0 a_1 a_1inField a_1number a_0list a_0listeveryCells a_0listeveryFirst a_0listfirst a_0listeveryLast a_0listlast a_0listcells a_0listowner a_0choices a_1first a_1last numbers_0 ways_0 inField_1 number_1 count_0list everyCells_0list everyFirst_0list first_0list everyLast_0list last_0list cells_0list owner_0list choices_0) sz)) 0 0 (va_A (wl_fNumberSearch_countWays cI cZ cJ cQ a_0 a_1 a_1inField a_1number a_0list a_0listeveryCells a_0listeveryFirst a_0listfirst a_0listeveryLast a_0listlast a_0listcells a_0listowner a_0choices a_1first a_1last numbers_0 ways_0 inField_1 number_1 count_0list everyCells_0list everyFirst_0list first_0list everyLast_0list last_0list cells_0list owner_0list choices_0) sz) := by
  refine wh_ofWi (lv := [(0, .ref a_0), (1, .ref a_1)]) RX6 (by decide) rfl rfl (Nat.le_of_ble_eq_true rfl) rfl ?_
  intro p e s m below meth c A QQ hx hb hml hown hts hP hK hN hD hA hret ls hl
  have hS : va_S A s.heap s.heap [] := va_S.rf
  have hiX6 : ∀ w ∈ wsX60, w ∈ wsX6_countWays := (fun _ h => List.mem_cons_of_mem _ (List.mem_append_left _ (List.mem_append_left _ (List.mem_append_right _ (h)))))
  unfold fNumberSearch_countWays at hf
  refine lv_aload_n hx hb dX6_countWays_0 rfl (lv_at hl 0 rfl) ?_
  refine va_get (D := (dC, dI)) (ci := 6) (C := RX6) (T := TX6) (N := 4) hx hb hts hiX6 hown hK hP 0 rfl rfl 0 (by decide) (hts (.fieldLink RX6 9 "PaddockFields$NumberSearch" "list" "LPaddockFields$Rectangles;") (List.mem_cons_of_mem _ (List.mem_append_left _ (List.mem_append_left _ (List.mem_append_left _ (List.mem_append_left _ (List.mem_of_getElem? (i := 0) rfl))))))) (fun _ h9 => h9) rfl dX6_countWays_1 ?_
  refine lv_aload_n hx hb dX6_countWays_4 rfl (lv_at hl 1 rfl) ?_
  obtain ⟨s1, h_s1, hf⟩ := hf_bind hf
  refine wh_callv (D := (dC, dI)) (ws' := (wl_fNumberSearch_countWays cI cZ cJ cQ a_0 a_1 a_1inField a_1number a_0list a_0listeveryCells a_0listeveryFirst a_0listfirst a_0listeveryLast a_0listlast a_0listcells a_0listowner a_0choices a_1first a_1last numbers_0 ways_0 inField_1 number_1 s1.1 everyCells_0list everyFirst_0list s1.2.1 everyLast_0list s1.2.2.1 s1.2.2.2.1 s1.2.2.2.2 choices_0)) (va_runV (As := [.ref a_1]) (rest := []) ⟨hx, hb, hml, hown, hts⟩ (c_fRectangles_find l dC dI cI cZ cJ cQ a_1 a_1inField a_1number a_0list a_0listeveryCells a_0listeveryFirst a_0listfirst a_0listeveryLast a_0listlast a_0listcells a_0listowner a_1first a_1last _ h_s1) (cwV 1 hts gX6_countWays_X7_find rfl rfl rfl (by decide +kernel) ⟨Nat.le_of_ble_eq_true rfl, Nat.le_of_ble_eq_true rfl⟩) (wh_preV (C := RX7) (T := TX7) (N := 8) hK hN hP hD [1, 2, 3, 4, 5, 6, 7, 8, 9, 10, 11] rfl rfl 7 3 rfl rfl) rfl rfl hl.1 rfl (lv_room (Nat.le_of_ble_eq_true rfl)) dX6_countWays_5 ⟨Nat.le_refl _, Nat.le_refl _⟩) hP hD hS hA [1, 2, 3, 4, 5, 6, 7, 8, 9, 10, 11] [0, 12] [0, 2, 3, 4, 5, 6, 7, 8, 9, 10, 11, 12, 1] rfl rfl rfl rfl (fun H locs hP hD hS => ?_)
  refine lv_aload_n hx hb dX6_countWays_8 rfl (lv_at hl 0 rfl) ?_
  refine lv_aload_n hx hb dX6_countWays_9 rfl (lv_at hl 1 rfl) ?_
  obtain ⟨s2, h_s2, hf⟩ := hf_bind hf
  refine wh_calll (D := (dC, dI)) (ws' := (wl_fNumberSearch_countWays cI cZ cJ cQ a_0 a_1 a_1inField a_1number a_0list a_0listeveryCells a_0listeveryFirst a_0listfirst a_0listeveryLast a_0listlast a_0listcells a_0listowner a_0choices a_1first a_1last numbers_0 ways_0 inField_1 number_1 s1.1 everyCells_0list everyFirst_0list s1.2.1 everyLast_0list s1.2.2.1 s1.2.2.2.1 s1.2.2.2.2 choices_0)) (va_runV (As := []) (rest := [.ref a_0]) ⟨hx, hb, hml, hown, hts⟩ (c_fBoard_openNumbers l dC dI cI cZ cJ cQ a_1 a_1number a_1inField a_1first a_1last _ h_s2) (cwV 0 hts gX6_countWays_X0_openNumbers rfl rfl rfl (by decide +kernel) ⟨Nat.le_of_ble_eq_true rfl, Nat.le_of_ble_eq_true rfl⟩) (wh_preV (C := RX0) (T := TX0) (N := 4) hK hN hP hD [1, 3, 2] rfl rfl 0 0 rfl rfl) rfl rfl hl.1 rfl (lv_room (Nat.le_of_ble_eq_true rfl)) dX6_countWays_10 ⟨Nat.le_refl _, Nat.le_refl _⟩) hP hD hS hA [1, 3, 2] [0, 4, 5, 6, 7, 8, 9, 10, 11, 12] [0, 10, 12, 11, 1, 2, 3, 4, 5, 6, 7, 8, 9] rfl rfl rfl rfl (fun H locs hP hD hS => ?_)
  refine wh_put (D := (dC, dI)) (ci := 6) (C := RX6) (T := TX6) (N := 4) (ty := .long) (v := .long s2) (ws' := (wl_fNumberSearch_countWays cI cZ cJ cQ a_0 a_1 a_1inField a_1number a_0list a_0listeveryCells a_0listeveryFirst a_0listfirst a_0listeveryLast a_0listlast a_0listcells a_0listowner a_0choices a_1first a_1last s2 ways_0 inField_1 number_1 s1.1 everyCells_0list everyFirst_0list s1.2.1 everyLast_0list s1.2.2.1 s1.2.2.2.1 s1.2.2.2.2 choices_0)) hx hb hts hiX6 tyX6 tyX6_ok nmX6 hown hK hP hD hS 0 rfl rfl 2 (by decide) (hts (.fieldLink RX6 19 "PaddockFields$NumberSearch" "numbers" "J") (List.mem_cons_of_mem _ (List.mem_append_left _ (List.mem_append_left _ (List.mem_append_left _ (List.mem_append_left _ (List.mem_of_getElem? (i := 1) rfl))))))) (fun _ h9 => h9) rfl rfl rfl rfl (Nat.le_of_ble_eq_true rfl) rfl dX6_countWays_13 (fun H locs hP hD hS => ?_)
  refine lv_aload_n hx hb dX6_countWays_16 rfl (lv_at hl 0 rfl) ?_
  refine lv_iconst (v := 0) hx hb dX6_countWays_17 (by decide) ?_
  refine wh_put (D := (dC, dI)) (ci := 6) (C := RX6) (T := TX6) (N := 4) (ty := .int) (v := .int (0 : Int32)) (ws' := (wl_fNumberSearch_countWays cI cZ cJ cQ a_0 a_1 a_1inField a_1number a_0list a_0listeveryCells a_0listeveryFirst a_0listfirst a_0listeveryLast a_0listlast a_0listcells a_0listowner a_0choices a_1first a_1last s2 (0 : Int32) inField_1 number_1 s1.1 everyCells_0list everyFirst_0list s1.2.1 everyLast_0list s1.2.2.1 s1.2.2.2.1 s1.2.2.2.2 choices_0)) hx hb hts hiX6 tyX6 tyX6_ok nmX6 hown hK hP hD hS 0 rfl rfl 3 (by decide) (hts (.fieldLink RX6 23 "PaddockFields$NumberSearch" "ways" "I") (List.mem_cons_of_mem _ (List.mem_append_left _ (List.mem_append_left _ (List.mem_append_left _ (List.mem_append_left _ (List.mem_of_getElem? (i := 2) rfl))))))) (fun _ h9 => h9) rfl rfl rfl rfl (Nat.le_of_ble_eq_true rfl) rfl dX6_countWays_18 (fun H locs hP hD hS => ?_)
  refine lv_aload_n hx hb dX6_countWays_21 rfl (lv_at hl 1 rfl) ?_
  obtain ⟨s3, h_s3, hf⟩ := hf_bind hf
  refine wh_calli (D := (dC, dI)) (ws' := (wl_fNumberSearch_countWays cI cZ cJ cQ a_0 a_1 a_1inField a_1number a_0list a_0listeveryCells a_0listeveryFirst a_0listfirst a_0listeveryLast a_0listlast a_0listcells a_0listowner a_0choices a_1first a_1last s2 (0 : Int32) inField_1 number_1 s1.1 everyCells_0list everyFirst_0list s1.2.1 everyLast_0list s1.2.2.1 s1.2.2.2.1 s1.2.2.2.2 choices_0)) (va_runV (As := []) (rest := []) ⟨hx, hb, hml, hown, hts⟩ (c_fBoard_addsUp l dC dI cI cZ cJ cQ a_1 a_1inField a_1number a_1first a_1last _ h_s3) (cwV 0 hts gX6_countWays_X0_addsUp rfl rfl rfl (by decide +kernel) ⟨Nat.le_of_ble_eq_true rfl, Nat.le_of_ble_eq_true rfl⟩) (wh_preV (C := RX0) (T := TX0) (N := 4) hK hN hP hD [1, 2, 3] rfl rfl 0 0 rfl rfl) rfl rfl hl.1 rfl (lv_room (Nat.le_of_ble_eq_true rfl)) dX6_countWays_22 ⟨Nat.le_refl _, Nat.le_refl _⟩) hP hD hS hA [1, 2, 3] [0, 4, 5, 6, 7, 8, 9, 10, 11, 12] [0, 10, 11, 12, 1, 2, 3, 4, 5, 6, 7, 8, 9] rfl rfl rfl rfl (fun H locs hP hD hS => ?_)
  obtain ⟨j6, h_j6, hf⟩ := hf_bind hf
  have hJ_1 : ∀ (H : Heap) (locs : List Loc) (ls : Array Slot), lv_has ls 2 [(0, .ref a_0)] → va_P (dC, dI) vwCl (wl_fNumberSearch_countWays cI cZ cJ cQ a_0 a_1 a_1inField a_1number a_0list a_0listeveryCells a_0listeveryFirst a_0listfirst a_0listeveryLast a_0listlast a_0listcells a_0listowner a_0choices a_1first a_1last s2 j6.1 inField_1 number_1 s1.1 everyCells_0list everyFirst_0list s1.2.1 everyLast_0list s1.2.2.1 s1.2.2.2.1 s1.2.2.2.2 j6.2) H → va_D A (wl_fNumberSearch_countWays cI cZ cJ cQ a_0 a_1 a_1inField a_1number a_0list a_0listeveryCells a_0listeveryFirst a_0listfirst a_0listeveryLast a_0listlast a_0listcells a_0listowner a_0choices a_1first a_1last s2 j6.1 inField_1 number_1 s1.1 everyCells_0list everyFirst_0list s1.2.1 everyLast_0list s1.2.2.1 s1.2.2.2.1 s1.2.2.2.2 j6.2) → va_S A s.heap H locs → W p l e ({ frames := 92, cells := 0, slots := 0, locals := 2293 } : Room) s m [.ref a_0, .ref a_1].toArray below meth c H locs 0 0 QQ (F0 m 37 ls []) := by
    intro H locs ls hl hP hD hS
    refine lv_aload_n hx hb dX6_countWays_37 rfl (lv_at hl 0 rfl) ?_
    refine va_get (D := (dC, dI)) (ci := 6) (C := RX6) (T := TX6) (N := 4) hx hb hts hiX6 hown hK hP 0 rfl rfl 3 (by decide) (hts (.fieldLink RX6 23 "PaddockFields$NumberSearch" "ways" "I") (List.mem_cons_of_mem _ (List.mem_append_left _ (List.mem_append_left _ (List.mem_append_left _ (List.mem_append_left _ (List.mem_of_getElem? (i := 2) rfl))))))) (fun _ h9 => h9) rfl dX6_countWays_38 ?_
    obtain rfl := Option.some.inj hf
    exact hret _ _ _ _ hP hD hS dX6_countWays_41
  clear hf
  have hf := h_j6
  clear h_j6
  refine lv_if_eq (tgt := 37) hx hb dX6_countWays_25 (by decide) (fun cc => ?_) (fun cc => ?_)
  · replace hf := hf_pos cc hf
    obtain rfl := Option.some.inj hf
    exact hJ_1 _ _ _ (lv_sub hl [0] rfl) hP hD hS
  · replace hf := hf_neg cc hf
    refine lv_aload_n hx hb dX6_countWays_28 rfl (lv_at hl 0 rfl) ?_
    refine lv_aload_n hx hb dX6_countWays_29 rfl (lv_at hl 1 rfl) ?_
    obtain ⟨s4, h_s4, hf⟩ := hf_bind hf
    refine wh_calll (D := (dC, dI)) (ws' := (wl_fNumberSearch_countWays cI cZ cJ cQ a_0 a_1 a_1inField a_1number a_0list a_0listeveryCells a_0listeveryFirst a_0listfirst a_0listeveryLast a_0listlast a_0listcells a_0listowner a_0choices a_1first a_1last s2 (0 : Int32) inField_1 number_1 s1.1 everyCells_0list everyFirst_0list s1.2.1 everyLast_0list s1.2.2.1 s1.2.2.2.1 s1.2.2.2.2 choices_0)) (va_runV (As := []) (rest := [.ref a_0]) ⟨hx, hb, hml, hown, hts⟩ (c_fBoard_cellsInFields l dC dI cI cZ cJ cQ a_1 a_1inField a_1number a_1first a_1last _ h_s4) (cwV 0 hts gX6_countWays_X0_cellsInFields rfl rfl rfl (by decide +kernel) ⟨Nat.le_of_ble_eq_true rfl, Nat.le_of_ble_eq_true rfl⟩) (wh_preV (C := RX0) (T := TX0) (N := 4) hK hN hP hD [1, 2] rfl rfl 0 0 rfl rfl) rfl rfl hl.1 rfl (lv_room (Nat.le_of_ble_eq_true rfl)) dX6_countWays_30 ⟨Nat.le_refl _, Nat.le_refl _⟩) hP hD hS hA [1, 2] [0, 3, 4, 5, 6, 7, 8, 9, 10, 11, 12] [0, 11, 12, 1, 2, 3, 4, 5, 6, 7, 8, 9, 10] rfl rfl rfl rfl (fun H locs hP hD hS => ?_)
    refine lv_iconst (v := 0) hx hb dX6_countWays_33 (by decide) ?_
    obtain ⟨s5, h_s5, hf⟩ := hf_bind hf
    refine wh_callv (D := (dC, dI)) (ws' := (wl_fNumberSearch_countWays cI cZ cJ cQ a_0 a_1 a_1inField a_1number a_0list a_0listeveryCells a_0listeveryFirst a_0listfirst a_0listeveryLast a_0listlast a_0listcells a_0listowner a_0choices a_1first a_1last s2 s5.2 inField_1 number_1 s1.1 everyCells_0list everyFirst_0list s1.2.1 everyLast_0list s1.2.2.1 s1.2.2.2.1 s1.2.2.2.2 s5.1)) (va_runV (As := [.long s4, .int (0 : Int32)]) (rest := []) ⟨hx, hb, hml, hown, hts⟩ (c_fNumberSearch_fill l dC dI cI cZ cJ cQ a_0 a_0list a_0listcells a_0choices a_0listowner a_0listeveryFirst a_0listeveryLast a_0listeveryCells a_0listfirst a_0listlast 44 _ _ _ _ _ _ _ _ _ _ h_s5) (cwV 2 hts gX6_countWays_X6_fill rfl rfl rfl (by decide +kernel) ⟨Nat.le_of_ble_eq_true rfl, Nat.le_of_ble_eq_true rfl⟩) (wh_preV (C := RX6) (T := TX6) (N := 4) hK hN hP hD [0, 4, 10, 12, 11] rfl rfl 6 0 rfl rfl) rfl rfl hl.1 rfl (lv_room (Nat.le_of_ble_eq_true rfl)) dX6_countWays_34 ⟨Nat.le_refl _, Nat.le_refl _⟩) hP hD hS hA [0, 4, 10, 12, 11] [1, 2, 3, 5, 6, 7, 8, 9] [8, 0, 1, 2, 9, 3, 4, 5, 6, 7, 10, 12, 11] rfl rfl rfl rfl (fun H locs hP hD hS => ?_)
    obtain rfl := Option.some.inj hf
    exact hJ_1 _ _ _ (lv_sub hl [0] rfl) hP hD hS
set_option maxHeartbeats 4000000 in
set_option maxRecDepth 100000 in
theorem c_fHash_init (l : Launch) (dC : Nat → ClassId) (dI : Nat → Nat → Nat) (cI cZ cJ cQ : ClassId) (a_0 : Nat) (sz : Nat) {value_0 : Int64} {out : Int64} (hf : fHash_init value_0 = some out) : Met l yX2_init wsX2_init ({ frames := 1, cells := 0, slots := 0, locals := 30 } : Room) (va_Pc [.ref a_0] (wlP (dC, dI) (wlT cI cZ cJ cQ) (wl_fHash_init cI cZ cJ cQ a_0 value_0) sz)) (va_Qv (fun (_ : Unit) => True) (wlQ (dC, dI) (va_A (wl_fHash_init cI cZ cJ cQ a_0 value_0) sz) (wl_fHash_init cI cZ cJ cQ a_0 out)) (va_A (wl_fHash_init cI cZ cJ cQ a_0 value_0) sz)) 0 0 (va_A (wl_fHash_init cI cZ cJ cQ a_0 value_0) sz) := by
  refine wh_ofWv (lv := [(0, .ref a_0)]) RX2 (by decide) rfl rfl (Nat.le_of_ble_eq_true rfl) rfl ?_
  intro p e s m below meth c A QQ hx hb hml hown hts hP hK hN hD hA hret ls hl
  have hS : va_S A s.heap s.heap [] := va_S.rf
  have hiX2 : ∀ w ∈ wsX20, w ∈ wsX2_init := (fun _ h => List.mem_cons_of_mem _ (List.mem_append_right _ (h)))
  unfold fHash_init at hf
  refine lv_aload_n hx hb dX2_init_0 rfl (lv_at hl 0 rfl) ?_
  refine W.objInit hx hb hown (hts (.methodLink RX2 1 objectInit) (List.mem_cons_of_mem _ (List.mem_append_left _ (List.mem_of_getElem? (i := 0) rfl)))) (hts (.instanceMethod objectInit) (List.mem_cons_of_mem _ (List.mem_append_left _ (List.mem_of_getElem? (i := 1) rfl)))) (hts (.code objectInit ⟨#[0xb1]⟩ 1 none) (List.mem_cons_of_mem _ (List.mem_append_left _ (List.mem_of_getElem? (i := 2) rfl)))) rfl (hl.1.trans hml.symm) rfl dX2_init_1 (Nat.le_of_ble_eq_true rfl) (Nat.le_of_ble_eq_true rfl) ?_
  refine lv_aload_n hx hb dX2_init_4 rfl (lv_at hl 0 rfl) ?_
  refine lv_ldc2 hx hb hown (hts (.constantLong RX2 7 (4421)) (List.mem_cons_of_mem _ (List.mem_append_left _ (List.mem_of_getElem? (i := 3) rfl)))) dX2_init_5 ?_
  refine wh_put (D := (dC, dI)) (ci := 2) (C := RX2) (T := TX2) (N := 1) (ty := .long) (v := .long (4421 : Int64)) (ws' := (wl_fHash_init cI cZ cJ cQ a_0 (4421 : Int64))) hx hb hts hiX2 tyX2 tyX2_ok nmX2 hown hK hP hD hS 0 rfl rfl 0 (by decide) (hts (.fieldLink RX2 9 "PaddockFields$Hash" "value" "J") (List.mem_cons_of_mem _ (List.mem_append_left _ (List.mem_of_getElem? (i := 4) rfl)))) (fun _ h9 => h9) rfl rfl rfl rfl (Nat.le_of_ble_eq_true rfl) rfl dX2_init_8 (fun H locs hP hD hS => ?_)
  obtain rfl := Option.some.inj hf
  exact hret _ _ _ _ hP hD hS dX2_init_11
