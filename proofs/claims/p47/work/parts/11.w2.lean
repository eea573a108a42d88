def fRectangles_put (x1 : Int32) (x2 : Int32) (count_0 : Int32) (everyFirst_0 : Nat → Int32) (first_0 : Nat → Int32) (everyLast_0 : Nat → Int32) (last_0 : Nat → Int32) (everyCells_0 : Nat → Int64) (cells_0 : Nat → Int64) (owner_0 : Nat → Int32) : Option ((Nat → Int32) × (Nat → Int32) × (Nat → Int64) × (Nat → Int32) × Int32) :=
  if x1 < (0 : Int32) then
    some (first_0, last_0, cells_0, owner_0, count_0)
  else
    if (588 : Int32) ≤ x1 then
      some (first_0, last_0, cells_0, owner_0, count_0)
    else
      if count_0 < (0 : Int32) then
        some (first_0, last_0, cells_0, owner_0, count_0)
      else
        if (588 : Int32) ≤ count_0 then
          some (first_0, last_0, cells_0, owner_0, count_0)
        else
          (o_rd 588 everyFirst_0 x1).bind fun v1 =>
          (o_wrI 588 first_0 count_0 v1).bind fun w2 =>
          (o_rd 588 everyLast_0 x1).bind fun v3 =>
          (o_wrI 588 last_0 count_0 v3).bind fun w4 =>
          (o_rd 588 everyCells_0 x1).bind fun v5 =>
          (o_wrJ 588 cells_0 count_0 v5).bind fun w6 =>
          (o_wrI 588 owner_0 count_0 x2).bind fun w7 =>
          some (w2, w4, w6, w7, (count_0 + (1 : Int32)))
abbrev wl_fRectangles_put (cI cZ cJ cQ : ClassId) (a_0 a_0everyFirst a_0first a_0everyLast a_0last a_0everyCells a_0cells a_0owner : Nat) (count_0 : Int32) (everyFirst_0 : Nat → Int32) (first_0 : Nat → Int32) (everyLast_0 : Nat → Int32) (last_0 : Nat → Int32) (everyCells_0 : Nat → Int64) (cells_0 : Nat → Int64) (owner_0 : Nat → Int32) : va_W := [(a_0, .inr (6, [.ref a_0everyFirst, .ref a_0everyLast, .ref a_0everyCells, .ref a_0first, .ref a_0last, .ref a_0cells, .ref a_0owner, .int count_0])), (a_0everyFirst, .inl (cI, 588, .inl everyFirst_0)), (a_0first, .inl (cI, 588, .inl first_0)), (a_0everyLast, .inl (cI, 588, .inl everyLast_0)), (a_0last, .inl (cI, 588, .inl last_0)), (a_0everyCells, .inl (cJ, 588, .inr (.inl everyCells_0))), (a_0cells, .inl (cJ, 588, .inr (.inl cells_0))), (a_0owner, .inl (cI, 588, .inl owner_0))]
def fRectangles_find_L19 (F : Nat) (l2 : Int64) (l4 : Int64) (number_1 : Nat → Int32) (everyCells_0 : Nat → Int64) (everyFirst_0 : Nat → Int32) (everyLast_0 : Nat → Int32) : Nat → Int32 → Int32 → (Nat → Int32) → (Nat → Int32) → (Nat → Int64) → (Nat → Int32) → Option (Int32 × Int32 × (Nat → Int32) × (Nat → Int32) × (Nat → Int64) × (Nat → Int32))
  | 0, _, _, _, _, _, _ => none
  | N + 1, l6, count_0, first_0, last_0, cells_0, owner_0 =>
    if (588 : Int32) ≤ l6 then
      some (l6, count_0, first_0, last_0, cells_0, owner_0)
    else
      (o_rd 588 everyCells_0 l6).bind fun v3 =>
      (o_rd 588 everyCells_0 l6).bind fun v4 =>
      (show Option (Int32 × (Nat → Int32) × (Nat → Int32) × (Nat → Int64) × (Nat → Int32)) from
        if ¬ (v4 &&& l2) = (0 : Int64) then
          some (count_0, first_0, last_0, cells_0, owner_0)
        else
          if ¬ (fJ_bitCount (v3 &&& l4)) = (1 : Int32) then
            some (count_0, first_0, last_0, cells_0, owner_0)
          else
            (fX_lowestCell (v3 &&& l4)).bind fun s5 =>
            (fBoard_numberIn s5 number_1).bind fun s6 =>
            (o_rd 588 everyCells_0 l6).bind fun v7 =>
            if ¬ s6 = (fJ_bitCount v7) then
              some (count_0, first_0, last_0, cells_0, owner_0)
            else
              (fRectangles_put l6 s5 count_0 everyFirst_0 first_0 everyLast_0 last_0 everyCells_0 cells_0 owner_0).bind fun s8 =>
              some (s8.2.2.2.2, s8.1, s8.2.1, s8.2.2.1, s8.2.2.2.1)).bind fun j9 =>
      fRectangles_find_L19 F l2 l4 number_1 everyCells_0 everyFirst_0 everyLast_0 N (l6 + (1 : Int32)) j9.1 j9.2.1 j9.2.2.1 j9.2.2.2.1 j9.2.2.2.2
def fRectangles_find (F : Nat) (inField_1 : Nat → Int32) (number_1 : Nat → Int32) (count_0 : Int32) (everyCells_0 : Nat → Int64) (everyFirst_0 : Nat → Int32) (first_0 : Nat → Int32) (everyLast_0 : Nat → Int32) (last_0 : Nat → Int32) (cells_0 : Nat → Int64) (owner_0 : Nat → Int32) : Option (Int32 × (Nat → Int32) × (Nat → Int32) × (Nat → Int64) × (Nat → Int32)) :=
  (fBoard_cellsInFields F inField_1).bind fun s1 =>
  (fBoard_cellsWithNumber F number_1).bind fun s2 =>
  (fRectangles_find_L19 F s1 s2 number_1 everyCells_0 everyFirst_0 everyLast_0 F (0 : Int32) (0 : Int32) first_0 last_0 cells_0 owner_0).bind fun r10 =>
  some (r10.2.1, r10.2.2.1, r10.2.2.2.1, r10.2.2.2.2.1, r10.2.2.2.2.2)
abbrev wl_fRectangles_find (cI cZ cJ cQ : ClassId) (a_1 a_1inField a_1number a_0 a_0everyCells a_0everyFirst a_0first a_0everyLast a_0last a_0cells a_0owner a_1first a_1last : Nat) (inField_1 : Nat → Int32) (number_1 : Nat → Int32) (count_0 : Int32) (everyCells_0 : Nat → Int64) (everyFirst_0 : Nat → Int32) (first_0 : Nat → Int32) (everyLast_0 : Nat → Int32) (last_0 : Nat → Int32) (cells_0 : Nat → Int64) (owner_0 : Nat → Int32) : va_W := [(a_1, .inr (0, [.ref a_1number, .ref a_1inField, .ref a_1first, .ref a_1last])), (a_1inField, .inl (cZ, 42, .inl inField_1)), (a_1number, .inl (cI, 42, .inl number_1)), (a_0, .inr (6, [.ref a_0everyFirst, .ref a_0everyLast, .ref a_0everyCells, .ref a_0first, .ref a_0last, .ref a_0cells, .ref a_0owner, .int count_0])), (a_0everyCells, .inl (cJ, 588, .inr (.inl everyCells_0))), (a_0everyFirst, .inl (cI, 588, .inl everyFirst_0)), (a_0first, .inl (cI, 588, .inl first_0)), (a_0everyLast, .inl (cI, 588, .inl everyLast_0)), (a_0last, .inl (cI, 588, .inl last_0)), (a_0cells, .inl (cJ, 588, .inr (.inl cells_0))), (a_0owner, .inl (cI, 588, .inl owner_0))]
def fRectangles_ownerAt (x1 : Int32) (count_0 : Int32) (owner_0 : Nat → Int32) : Option (Int32) :=
  if x1 < (0 : Int32) then
    some (42 : Int32)
  else
    if count_0 ≤ x1 then
      some (42 : Int32)
    else
      if (588 : Int32) ≤ x1 then
        some (42 : Int32)
      else
        (o_rd 588 owner_0 x1).bind fun v1 =>
        some v1
abbrev wl_fRectangles_ownerAt (cI cZ cJ cQ : ClassId) (a_0 a_0owner a_0everyFirst a_0everyLast a_0everyCells a_0first a_0last a_0cells : Nat) (count_0 : Int32) (owner_0 : Nat → Int32) : va_W := [(a_0, .inr (6, [.ref a_0everyFirst, .ref a_0everyLast, .ref a_0everyCells, .ref a_0first, .ref a_0last, .ref a_0cells, .ref a_0owner, .int count_0])), (a_0owner, .inl (cI, 588, .inl owner_0))]
def fRectangles_countOf_L4 (F : Nat) (l1 : Int32) (count_0 : Int32) (owner_0 : Nat → Int32) : Nat → Int32 → Int32 → Option (Int32 × Int32)
  | 0, _, _ => none
  | N + 1, l2, l3 =>
    if count_0 ≤ l3 then
      some (l2, l3)
    else
      (fRectangles_ownerAt l3 count_0 owner_0).bind fun s1 =>
      (show Option (Int32) from
        if ¬ s1 = l1 then
          some (0 : Int32)
        else
          some (1 : Int32)).bind fun j2 =>
      fRectangles_countOf_L4 F l1 count_0 owner_0 N (l2 + j2) (l3 + (1 : Int32))
def fRectangles_countOf (F : Nat) (x1 : Int32) (count_0 : Int32) (owner_0 : Nat → Int32) : Option (Int32) :=
  (fRectangles_countOf_L4 F x1 count_0 owner_0 F (0 : Int32) (0 : Int32)).bind fun r3 =>
  some r3.1
abbrev wl_fRectangles_countOf (cI cZ cJ cQ : ClassId) (a_0 a_0owner a_0everyFirst a_0everyLast a_0everyCells a_0first a_0last a_0cells : Nat) (count_0 : Int32) (owner_0 : Nat → Int32) : va_W := [(a_0, .inr (6, [.ref a_0everyFirst, .ref a_0everyLast, .ref a_0everyCells, .ref a_0first, .ref a_0last, .ref a_0cells, .ref a_0owner, .int count_0])), (a_0owner, .inl (cI, 588, .inl owner_0))]
def fRectangles_indexOf_L5 (F : Nat) (l1 : Int32) (l2 : Int32) (count_0 : Int32) (owner_0 : Nat → Int32) : Nat → Int32 → Int32 → Option (Int32)
  | 0, _, _ => none
  | N + 1, l3, l4 =>
    if count_0 ≤ l4 then
      some (-1 : Int32)
    else
      (fRectangles_ownerAt l4 count_0 owner_0).bind fun s1 =>
      if ¬ s1 = l1 then
        fRectangles_indexOf_L5 F l1 l2 count_0 owner_0 N l3 (l4 + (1 : Int32))
      else
        if ¬ l3 = l2 then
          fRectangles_indexOf_L5 F l1 l2 count_0 owner_0 N (l3 + (1 : Int32)) (l4 + (1 : Int32))
        else
          some l4
def fRectangles_indexOf (F : Nat) (x1 : Int32) (x2 : Int32) (count_0 : Int32) (owner_0 : Nat → Int32) : Option (Int32) :=
  (fRectangles_indexOf_L5 F x1 x2 count_0 owner_0 F (0 : Int32) (0 : Int32))
abbrev wl_fRectangles_indexOf (cI cZ cJ cQ : ClassId) (a_0 a_0owner a_0everyFirst a_0everyLast a_0everyCells a_0first a_0last a_0cells : Nat) (count_0 : Int32) (owner_0 : Nat → Int32) : va_W := [(a_0, .inr (6, [.ref a_0everyFirst, .ref a_0everyLast, .ref a_0everyCells, .ref a_0first, .ref a_0last, .ref a_0cells, .ref a_0owner, .int count_0])), (a_0owner, .inl (cI, 588, .inl owner_0))]
def fRectangles_firstAt (x1 : Int32) (count_0 : Int32) (first_0 : Nat → Int32) : Option (Int32) :=
  if x1 < (0 : Int32) then
    some (42 : Int32)
  else
    if count_0 ≤ x1 then
      some (42 : Int32)
    else
      if (588 : Int32) ≤ x1 then
        some (42 : Int32)
      else
        (o_rd 588 first_0 x1).bind fun v1 =>
        some v1
abbrev wl_fRectangles_firstAt (cI cZ cJ cQ : ClassId) (a_0 a_0first a_0everyFirst a_0everyLast a_0everyCells a_0last a_0cells a_0owner : Nat) (count_0 : Int32) (first_0 : Nat → Int32) : va_W := [(a_0, .inr (6, [.ref a_0everyFirst, .ref a_0everyLast, .ref a_0everyCells, .ref a_0first, .ref a_0last, .ref a_0cells, .ref a_0owner, .int count_0])), (a_0first, .inl (cI, 588, .inl first_0))]
def fRectangles_lastAt (x1 : Int32) (count_0 : Int32) (last_0 : Nat → Int32) : Option (Int32) :=
  if x1 < (0 : Int32) then
    some (42 : Int32)
  else
    if count_0 ≤ x1 then
      some (42 : Int32)
    else
      if (588 : Int32) ≤ x1 then
        some (42 : Int32)
      else
        (o_rd 588 last_0 x1).bind fun v1 =>
        some v1
abbrev wl_fRectangles_lastAt (cI cZ cJ cQ : ClassId) (a_0 a_0last a_0everyFirst a_0everyLast a_0everyCells a_0first a_0cells a_0owner : Nat) (count_0 : Int32) (last_0 : Nat → Int32) : va_W := [(a_0, .inr (6, [.ref a_0everyFirst, .ref a_0everyLast, .ref a_0everyCells, .ref a_0first, .ref a_0last, .ref a_0cells, .ref a_0owner, .int count_0])), (a_0last, .inl (cI, 588, .inl last_0))]
def fRectangles_bothEnds (x1 : Int32) (count_0 : Int32) (first_0 : Nat → Int32) (last_0 : Nat → Int32) : Option (Int32) :=
  (fRectangles_firstAt x1 count_0 first_0).bind fun s1 =>
  (fRectangles_lastAt x1 count_0 last_0).bind fun s2 =>
  some ((s1 * (42 : Int32)) + s2)
abbrev wl_fRectangles_bothEnds (cI cZ cJ cQ : ClassId) (a_0 a_0first a_0last a_0everyFirst a_0everyLast a_0everyCells a_0cells a_0owner : Nat) (count_0 : Int32) (first_0 : Nat → Int32) (last_0 : Nat → Int32) : va_W := [(a_0, .inr (6, [.ref a_0everyFirst, .ref a_0everyLast, .ref a_0everyCells, .ref a_0first, .ref a_0last, .ref a_0cells, .ref a_0owner, .int count_0])), (a_0first, .inl (cI, 588, .inl first_0)), (a_0last, .inl (cI, 588, .inl last_0))]
def fMaker_put (x1 : Int32) (x2 : Int32) (count_0 : Int32) (first_0 : Nat → Int32) (last_0 : Nat → Int32) : Option ((Nat → Int32) × (Nat → Int32) × Int32) :=
  if count_0 < (0 : Int32) then
    some (first_0, last_0, count_0)
  else
    if (42 : Int32) ≤ count_0 then
      some (first_0, last_0, count_0)
    else
      (o_wrI 42 first_0 count_0 x1).bind fun w1 =>
      (o_wrI 42 last_0 count_0 x2).bind fun w2 =>
      some (w1, w2, (count_0 + (1 : Int32)))
abbrev wl_fMaker_put (cI cZ cJ cQ : ClassId) (a_0 a_0first a_0last : Nat) (count_0 : Int32) (x_0 : Int64) (first_0 : Nat → Int32) (last_0 : Nat → Int32) : va_W := [(a_0, .inr (4, [.ref a_0first, .ref a_0last, .int count_0, .long x_0])), (a_0first, .inl (cI, 42, .inl first_0)), (a_0last, .inl (cI, 42, .inl last_0))]
def fMaker_firstLarge_L2 (F : Nat) (count_0 : Int32) (first_0 : Nat → Int32) (last_0 : Nat → Int32) : Nat → Int32 → Option (Int32)
  | 0, _ => none
  | N + 1, l1 =>
    if count_0 ≤ l1 then
      some (-1 : Int32)
    else
      if (42 : Int32) ≤ l1 then
        some (-1 : Int32)
      else
        (o_rd 42 first_0 l1).bind fun v1 =>
        (o_rd 42 last_0 l1).bind fun v2 =>
        (fX_sizeOf v1 v2).bind fun s3 =>
        if s3 ≤ (6 : Int32) then
          fMaker_firstLarge_L2 F count_0 first_0 last_0 N (l1 + (1 : Int32))
        else
          some l1
def fMaker_firstLarge (F : Nat) (count_0 : Int32) (first_0 : Nat → Int32) (last_0 : Nat → Int32) : Option (Int32) :=
  (fMaker_firstLarge_L2 F count_0 first_0 last_0 F (0 : Int32))
abbrev wl_fMaker_firstLarge (cI cZ cJ cQ : ClassId) (a_0 a_0first a_0last : Nat) (count_0 : Int32) (x_0 : Int64) (first_0 : Nat → Int32) (last_0 : Nat → Int32) : va_W := [(a_0, .inr (4, [.ref a_0first, .ref a_0last, .int count_0, .long x_0])), (a_0first, .inl (cI, 42, .inl first_0)), (a_0last, .inl (cI, 42, .inl last_0))]
def fMaker_drawBelow (x1 : Int32) (x_0 : Int64) : Option (Int32 × Int64) :=
  if x1 ≤ (0 : Int32) then
    some ((0 : Int32), (((x_0 * (1103515245 : Int64)) + (12345 : Int64)) - ((x_0 * (1103515245 : Int64)) + (12345 : Int64)) / (2147483648 : Int64) * (2147483648 : Int64)))
  else
    (o_remJ ((((x_0 * (1103515245 : Int64)) + (12345 : Int64)) - ((x_0 * (1103515245 : Int64)) + (12345 : Int64)) / (2147483648 : Int64) * (2147483648 : Int64)) / (65536 : Int64)) x1.toInt64).bind fun v1 =>
    some (v1.toInt32, (((x_0 * (1103515245 : Int64)) + (12345 : Int64)) - ((x_0 * (1103515245 : Int64)) + (12345 : Int64)) / (2147483648 : Int64) * (2147483648 : Int64)))
abbrev wl_fMaker_drawBelow (cI cZ cJ cQ : ClassId) (a_0 a_0first a_0last : Nat) (count_0 : Int32) (x_0 : Int64) : va_W := [(a_0, .inr (4, [.ref a_0first, .ref a_0last, .int count_0, .long x_0]))]
def fMaker_cut (x1 : Int32) (first_0 : Nat → Int32) (last_0 : Nat → Int32) (x_0 : Int64) (count_0 : Int32) : Option (Int64 × (Nat → Int32) × (Nat → Int32) × Int32) :=
  if x1 < (0 : Int32) then
    some (x_0, last_0, first_0, count_0)
  else
    if x1 < (42 : Int32) then
      (o_rd 42 first_0 x1).bind fun v1 =>
      (o_rd 42 last_0 x1).bind fun v2 =>
      (fX_rowsOf v1 v2).bind fun s3 =>
      (fX_columnsOf v1 v2).bind fun s4 =>
      if s3 ≤ s4 then
        (fMaker_drawBelow (s4 - (1 : Int32)) x_0).bind fun s5 =>
        (fX_cellAt (v2 / (7 : Int32)) (((v1 - v1 / (7 : Int32) * (7 : Int32)) + (s5.1 + (1 : Int32))) - (1 : Int32))).bind fun s6 =>
        (o_wrI 42 last_0 x1 s6).bind fun w7 =>
        (fMaker_put (v1 + (s5.1 + (1 : Int32))) v2 count_0 first_0 w7).bind fun s8 =>
        some (s5.2, s8.2.1, s8.1, s8.2.2)
      else
        (fMaker_drawBelow (s3 - (1 : Int32)) x_0).bind fun s9 =>
        (fX_cellAt (((v1 / (7 : Int32)) + (s9.1 + (1 : Int32))) - (1 : Int32)) (v2 - v2 / (7 : Int32) * (7 : Int32))).bind fun s10 =>
        (o_wrI 42 last_0 x1 s10).bind fun w11 =>
        (fMaker_put (v1 + ((s9.1 + (1 : Int32)) * (7 : Int32))) v2 count_0 first_0 w11).bind fun s12 =>
        some (s9.2, s12.2.1, s12.1, s12.2.2)
    else
      some (x_0, last_0, first_0, count_0)
abbrev wl_fMaker_cut (cI cZ cJ cQ : ClassId) (a_0 a_0first a_0last : Nat) (count_0 : Int32) (x_0 : Int64) (first_0 : Nat → Int32) (last_0 : Nat → Int32) : va_W := [(a_0, .inr (4, [.ref a_0first, .ref a_0last, .int count_0, .long x_0])), (a_0first, .inl (cI, 42, .inl first_0)), (a_0last, .inl (cI, 42, .inl last_0))]
def fMaker_cutAll_L2 (F : Nat) : Nat → Int32 → Int32 → (Nat → Int32) → (Nat → Int32) → Int64 → Option (Int64 × (Nat → Int32) × (Nat → Int32) × Int32)
  | 0, _, _, _, _, _ => none
  | N + 1, l1, count_0, first_0, last_0, x_0 =>
    if (42 : Int32) ≤ l1 then
      some (x_0, last_0, first_0, count_0)
    else
      (fMaker_firstLarge F count_0 first_0 last_0).bind fun s1 =>
      if (0 : Int32) ≤ s1 then
        (fMaker_cut s1 first_0 last_0 x_0 count_0).bind fun s2 =>
        fMaker_cutAll_L2 F N (l1 + (1 : Int32)) s2.2.2.2 s2.2.2.1 s2.2.1 s2.1
      else
        some (x_0, last_0, first_0, count_0)
def fMaker_cutAll (F : Nat) (count_0 : Int32) (first_0 : Nat → Int32) (last_0 : Nat → Int32) (x_0 : Int64) : Option (Int64 × (Nat → Int32) × (Nat → Int32) × Int32) :=
  (fMaker_cutAll_L2 F F (0 : Int32) count_0 first_0 last_0 x_0)
abbrev wl_fMaker_cutAll (cI cZ cJ cQ : ClassId) (a_0 a_0first a_0last : Nat) (count_0 : Int32) (x_0 : Int64) (first_0 : Nat → Int32) (last_0 : Nat → Int32) : va_W := [(a_0, .inr (4, [.ref a_0first, .ref a_0last, .int count_0, .long x_0])), (a_0first, .inl (cI, 42, .inl first_0)), (a_0last, .inl (cI, 42, .inl last_0))]
def fMaker_cellInside (x0 : Int32) (x1 : Int32) (x2 : Int32) : Option (Int32) :=
  (fX_columnsOf x0 x1).bind fun s1 =>
  if s1 ≤ (0 : Int32) then
    some x0
  else
    (o_divI x2 s1).bind fun v2 =>
    (o_remI x2 s1).bind fun v3 =>
    some ((x0 + (v2 * (7 : Int32))) + v3)
abbrev wl_fMaker_cellInside (cI cZ cJ cQ : ClassId) : va_W := []
def fMaker_writeNumbers_L32 (F : Nat) (count_0 : Int32) (first_0 : Nat → Int32) (last_0 : Nat → Int32) : Nat → Int32 → Int64 → (Nat → Int32) → Option (Int32 × Int64 × (Nat → Int32))
  | 0, _, _, _ => none
  | N + 1, l3, x_0, number_1 =>
    if count_0 ≤ l3 then
      some (l3, x_0, number_1)
    else
      if (42 : Int32) ≤ l3 then
        some (l3, x_0, number_1)
      else
        (o_rd 42 first_0 l3).bind fun v5 =>
        (o_rd 42 last_0 l3).bind fun v6 =>
        (fX_sizeOf v5 v6).bind fun s7 =>
        (o_rd 42 first_0 l3).bind fun v8 =>
        (o_rd 42 last_0 l3).bind fun v9 =>
        (fMaker_drawBelow s7 x_0).bind fun s10 =>
        (fMaker_cellInside v8 v9 s10.1).bind fun s11 =>
        (fBoard_setNumber s11 s7 number_1).bind fun s12 =>
        fMaker_writeNumbers_L32 F count_0 first_0 last_0 N (l3 + (1 : Int32)) s10.2 s12
def fMaker_writeNumbers (F : Nat) (x2 : Int32) (inField_1 : Nat → Int32) (number_1 : Nat → Int32) (x_0 : Int64) (count_0 : Int32) (first_0 : Nat → Int32) (last_0 : Nat → Int32) : Option ((Nat → Int32) × (Nat → Int32) × Int64 × Int32 × (Nat → Int32) × (Nat → Int32)) :=
  (fBoard_removeFields F inField_1).bind fun s1 =>
  (fBoard_removeNumbers F number_1).bind fun s2 =>
  (fMaker_put (0 : Int32) (41 : Int32) (0 : Int32) first_0 last_0).bind fun s3 =>
  (fMaker_cutAll F s3.2.2 s3.1 s3.2.1 x2.toInt64).bind fun s4 =>
  (fMaker_writeNumbers_L32 F s4.2.2.2 s4.2.2.1 s4.2.1 F (0 : Int32) s4.1 s2).bind fun r13 =>
  some (s1, r13.2.2, r13.2.1, s4.2.2.2, s4.2.2.1, s4.2.1)
abbrev wl_fMaker_writeNumbers (cI cZ cJ cQ : ClassId) (a_1 a_1inField a_1number a_0 a_0first a_0last a_1first a_1last : Nat) (inField_1 : Nat → Int32) (number_1 : Nat → Int32) (count_0 : Int32) (x_0 : Int64) (first_0 : Nat → Int32) (last_0 : Nat → Int32) : va_W := [(a_1, .inr (0, [.ref a_1number, .ref a_1inField, .ref a_1first, .ref a_1last])), (a_1inField, .inl (cZ, 42, .inl inField_1)), (a_1number, .inl (cI, 42, .inl number_1)), (a_0, .inr (4, [.ref a_0first, .ref a_0last, .int count_0, .long x_0])), (a_0first, .inl (cI, 42, .inl first_0)), (a_0last, .inl (cI, 42, .inl last_0))]
def fRectangles_cellsAt (x1 : Int32) (count_0 : Int32) (cells_0 : Nat → Int64) : Option (Int64) :=
  if x1 < (0 : Int32) then
    some (0 : Int64)
  else
    if count_0 ≤ x1 then
      some (0 : Int64)
    else
      if (588 : Int32) ≤ x1 then
        some (0 : Int64)
      else
        (o_rd 588 cells_0 x1).bind fun v1 =>
        some v1
abbrev wl_fRectangles_cellsAt (cI cZ cJ cQ : ClassId) (a_0 a_0cells a_0everyFirst a_0everyLast a_0everyCells a_0first a_0last a_0owner : Nat) (count_0 : Int32) (cells_0 : Nat → Int64) : va_W := [(a_0, .inr (6, [.ref a_0everyFirst, .ref a_0everyLast, .ref a_0everyCells, .ref a_0first, .ref a_0last, .ref a_0cells, .ref a_0owner, .int count_0])), (a_0cells, .inl (cJ, 588, .inr (.inl cells_0)))]
def fRectangles_cellsInReach_L5 (F : Nat) (l1 : Int64) (count_0 : Int32) (cells_0 : Nat → Int64) : Nat → Int64 → Int32 → Option (Int64 × Int32)
  | 0, _, _ => none
  | N + 1, l3, l5 =>
    if count_0 ≤ l5 then
      some (l3, l5)
    else
      (fRectangles_cellsAt l5 count_0 cells_0).bind fun s1 =>
      (show Option (Int64) from
        if ¬ (s1 &&& l1) = (0 : Int64) then
          some (0 : Int64)
        else
          some s1).bind fun j2 =>
      fRectangles_cellsInReach_L5 F l1 count_0 cells_0 N (l3 ||| j2) (l5 + (1 : Int32))
def fRectangles_cellsInReach (F : Nat) (x1 : Int64) (count_0 : Int32) (cells_0 : Nat → Int64) : Option (Int64) :=
  (fRectangles_cellsInReach_L5 F x1 count_0 cells_0 F (0 : Int64) (0 : Int32)).bind fun r3 =>
  some r3.1
abbrev wl_fRectangles_cellsInReach (cI cZ cJ cQ : ClassId) (a_0 a_0cells a_0everyFirst a_0everyLast a_0everyCells a_0first a_0last a_0owner : Nat) (count_0 : Int32) (cells_0 : Nat → Int64) : va_W := [(a_0, .inr (6, [.ref a_0everyFirst, .ref a_0everyLast, .ref a_0everyCells, .ref a_0first, .ref a_0last, .ref a_0cells, .ref a_0owner, .int count_0])), (a_0cells, .inl (cJ, 588, .inr (.inl cells_0)))]
def fRectangles_size (count_0 : Int32) : Option (Int32) :=
  some count_0
abbrev wl_fRectangles_size (cI cZ cJ cQ : ClassId) (a_0 a_0everyFirst a_0everyLast a_0everyCells a_0first a_0last a_0cells a_0owner : Nat) (count_0 : Int32) : va_W := [(a_0, .inr (6, [.ref a_0everyFirst, .ref a_0everyLast, .ref a_0everyCells, .ref a_0first, .ref a_0last, .ref a_0cells, .ref a_0owner, .int count_0]))]
def fSteps_look_L2 (F : Nat) : Nat → Int32 → (Nat → Int64) → (Nat → Int64) → Option (Int32 × (Nat → Int64) × (Nat → Int64))
  | 0, _, _, _ => none
  | N + 1, l1, inSome_0, inAll_0 =>
    if (42 : Int32) ≤ l1 then
      some (l1, inSome_0, inAll_0)
    else
      (o_wrJ 42 inSome_0 l1 (0 : Int64)).bind fun w1 =>
      (o_wrJ 42 inAll_0 l1 (4398046511103 : Int64)).bind fun w2 =>
      fSteps_look_L2 F N (l1 + (1 : Int32)) w1 w2
def fSteps_look_L32 (F : Nat) (count_0list : Int32) (owner_0list : Nat → Int32) (left_0 : Nat → Int32) (cells_0list : Nat → Int64) : Nat → Int32 → (Nat → Int64) → (Nat → Int64) → Option (Int32 × (Nat → Int64) × (Nat → Int64))
  | 0, _, _, _ => none
  | N + 1, l1, inSome_0, inAll_0 =>
    if (588 : Int32) ≤ l1 then
      some (l1, inSome_0, inAll_0)
    else
      (fRectangles_ownerAt l1 count_0list owner_0list).bind fun s4 =>
      (o_rd 588 left_0 l1).bind fun v5 =>
      (show Option ((Nat → Int64) × (Nat → Int64)) from
        if v5 = (0 : Int32) then
          some (inSome_0, inAll_0)
        else
          (fX_isCell s4).bind fun s6 =>
          if s6 = (0 : Int32) then
            some (inSome_0, inAll_0)
          else
            (o_rd 42 inSome_0 s4).bind fun v7 =>
            (fRectangles_cellsAt l1 count_0list cells_0list).bind fun s8 =>
            (o_wrJ 42 inSome_0 s4 (v7 ||| s8)).bind fun w9 =>
            (o_rd 42 inAll_0 s4).bind fun v10 =>
            (fRectangles_cellsAt l1 count_0list cells_0list).bind fun s11 =>
            (o_wrJ 42 inAll_0 s4 (v10 &&& s11)).bind fun w12 =>
            some (w9, w12)).bind fun j13 =>
      fSteps_look_L32 F count_0list owner_0list left_0 cells_0list N (l1 + (1 : Int32)) j13.1 j13.2
def fSteps_look_L106 (F : Nat) (inSome_0 : Nat → Int64) : Nat → Int32 → (Nat → Int64) → Option (Int32 × (Nat → Int64))
  | 0, _, _ => none
  | N + 1, l1, inAll_0 =>
    if (42 : Int32) ≤ l1 then
      some (l1, inAll_0)
    else
      (o_rd 42 inAll_0 l1).bind fun v15 =>
      (o_rd 42 inSome_0 l1).bind fun v16 =>
      (o_wrJ 42 inAll_0 l1 (v15 &&& v16)).bind fun w17 =>
      fSteps_look_L106 F inSome_0 N (l1 + (1 : Int32)) w17
def fSteps_look (F : Nat) (inSome_0 : Nat → Int64) (inAll_0 : Nat → Int64) (count_0list : Int32) (owner_0list : Nat → Int32) (left_0 : Nat → Int32) (cells_0list : Nat → Int64) : Option ((Nat → Int64) × (Nat → Int64)) :=
  (fSteps_look_L2 F F (0 : Int32) inSome_0 inAll_0).bind fun r3 =>
  (fSteps_look_L32 F count_0list owner_0list left_0 cells_0list F (0 : Int32) r3.2.1 r3.2.2).bind fun r14 =>
  (fSteps_look_L106 F r14.2.1 F (0 : Int32) r14.2.2).bind fun r18 =>
  some (r14.2.1, r18.2)
abbrev wl_fSteps_look (cI cZ cJ cQ : ClassId) (a_0 a_0inSome a_0inAll a_0list a_0listowner a_0left a_0listcells a_0listeveryFirst a_0listeveryLast a_0listeveryCells a_0listfirst a_0listlast : Nat) (numbers_0 : Int64) (open_0 : Int64) (roundsDone_0 : Int32) (inSome_0 : Nat → Int64) (inAll_0 : Nat → Int64) (count_0list : Int32) (owner_0list : Nat → Int32) (left_0 : Nat → Int32) (cells_0list : Nat → Int64) : va_W := [(a_0, .inr (7, [.ref a_0list, .ref a_0left, .ref a_0inSome, .ref a_0inAll, .long numbers_0, .long open_0, .int roundsDone_0])), (a_0inSome, .inl (cJ, 42, .inr (.inl inSome_0))), (a_0inAll, .inl (cJ, 42, .inr (.inl inAll_0))), (a_0list, .inr (6, [.ref a_0listeveryFirst, .ref a_0listeveryLast, .ref a_0listeveryCells, .ref a_0listfirst, .ref a_0listlast, .ref a_0listcells, .ref a_0listowner, .int count_0list])), (a_0listowner, .inl (cI, 588, .inl owner_0list)), (a_0left, .inl (cZ, 588, .inl left_0)), (a_0listcells, .inl (cJ, 588, .inr (.inl cells_0list)))]
def fSteps_inJustOne_L7 (F : Nat) (arr_0 : Nat → Int64) : Nat → Int64 → Int64 → Int32 → Option (Int64 × Int64 × Int32)
  | 0, _, _, _ => none
  | N + 1, l1, l3, l5 =>
    if (42 : Int32) ≤ l5 then
      some (l1, l3, l5)
    else
      (o_rd 42 arr_0 l5).bind fun v1 =>
      (o_rd 42 arr_0 l5).bind fun v2 =>
      fSteps_inJustOne_L7 F arr_0 N (l1 ||| v2) (l3 ||| (l1 &&& v1)) (l5 + (1 : Int32))
def fSteps_inJustOne (F : Nat) (arr_0 : Nat → Int64) : Option (Int64) :=
  (fSteps_inJustOne_L7 F arr_0 F (0 : Int64) (0 : Int64) (0 : Int32)).bind fun r3 =>
  some (r3.1 &&& (r3.2.1 ^^^ (-1 : Int64)))
abbrev wl_fSteps_inJustOne (cI cZ cJ cQ : ClassId) (a_0 : Nat) (arr_0 : Nat → Int64) : va_W := [(a_0, .inl (cJ, 42, .inr (.inl arr_0)))]
def fSteps_inAny_L4 (F : Nat) (arr_0 : Nat → Int64) : Nat → Int64 → Int32 → Option (Int64 × Int32)
  | 0, _, _ => none
  | N + 1, l1, l3 =>
    if (42 : Int32) ≤ l3 then
      some (l1, l3)
    else
      (o_rd 42 arr_0 l3).bind fun v1 =>
      fSteps_inAny_L4 F arr_0 N (l1 ||| v1) (l3 + (1 : Int32))
def fSteps_inAny (F : Nat) (arr_0 : Nat → Int64) : Option (Int64) :=
  (fSteps_inAny_L4 F arr_0 F (0 : Int64) (0 : Int32)).bind fun r2 =>
  some r2.1
abbrev wl_fSteps_inAny (cI cZ cJ cQ : ClassId) (a_0 : Nat) (arr_0 : Nat → Int64) : va_W := [(a_0, .inl (cJ, 42, .inr (.inl arr_0)))]
def fSteps_ruleOut_L35 (F : Nat) (l1 : Int64) (l3 : Int64) (l5 : Int64) (inSome_0 : Nat → Int64) (inAll_0 : Nat → Int64) (count_0list : Int32) (owner_0list : Nat → Int32) (cells_0list : Nat → Int64) : Nat → Int32 → Int32 → (Nat → Int32) → Option (Int32 × Int32 × (Nat → Int32))
  | 0, _, _, _ => none
  | N + 1, l7, l8, left_0 =>
    if (588 : Int32) ≤ l8 then
      some (l7, l8, left_0)
    else
      (fRectangles_ownerAt l8 count_0list owner_0list).bind fun s5 =>
      (o_rd 588 left_0 l8).bind fun v6 =>
      (show Option (Int32 × (Nat → Int32)) from
        if v6 = (0 : Int32) then
          some (l7, left_0)
        else
          (fX_isCell s5).bind fun s7 =>
          if s7 = (0 : Int32) then
            some (l7, left_0)
          else
            (o_rd 42 inSome_0 s5).bind fun v8 =>
            (fRectangles_cellsAt l8 count_0list cells_0list).bind fun s9 =>
            (o_rd 42 inAll_0 s5).bind fun v10 =>
            if ¬ ((l1 &&& v8) &&& (s9 ^^^ (-1 : Int64))) = (0 : Int64) then
              (o_wrZ 588 left_0 l8 (0 : Int32)).bind fun w11 =>
              some ((1 : Int32), w11)
            else
              (fRectangles_cellsAt l8 count_0list cells_0list).bind fun s12 =>
              if ((l5 &&& ((l3 &&& v10) ^^^ (-1 : Int64))) &&& s12) = (0 : Int64) then
                some (l7, left_0)
              else
                (o_wrZ 588 left_0 l8 (0 : Int32)).bind fun w13 =>
                some ((1 : Int32), w13)).bind fun j14 =>
      fSteps_ruleOut_L35 F l1 l3 l5 inSome_0 inAll_0 count_0list owner_0list cells_0list N j14.1 (l8 + (1 : Int32)) j14.2
def fSteps_ruleOut (F : Nat) (inSome_0 : Nat → Int64) (inAll_0 : Nat → Int64) (count_0list : Int32) (owner_0list : Nat → Int32) (left_0 : Nat → Int32) (cells_0list : Nat → Int64) : Option (Int32 × (Nat → Int64) × (Nat → Int64) × (Nat → Int32)) :=
  (fSteps_look F inSome_0 inAll_0 count_0list owner_0list left_0 cells_0list).bind fun s1 =>
  (fSteps_inJustOne F s1.1).bind fun s2 =>
  (fSteps_inJustOne F s1.2).bind fun s3 =>
  (fSteps_inAny F s1.2).bind fun s4 =>
  (fSteps_ruleOut_L35 F s2 s3 s4 s1.1 s1.2 count_0list owner_0list cells_0list F (0 : Int32) (0 : Int32) left_0).bind fun r15 =>
  (o_z r15.1).bind fun z16 =>
  some (z16, s1.1, s1.2, r15.2.2)
abbrev wl_fSteps_ruleOut (cI cZ cJ cQ : ClassId) (a_0 a_0inSome a_0inAll a_0list a_0listowner a_0left a_0listcells a_0listeveryFirst a_0listeveryLast a_0listeveryCells a_0listfirst a_0listlast : Nat) (numbers_0 : Int64) (open_0 : Int64) (roundsDone_0 : Int32) (inSome_0 : Nat → Int64) (inAll_0 : Nat → Int64) (count_0list : Int32) (owner_0list : Nat → Int32) (left_0 : Nat → Int32) (cells_0list : Nat → Int64) : va_W := [(a_0, .inr (7, [.ref a_0list, .ref a_0left, .ref a_0inSome, .ref a_0inAll, .long numbers_0, .long open_0, .int roundsDone_0])), (a_0inSome, .inl (cJ, 42, .inr (.inl inSome_0))), (a_0inAll, .inl (cJ, 42, .inr (.inl inAll_0))), (a_0list, .inr (6, [.ref a_0listeveryFirst, .ref a_0listeveryLast, .ref a_0listeveryCells, .ref a_0listfirst, .ref a_0listlast, .ref a_0listcells, .ref a_0listowner, .int count_0list])), (a_0listowner, .inl (cI, 588, .inl owner_0list)), (a_0left, .inl (cZ, 588, .inl left_0)), (a_0listcells, .inl (cJ, 588, .inr (.inl cells_0list)))]
def fSteps_run_L34 (F : Nat) (count_0list : Int32) : Nat → Int32 → (Nat → Int32) → Option (Int32 × (Nat → Int32))
  | 0, _, _ => none
  | N + 1, l2, left_0 =>
    if (588 : Int32) ≤ l2 then
      some (l2, left_0)
    else
      (fRectangles_size count_0list).bind fun s4 =>
      (show Option (Int32) from
        if s4 ≤ l2 then
          some (0 : Int32)
        else
          some (1 : Int32)).bind fun j5 =>
      (o_wrZ 588 left_0 l2 j5).bind fun w6 =>
      fSteps_run_L34 F count_0list N (l2 + (1 : Int32)) w6
def fSteps_run_L74 (F : Nat) (count_0list : Int32) (cells_0list : Nat → Int64) (owner_0list : Nat → Int32) : Nat → (Nat → Int64) → (Nat → Int64) → (Nat → Int32) → Int32 → Option ((Nat → Int64) × (Nat → Int64) × (Nat → Int32) × Int32)
  | 0, _, _, _, _ => none
  | N + 1, inSome_0, inAll_0, left_0, roundsDone_0 =>
    if (588 : Int32) < roundsDone_0 then
      some (inSome_0, inAll_0, left_0, roundsDone_0)
    else
      (fSteps_ruleOut F inSome_0 inAll_0 count_0list owner_0list left_0 cells_0list).bind fun s8 =>
      if s8.1 = (0 : Int32) then
        some (s8.2.1, s8.2.2.1, s8.2.2.2, roundsDone_0)
      else
        fSteps_run_L74 F count_0list cells_0list owner_0list N s8.2.1 s8.2.2.1 s8.2.2.2 (roundsDone_0 + (1 : Int32))
def fSteps_run (F : Nat) (inField_1 : Nat → Int32) (number_1 : Nat → Int32) (count_0list : Int32) (everyCells_0list : Nat → Int64) (everyFirst_0list : Nat → Int32) (first_0list : Nat → Int32) (everyLast_0list : Nat → Int32) (last_0list : Nat → Int32) (cells_0list : Nat → Int64) (owner_0list : Nat → Int32) (open_0 : Int64) (numbers_0 : Int64) (left_0 : Nat → Int32) (roundsDone_0 : Int32) (inSome_0 : Nat → Int64) (inAll_0 : Nat → Int64) : Option (Int32 × (Nat → Int32) × (Nat → Int32) × (Nat → Int64) × (Nat → Int32) × Int64 × Int64 × (Nat → Int32) × Int32 × (Nat → Int64) × (Nat → Int64)) :=
  (fRectangles_find F inField_1 number_1 count_0list everyCells_0list everyFirst_0list first_0list everyLast_0list last_0list cells_0list owner_0list).bind fun s1 =>
  (fBoard_cellsInFields F inField_1).bind fun s2 =>
  (fBoard_openNumbers F number_1 inField_1).bind fun s3 =>
  (fSteps_run_L34 F s1.1 F (0 : Int32) left_0).bind fun r7 =>
  (fSteps_run_L74 F s1.1 s1.2.2.2.1 s1.2.2.2.2 F inSome_0 inAll_0 r7.2 (0 : Int32)).bind fun r9 =>
  some (s1.1, s1.2.1, s1.2.2.1, s1.2.2.2.1, s1.2.2.2.2, ((4398046511103 : Int64) &&& (s2 ^^^ (-1 : Int64))), s3, r9.2.2.1, r9.2.2.2, r9.1, r9.2.1)
abbrev wl_fSteps_run (cI cZ cJ cQ : ClassId) (a_0 a_1 a_1inField a_1number a_0list a_0listeveryCells a_0listeveryFirst a_0listfirst a_0listeveryLast a_0listlast a_0listcells a_0listowner a_0left a_0inSome a_0inAll a_1first a_1last : Nat) (numbers_0 : Int64) (open_0 : Int64) (roundsDone_0 : Int32) (inField_1 : Nat → Int32) (number_1 : Nat → Int32) (count_0list : Int32) (everyCells_0list : Nat → Int64) (everyFirst_0list : Nat → Int32) (first_0list : Nat → Int32) (everyLast_0list : Nat → Int32) (last_0list : Nat → Int32) (cells_0list : Nat → Int64) (owner_0list : Nat → Int32) (left_0 : Nat → Int32) (inSome_0 : Nat → Int64) (inAll_0 : Nat → Int64) : va_W := [(a_0, .inr (7, [.ref a_0list, .ref a_0left, .ref a_0inSome, .ref a_0inAll, .long numbers_0, .long open_0, .int roundsDone_0])), (a_1, .inr (0, [.ref a_1number, .ref a_1inField, .ref a_1first, .ref a_1last])), (a_1inField, .inl (cZ, 42, .inl inField_1)), (a_1number, .inl (cI, 42, .inl number_1)), (a_0list, .inr (6, [.ref a_0listeveryFirst, .ref a_0listeveryLast, .ref a_0listeveryCells, .ref a_0listfirst, .ref a_0listlast, .ref a_0listcells, .ref a_0listowner, .int count_0list])), (a_0listeveryCells, .inl (cJ, 588, .inr (.inl everyCells_0list))), (a_0listeveryFirst, .inl (cI, 588, .inl everyFirst_0list)), (a_0listfirst, .inl (cI, 588, .inl first_0list)), (a_0listeveryLast, .inl (cI, 588, .inl everyLast_0list)), (a_0listlast, .inl (cI, 588, .inl last_0list)), (a_0listcells, .inl (cJ, 588, .inr (.inl cells_0list))), (a_0listowner, .inl (cI, 588, .inl owner_0list)), (a_0left, .inl (cZ, 588, .inl left_0)), (a_0inSome, .inl (cJ, 42, .inr (.inl inSome_0))), (a_0inAll, .inl (cJ, 42, .inr (.inl inAll_0)))]
def fSteps_endsInContradiction_L2 (F : Nat) (inSome_0 : Nat → Int64) (open_0 : Int64) (numbers_0 : Int64) : Nat → Int32 → Option (Int32)
  | 0, _ => none
  | N + 1, l1 =>
    if (42 : Int32) ≤ l1 then
      (fSteps_inAny F inSome_0).bind fun s1 =>
      if s1 = open_0 then
        some (0 : Int32)
      else
        some (1 : Int32)
    else
      (fX_has numbers_0 l1).bind fun s2 =>
      if s2 = (0 : Int32) then
        fSteps_endsInContradiction_L2 F inSome_0 open_0 numbers_0 N (l1 + (1 : Int32))
      else
        (o_rd 42 inSome_0 l1).bind fun v3 =>
        if ¬ v3 = (0 : Int64) then
          fSteps_endsInContradiction_L2 F inSome_0 open_0 numbers_0 N (l1 + (1 : Int32))
        else
          some (1 : Int32)
def fSteps_endsInContradiction (F : Nat) (inSome_0 : Nat → Int64) (open_0 : Int64) (numbers_0 : Int64) : Option (Int32) :=
  (fSteps_endsInContradiction_L2 F inSome_0 open_0 numbers_0 F (0 : Int32))
abbrev wl_fSteps_endsInContradiction (cI cZ cJ cQ : ClassId) (a_0 a_0inSome a_0list a_0left a_0inAll : Nat) (numbers_0 : Int64) (open_0 : Int64) (roundsDone_0 : Int32) (inSome_0 : Nat → Int64) : va_W := [(a_0, .inr (7, [.ref a_0list, .ref a_0left, .ref a_0inSome, .ref a_0inAll, .long numbers_0, .long open_0, .int roundsDone_0])), (a_0inSome, .inl (cJ, 42, .inr (.inl inSome_0)))]
def fSteps_countLeftOf_L4 (F : Nat) (l1 : Int32) (left_0 : Nat → Int32) (count_0list : Int32) (owner_0list : Nat → Int32) : Nat → Int32 → Int32 → Option (Int32 × Int32)
  | 0, _, _ => none
  | N + 1, l2, l3 =>
    if (588 : Int32) ≤ l3 then
      some (l2, l3)
    else
      (o_rd 588 left_0 l3).bind fun v1 =>
      (show Option (Int32) from
        if v1 = (0 : Int32) then
          some (0 : Int32)
        else
          (fRectangles_ownerAt l3 count_0list owner_0list).bind fun s2 =>
          if ¬ s2 = l1 then
            some (0 : Int32)
          else
            some (1 : Int32)).bind fun j3 =>
      fSteps_countLeftOf_L4 F l1 left_0 count_0list owner_0list N (l2 + j3) (l3 + (1 : Int32))
def fSteps_countLeftOf (F : Nat) (x1 : Int32) (left_0 : Nat → Int32) (count_0list : Int32) (owner_0list : Nat → Int32) : Option (Int32) :=
  (fSteps_countLeftOf_L4 F x1 left_0 count_0list owner_0list F (0 : Int32) (0 : Int32)).bind fun r4 =>
  some r4.1
abbrev wl_fSteps_countLeftOf (cI cZ cJ cQ : ClassId) (a_0 a_0left a_0list a_0listowner a_0inSome a_0inAll a_0listeveryFirst a_0listeveryLast a_0listeveryCells a_0listfirst a_0listlast a_0listcells : Nat) (numbers_0 : Int64) (open_0 : Int64) (roundsDone_0 : Int32) (left_0 : Nat → Int32) (count_0list : Int32) (owner_0list : Nat → Int32) : va_W := [(a_0, .inr (7, [.ref a_0list, .ref a_0left, .ref a_0inSome, .ref a_0inAll, .long numbers_0, .long open_0, .int roundsDone_0])), (a_0left, .inl (cZ, 588, .inl left_0)), (a_0list, .inr (6, [.ref a_0listeveryFirst, .ref a_0listeveryLast, .ref a_0listeveryCells, .ref a_0listfirst, .ref a_0listlast, .ref a_0listcells, .ref a_0listowner, .int count_0list])), (a_0listowner, .inl (cI, 588, .inl owner_0list))]
def fSteps_countCertain_L4 (F : Nat) (left_0 : Nat → Int32) (count_0list : Int32) (owner_0list : Nat → Int32) : Nat → Int32 → Int32 → Option (Int32 × Int32)
  | 0, _, _ => none
  | N + 1, l1, l2 =>
    if (42 : Int32) ≤ l2 then
      some (l1, l2)
    else
      (fSteps_countLeftOf F l2 left_0 count_0list owner_0list).bind fun s1 =>
      (show Option (Int32) from
        if ¬ s1 = (1 : Int32) then
          some (0 : Int32)
        else
          some (1 : Int32)).bind fun j2 =>
      fSteps_countCertain_L4 F left_0 count_0list owner_0list N (l1 + j2) (l2 + (1 : Int32))
def fSteps_countCertain (F : Nat) (left_0 : Nat → Int32) (count_0list : Int32) (owner_0list : Nat → Int32) : Option (Int32) :=
  (fSteps_countCertain_L4 F left_0 count_0list owner_0list F (0 : Int32) (0 : Int32)).bind fun r3 =>
  some r3.1
abbrev wl_fSteps_countCertain (cI cZ cJ cQ : ClassId) (a_0 a_0left a_0list a_0listowner a_0inSome a_0inAll a_0listeveryFirst a_0listeveryLast a_0listeveryCells a_0listfirst a_0listlast a_0listcells : Nat) (numbers_0 : Int64) (open_0 : Int64) (roundsDone_0 : Int32) (left_0 : Nat → Int32) (count_0list : Int32) (owner_0list : Nat → Int32) : va_W := [(a_0, .inr (7, [.ref a_0list, .ref a_0left, .ref a_0inSome, .ref a_0inAll, .long numbers_0, .long open_0, .int roundsDone_0])), (a_0left, .inl (cZ, 588, .inl left_0)), (a_0list, .inr (6, [.ref a_0listeveryFirst, .ref a_0listeveryLast, .ref a_0listeveryCells, .ref a_0listfirst, .ref a_0listlast, .ref a_0listcells, .ref a_0listowner, .int count_0list])), (a_0listowner, .inl (cI, 588, .inl owner_0list))]
def fSteps_placeCertain_L4 (F : Nat) (left_0 : Nat → Int32) (count_0list : Int32) (owner_0list : Nat → Int32) (first_0list : Nat → Int32) (last_0list : Nat → Int32) : Nat → Int32 → Int32 → (Nat → Int32) → (Nat → Int32) → (Nat → Int32) → Option (Int32 × Int32 × (Nat → Int32) × (Nat → Int32) × (Nat → Int32))
  | 0, _, _, _, _, _ => none
  | N + 1, l2, l3, inField_1, first_1, last_1 =>
    if (588 : Int32) ≤ l3 then
      some (l2, l3, inField_1, first_1, last_1)
    else
      (o_rd 588 left_0 l3).bind fun v1 =>
      (show Option (Int32 × (Nat → Int32) × (Nat → Int32) × (Nat → Int32)) from
        if v1 = (0 : Int32) then
          some (l2, inField_1, first_1, last_1)
        else
          (fRectangles_ownerAt l3 count_0list owner_0list).bind fun s2 =>
          (fSteps_countLeftOf F s2 left_0 count_0list owner_0list).bind fun s3 =>
          if ¬ s3 = (1 : Int32) then
            some (l2, inField_1, first_1, last_1)
          else
            (fRectangles_firstAt l3 count_0list first_0list).bind fun s4 =>
            (fRectangles_lastAt l3 count_0list last_0list).bind fun s5 =>
            (fBoard_place F s4 s5 inField_1 first_1 last_1).bind fun s6 =>
            some ((l2 + (1 : Int32)), s6.1, s6.2.1, s6.2.2)).bind fun j7 =>
      fSteps_placeCertain_L4 F left_0 count_0list owner_0list first_0list last_0list N j7.1 (l3 + (1 : Int32)) j7.2.1 j7.2.2.1 j7.2.2.2
def fSteps_placeCertain (F : Nat) (left_0 : Nat → Int32) (count_0list : Int32) (owner_0list : Nat → Int32) (first_0list : Nat → Int32) (last_0list : Nat → Int32) (inField_1 : Nat → Int32) (first_1 : Nat → Int32) (last_1 : Nat → Int32) : Option (Int32 × (Nat → Int32) × (Nat → Int32) × (Nat → Int32)) :=
  (fSteps_placeCertain_L4 F left_0 count_0list owner_0list first_0list last_0list F (0 : Int32) (0 : Int32) inField_1 first_1 last_1).bind fun r8 =>
  some (r8.1, r8.2.2.1, r8.2.2.2.1, r8.2.2.2.2)
abbrev wl_fSteps_placeCertain (cI cZ cJ cQ : ClassId) (a_0 a_0left a_0list a_0listowner a_0listfirst a_0listlast a_1 a_1inField a_1first a_1last a_0inSome a_0inAll a_0listeveryFirst a_0listeveryLast a_0listeveryCells a_0listcells a_1number : Nat) (numbers_0 : Int64) (open_0 : Int64) (roundsDone_0 : Int32) (left_0 : Nat → Int32) (count_0list : Int32) (owner_0list : Nat → Int32) (first_0list : Nat → Int32) (last_0list : Nat → Int32) (inField_1 : Nat → Int32) (first_1 : Nat → Int32) (last_1 : Nat → Int32) : va_W := [(a_0, .inr (7, [.ref a_0list, .ref a_0left, .ref a_0inSome, .ref a_0inAll, .long numbers_0, .long open_0, .int roundsDone_0])), (a_0left, .inl (cZ, 588, .inl left_0)), (a_0list, .inr (6, [.ref a_0listeveryFirst, .ref a_0listeveryLast, .ref a_0listeveryCells, .ref a_0listfirst, .ref a_0listlast, .ref a_0listcells, .ref a_0listowner, .int count_0list])), (a_0listowner, .inl (cI, 588, .inl owner_0list)), (a_0listfirst, .inl (cI, 588, .inl first_0list)), (a_0listlast, .inl (cI, 588, .inl last_0list)), (a_1, .inr (0, [.ref a_1number, .ref a_1inField, .ref a_1first, .ref a_1last])), (a_1inField, .inl (cZ, 42, .inl inField_1)), (a_1first, .inl (cI, 42, .inl first_1)), (a_1last, .inl (cI, 42, .inl last_1))]
def fSteps_firstCertain_L2 (F : Nat) (left_0 : Nat → Int32) (count_0list : Int32) (owner_0list : Nat → Int32) : Nat → Int32 → Option (Int32)
  | 0, _ => none
  | N + 1, l1 =>
    if (42 : Int32) ≤ l1 then
      some (42 : Int32)
    else
      (fSteps_countLeftOf F l1 left_0 count_0list owner_0list).bind fun s1 =>
      if ¬ s1 = (1 : Int32) then
        fSteps_firstCertain_L2 F left_0 count_0list owner_0list N (l1 + (1 : Int32))
      else
        some l1
def fSteps_firstCertain (F : Nat) (left_0 : Nat → Int32) (count_0list : Int32) (owner_0list : Nat → Int32) : Option (Int32) :=
  (fSteps_firstCertain_L2 F left_0 count_0list owner_0list F (0 : Int32))
abbrev wl_fSteps_firstCertain (cI cZ cJ cQ : ClassId) (a_0 a_0left a_0list a_0listowner a_0inSome a_0inAll a_0listeveryFirst a_0listeveryLast a_0listeveryCells a_0listfirst a_0listlast a_0listcells : Nat) (numbers_0 : Int64) (open_0 : Int64) (roundsDone_0 : Int32) (left_0 : Nat → Int32) (count_0list : Int32) (owner_0list : Nat → Int32) : va_W := [(a_0, .inr (7, [.ref a_0list, .ref a_0left, .ref a_0inSome, .ref a_0inAll, .long numbers_0, .long open_0, .int roundsDone_0])), (a_0left, .inl (cZ, 588, .inl left_0)), (a_0list, .inr (6, [.ref a_0listeveryFirst, .ref a_0listeveryLast, .ref a_0listeveryCells, .ref a_0listfirst, .ref a_0listlast, .ref a_0listcells, .ref a_0listowner, .int count_0list])), (a_0listowner, .inl (cI, 588, .inl owner_0list))]
def fRectangles_countOver_L4 (F : Nat) (l1 : Int32) (count_0 : Int32) (cells_0 : Nat → Int64) : Nat → Int32 → Int32 → Option (Int32 × Int32)
  | 0, _, _ => none
  | N + 1, l2, l3 =>
    if count_0 ≤ l3 then
      some (l2, l3)
    else
      (fRectangles_cellsAt l3 count_0 cells_0).bind fun s1 =>
      (fX_has s1 l1).bind fun s2 =>
      (show Option (Int32) from
        if s2 = (0 : Int32) then
          some (0 : Int32)
        else
          some (1 : Int32)).bind fun j3 =>
      fRectangles_countOver_L4 F l1 count_0 cells_0 N (l2 + j3) (l3 + (1 : Int32))
def fRectangles_countOver (F : Nat) (x1 : Int32) (count_0 : Int32) (cells_0 : Nat → Int64) : Option (Int32) :=
  (fRectangles_countOver_L4 F x1 count_0 cells_0 F (0 : Int32) (0 : Int32)).bind fun r4 =>
  some r4.1
abbrev wl_fRectangles_countOver (cI cZ cJ cQ : ClassId) (a_0 a_0cells a_0everyFirst a_0everyLast a_0everyCells a_0first a_0last a_0owner : Nat) (count_0 : Int32) (cells_0 : Nat → Int64) : va_W := [(a_0, .inr (6, [.ref a_0everyFirst, .ref a_0everyLast, .ref a_0everyCells, .ref a_0first, .ref a_0last, .ref a_0cells, .ref a_0owner, .int count_0])), (a_0cells, .inl (cJ, 588, .inr (.inl cells_0)))]
def fRectangles_countOwnersOver_L5 (F : Nat) (l1 : Int32) (count_0 : Int32) (cells_0 : Nat → Int64) (owner_0 : Nat → Int32) : Nat → Int64 → Int32 → Option (Int64 × Int32)
  | 0, _, _ => none
  | N + 1, l2, l4 =>
    if count_0 ≤ l4 then
      some (l2, l4)
    else
      (fRectangles_cellsAt l4 count_0 cells_0).bind fun s1 =>
      (fX_has s1 l1).bind fun s2 =>
      (show Option (Int64) from
        if s2 = (0 : Int32) then
          some (0 : Int64)
        else
          (fRectangles_ownerAt l4 count_0 owner_0).bind fun s3 =>
          (fX_bit s3).bind fun s4 =>
          some s4).bind fun j5 =>
      fRectangles_countOwnersOver_L5 F l1 count_0 cells_0 owner_0 N (l2 ||| j5) (l4 + (1 : Int32))
def fRectangles_countOwnersOver (F : Nat) (x1 : Int32) (count_0 : Int32) (cells_0 : Nat → Int64) (owner_0 : Nat → Int32) : Option (Int32) :=
  (fRectangles_countOwnersOver_L5 F x1 count_0 cells_0 owner_0 F (0 : Int64) (0 : Int32)).bind fun r6 =>
  some (fJ_bitCount r6.1)
abbrev wl_fRectangles_countOwnersOver (cI cZ cJ cQ : ClassId) (a_0 a_0cells a_0owner a_0everyFirst a_0everyLast a_0everyCells a_0first a_0last : Nat) (count_0 : Int32) (cells_0 : Nat → Int64) (owner_0 : Nat → Int32) : va_W := [(a_0, .inr (6, [.ref a_0everyFirst, .ref a_0everyLast, .ref a_0everyCells, .ref a_0first, .ref a_0last, .ref a_0cells, .ref a_0owner, .int count_0])), (a_0cells, .inl (cJ, 588, .inr (.inl cells_0))), (a_0owner, .inl (cI, 588, .inl owner_0))]
def fSteps_countLeft_L4 (F : Nat) (left_0 : Nat → Int32) : Nat → Int32 → Int32 → Option (Int32 × Int32)
  | 0, _, _ => none
  | N + 1, l1, l2 =>
    if (588 : Int32) ≤ l2 then
      some (l1, l2)
    else
      (o_rd 588 left_0 l2).bind fun v1 =>
      (show Option (Int32) from
        if v1 = (0 : Int32) then
          some (0 : Int32)
        else
          some (1 : Int32)).bind fun j2 =>
      fSteps_countLeft_L4 F left_0 N (l1 + j2) (l2 + (1 : Int32))
def fSteps_countLeft (F : Nat) (left_0 : Nat → Int32) : Option (Int32) :=
  (fSteps_countLeft_L4 F left_0 F (0 : Int32) (0 : Int32)).bind fun r3 =>
  some r3.1
abbrev wl_fSteps_countLeft (cI cZ cJ cQ : ClassId) (a_0 a_0left a_0list a_0inSome a_0inAll : Nat) (numbers_0 : Int64) (open_0 : Int64) (roundsDone_0 : Int32) (left_0 : Nat → Int32) : va_W := [(a_0, .inr (7, [.ref a_0list, .ref a_0left, .ref a_0inSome, .ref a_0inAll, .long numbers_0, .long open_0, .int roundsDone_0])), (a_0left, .inl (cZ, 588, .inl left_0))]
def fSteps_countRounds (roundsDone_0 : Int32) : Option (Int32) :=
  some roundsDone_0
abbrev wl_fSteps_countRounds (cI cZ cJ cQ : ClassId) (a_0 a_0list a_0left a_0inSome a_0inAll : Nat) (numbers_0 : Int64) (open_0 : Int64) (roundsDone_0 : Int32) : va_W := [(a_0, .inr (7, [.ref a_0list, .ref a_0left, .ref a_0inSome, .ref a_0inAll, .long numbers_0, .long open_0, .int roundsDone_0]))]
set_option maxHeartbeats 4000000 in
set_option maxRecDepth 100000 in
theorem c_fRectangles_put (l : Launch) (dC : Nat → ClassId) (dI : Nat → Nat → Nat) (cI cZ cJ cQ : ClassId) (a_0 a_0everyFirst a_0first a_0everyLast a_0last a_0everyCells a_0cells a_0owner : Nat) (sz : Nat) {x1 : Int32} {x2 : Int32} {count_0 : Int32} {everyFirst_0 : Nat → Int32} {first_0 : Nat → Int32} {everyLast_0 : Nat → Int32} {last_0 : Nat → Int32} {everyCells_0 : Nat → Int64} {cells_0 : Nat → Int64} {owner_0 : Nat → Int32} {out : (Nat → Int32) × (Nat → Int32) × (Nat → Int64) × (Nat → Int32) × Int32} (hf : fRectangles_put x1 x2 count_0 everyFirst_0 first_0 everyLast_0 last_0 everyCells_0 cells_0 owner_0 = some out) : Met l yX7_put wsX7_put ({ frames := 0, cells := 0, slots := 0, locals := 0 } : Room) (va_Pc [.ref a_0, .int x1, .int x2] (wlP (dC, dI) (wlT cI cZ cJ cQ) (wl_fRectangles_put cI cZ cJ cQ a_0 a_0everyFirst a_0first a_0everyLast a_0last a_0everyCells a_0cells a_0owner count_0 everyFirst_0 first_0 everyLast_0 last_0 everyCells_0 cells_0 owner_0) sz)) (va_Qv (fun (_ : Unit) => True) (wlQ (dC, dI) (va_A (wl_fRectangles_put cI cZ cJ cQ a_0 a_0everyFirst a_0first a_0everyLast a_0last a_0everyCells a_0cells a_0owner count_0 everyFirst_0 first_0 everyLast_0 last_0 everyCells_0 cells_0 owner_0) sz) (wl_fRectangles_put cI cZ cJ cQ a_0 a_0everyFirst a_0first a_0everyLast a_0last a_0everyCells a_0cells a_0owner out.2.2.2.2 everyFirst_0 out.1 everyLast_0 out.2.1 everyCells_0 out.2.2.1 out.2.2.2.1)) (va_A (wl_fRectangles_put cI cZ cJ cQ a_0 a_0everyFirst a_0first a_0everyLast a_0last a_0everyCells a_0cells a_0owner count_0 everyFirst_0 first_0 everyLast_0 last_0 everyCells_0 cells_0 owner_0) sz)) 0 0 (va_A (wl_fRectangles_put cI cZ cJ cQ a_0 a_0everyFirst a_0first a_0everyLast a_0last a_0everyCells a_0cells a_0owner count_0 everyFirst_0 first_0 everyLast_0 last_0 everyCells_0 cells_0 owner_0) sz) := by
  refine wh_ofWv (lv := [(0, .ref a_0), (1, .int x1), (2, .int x2)]) RX7 (by decide) rfl rfl (Nat.le_of_ble_eq_true rfl) rfl ?_
  intro p e s m below meth c A QQ hx hb hml hown hts hP hK hN hD hA hret ls hl
  have hS : va_S A s.heap s.heap [] := va_S.rf
  have hiX7 : ∀ w ∈ wsX70, w ∈ wsX7_put := (fun _ h => List.mem_cons_of_mem _ (List.mem_append_right _ (h)))
  unfold fRectangles_put at hf
  refine lv_iload_n hx hb dX7_put_0 rfl (lv_at hl 1 rfl) ?_
  refine lv_if_lt (tgt := 93) hx hb dX7_put_1 (by decide) (fun cc => ?_) (fun cc => ?_)
  · replace hf := hf_pos cc hf
    obtain rfl := Option.some.inj hf
    exact hret _ _ _ _ hP hD hS dX7_put_93
  · replace hf := hf_neg cc hf
    refine lv_iload_n hx hb dX7_put_4 rfl (lv_at hl 1 rfl) ?_
    refine lv_sipush (v := 588) hx hb dX7_put_5 (by decide) ?_
    refine lv_icmp_ge (tgt := 93) hx hb dX7_put_8 (by decide) (fun cc => ?_) (fun cc => ?_)
    · replace hf := hf_pos cc hf
      obtain rfl := Option.some.inj hf
      exact hret _ _ _ _ hP hD hS dX7_put_93
    · replace hf := hf_neg cc hf
      refine lv_aload_n hx hb dX7_put_11 rfl (lv_at hl 0 rfl) ?_
      refine va_get (D := (dC, dI)) (ci := 6) (C := RX7) (T := TX7) (N := 8) hx hb hts hiX7 hown hK hP 0 rfl rfl 7 (by decide) (hts (.fieldLink RX7 34 "PaddockFields$Rectangles" "count" "I") (List.mem_cons_of_mem _ (List.mem_append_left _ (List.mem_of_getElem? (i := 0) rfl)))) (fun _ h9 => h9) rfl dX7_put_12 ?_
      refine lv_if_lt (tgt := 93) hx hb dX7_put_15 (by decide) (fun cc => ?_) (fun cc => ?_)
      · replace hf := hf_pos cc hf
        obtain rfl := Option.some.inj hf
        exact hret _ _ _ _ hP hD hS dX7_put_93
      · replace hf := hf_neg cc hf
        refine lv_aload_n hx hb dX7_put_18 rfl (lv_at hl 0 rfl) ?_
        refine va_get (D := (dC, dI)) (ci := 6) (C := RX7) (T := TX7) (N := 8) hx hb hts hiX7 hown hK hP 0 rfl rfl 7 (by decide) (hts (.fieldLink RX7 34 "PaddockFields$Rectangles" "count" "I") (List.mem_cons_of_mem _ (List.mem_append_left _ (List.mem_of_getElem? (i := 0) rfl)))) (fun _ h9 => h9) rfl dX7_put_19 ?_
        refine lv_sipush (v := 588) hx hb dX7_put_22 (by decide) ?_
        refine lv_icmp_ge (tgt := 93) hx hb dX7_put_25 (by decide) (fun cc => ?_) (fun cc => ?_)
        · replace hf := hf_pos cc hf
          obtain rfl := Option.some.inj hf
          exact hret _ _ _ _ hP hD hS dX7_put_93
        · replace hf := hf_neg cc hf
          refine lv_aload_n hx hb dX7_put_28 rfl (lv_at hl 0 rfl) ?_
          refine va_get (D := (dC, dI)) (ci := 6) (C := RX7) (T := TX7) (N := 8) hx hb hts hiX7 hown hK hP 0 rfl rfl 3 (by decide) (hts (.fieldLink RX7 22 "PaddockFields$Rectangles" "first" "[I") (List.mem_cons_of_mem _ (List.mem_append_left _ (List.mem_of_getElem? (i := 1) rfl)))) (fun _ h9 => h9) rfl dX7_put_29 ?_
          refine lv_aload_n hx hb dX7_put_32 rfl (lv_at hl 0 rfl) ?_
          refine va_get (D := (dC, dI)) (ci := 6) (C := RX7) (T := TX7) (N := 8) hx hb hts hiX7 hown hK hP 0 rfl rfl 7 (by decide) (hts (.fieldLink RX7 34 "PaddockFields$Rectangles" "count" "I") (List.mem_cons_of_mem _ (List.mem_append_left _ (List.mem_of_getElem? (i := 0) rfl)))) (fun _ h9 => h9) rfl dX7_put_33 ?_
          refine lv_aload_n hx hb dX7_put_36 rfl (lv_at hl 0 rfl) ?_
          refine va_get (D := (dC, dI)) (ci := 6) (C := RX7) (T := TX7) (N := 8) hx hb hts hiX7 hown hK hP 0 rfl rfl 0 (by decide) (hts (.fieldLink RX7 9 "PaddockFields$Rectangles" "everyFirst" "[I") (List.mem_cons_of_mem _ (List.mem_append_left _ (List.mem_of_getElem? (i := 2) rfl)))) (fun _ h9 => h9) rfl dX7_put_37 ?_
          refine lv_iload_n hx hb dX7_put_40 rfl (lv_at hl 1 rfl) ?_
          obtain ⟨v1, h_v1, hf⟩ := hf_bind hf
          refine wh_ldI (D := (dC, dI)) hx hb hK hP 1 0 rfl rfl h_v1 dX7_put_41 ?_
          obtain ⟨w2, h_w2, hf⟩ := hf_bind hf
          refine wh_stI (D := (dC, dI)) (ws' := (wl_fRectangles_put cI cZ cJ cQ a_0 a_0everyFirst a_0first a_0everyLast a_0last a_0everyCells a_0cells a_0owner count_0 everyFirst_0 w2 everyLast_0 last_0 everyCells_0 cells_0 owner_0)) hx hb hK hP hD hS 2 0 rfl rfl rfl h_w2 dX7_put_42 (fun H locs hP hD hS => ?_)
          refine lv_aload_n hx hb dX7_put_43 rfl (lv_at hl 0 rfl) ?_
          refine va_get (D := (dC, dI)) (ci := 6) (C := RX7) (T := TX7) (N := 8) hx hb hts hiX7 hown hK hP 0 rfl rfl 4 (by decide) (hts (.fieldLink RX7 25 "PaddockFields$Rectangles" "last" "[I") (List.mem_cons_of_mem _ (List.mem_append_left _ (List.mem_of_getElem? (i := 3) rfl)))) (fun _ h9 => h9) rfl dX7_put_44 ?_
          refine lv_aload_n hx hb dX7_put_47 rfl (lv_at hl 0 rfl) ?_
          refine va_get (D := (dC, dI)) (ci := 6) (C := RX7) (T := TX7) (N := 8) hx hb hts hiX7 hown hK hP 0 rfl rfl 7 (by decide) (hts (.fieldLink RX7 34 "PaddockFields$Rectangles" "count" "I") (List.mem_cons_of_mem _ (List.mem_append_left _ (List.mem_of_getElem? (i := 0) rfl)))) (fun _ h9 => h9) rfl dX7_put_48 ?_
          refine lv_aload_n hx hb dX7_put_51 rfl (lv_at hl 0 rfl) ?_
          refine va_get (D := (dC, dI)) (ci := 6) (C := RX7) (T := TX7) (N := 8) hx hb hts hiX7 hown hK hP 0 rfl rfl 1 (by decide) (hts (.fieldLink RX7 15 "PaddockFields$Rectangles" "everyLast" "[I") (List.mem_cons_of_mem _ (List.mem_append_left _ (List.mem_of_getElem? (i := 4) rfl)))) (fun _ h9 => h9) rfl dX7_put_52 ?_
          refine lv_iload_n hx hb dX7_put_55 rfl (lv_at hl 1 rfl) ?_
          obtain ⟨v3, h_v3, hf⟩ := hf_bind hf
          refine wh_ldI (D := (dC, dI)) hx hb hK hP 3 0 rfl rfl h_v3 dX7_put_56 ?_
          obtain ⟨w4, h_w4, hf⟩ := hf_bind hf
          refine wh_stI (D := (dC, dI)) (ws' := (wl_fRectangles_put cI cZ cJ cQ a_0 a_0everyFirst a_0first a_0everyLast a_0last a_0everyCells a_0cells a_0owner count_0 everyFirst_0 w2 everyLast_0 w4 everyCells_0 cells_0 owner_0)) hx hb hK hP hD hS 4 0 rfl rfl rfl h_w4 dX7_put_57 (fun H locs hP hD hS => ?_)
          refine lv_aload_n hx hb dX7_put_58 rfl (lv_at hl 0 rfl) ?_
          refine va_get (D := (dC, dI)) (ci := 6) (C := RX7) (T := TX7) (N := 8) hx hb hts hiX7 hown hK hP 0 rfl rfl 5 (by decide) (hts (.fieldLink RX7 28 "PaddockFields$Rectangles" "cells" "[J") (List.mem_cons_of_mem _ (List.mem_append_left _ (List.mem_of_getElem? (i := 5) rfl)))) (fun _ h9 => h9) rfl dX7_put_59 ?_
          refine lv_aload_n hx hb dX7_put_62 rfl (lv_at hl 0 rfl) ?_
          refine va_get (D := (dC, dI)) (ci := 6) (C := RX7) (T := TX7) (N := 8) hx hb hts hiX7 hown hK hP 0 rfl rfl 7 (by decide) (hts (.fieldLink RX7 34 "PaddockFields$Rectangles" "count" "I") (List.mem_cons_of_mem _ (List.mem_append_left _ (List.mem_of_getElem? (i := 0) rfl)))) (fun _ h9 => h9) rfl dX7_put_63 ?_
          refine lv_aload_n hx hb dX7_put_66 rfl (lv_at hl 0 rfl) ?_
          refine va_get (D := (dC, dI)) (ci := 6) (C := RX7) (T := TX7) (N := 8) hx hb hts hiX7 hown hK hP 0 rfl rfl 2 (by decide) (hts (.fieldLink RX7 18 "PaddockFields$Rectangles" "everyCells" "[J") (List.mem_cons_of_mem _ (List.mem_append_left _ (List.mem_of_getElem? (i := 6) rfl)))) (fun _ h9 => h9) rfl dX7_put_67 ?_
          refine lv_iload_n hx hb dX7_put_70 rfl (lv_at hl 1 rfl) ?_
          obtain ⟨v5, h_v5, hf⟩ := hf_bind hf
          refine wh_ldJ (D := (dC, dI)) hx hb hK hP 5 2 rfl rfl h_v5 dX7_put_71 ?_
          obtain ⟨w6, h_w6, hf⟩ := hf_bind hf
          refine wh_stJ (D := (dC, dI)) (ws' := (wl_fRectangles_put cI cZ cJ cQ a_0 a_0everyFirst a_0first a_0everyLast a_0last a_0everyCells a_0cells a_0owner count_0 everyFirst_0 w2 everyLast_0 w4 everyCells_0 w6 owner_0)) hx hb hK hP hD hS 6 2 rfl rfl rfl h_w6 dX7_put_72 (fun H locs hP hD hS => ?_)
          refine lv_aload_n hx hb dX7_put_73 rfl (lv_at hl 0 rfl) ?_
          refine va_get (D := (dC, dI)) (ci := 6) (C := RX7) (T := TX7) (N := 8) hx hb hts hiX7 hown hK hP 0 rfl rfl 6 (by decide) (hts (.fieldLink RX7 31 "PaddockFields$Rectangles" "owner" "[I") (List.mem_cons_of_mem _ (List.mem_append_left _ (List.mem_of_getElem? (i := 7) rfl)))) (fun _ h9 => h9) rfl dX7_put_74 ?_
          refine lv_aload_n hx hb dX7_put_77 rfl (lv_at hl 0 rfl) ?_
          refine va_get (D := (dC, dI)) (ci := 6) (C := RX7) (T := TX7) (N := 8) hx hb hts hiX7 hown hK hP 0 rfl rfl 7 (by decide) (hts (.fieldLink RX7 34 "PaddockFields$Rectangles" "count" "I") (List.mem_cons_of_mem _ (List.mem_append_left _ (List.mem_of_getElem? (i := 0) rfl)))) (fun _ h9 => h9) rfl dX7_put_78 ?_
          refine lv_iload_n hx hb dX7_put_81 rfl (lv_at hl 2 rfl) ?_
          obtain ⟨w7, h_w7, hf⟩ := hf_bind hf
          refine wh_stI (D := (dC, dI)) (ws' := (wl_fRectangles_put cI cZ cJ cQ a_0 a_0everyFirst a_0first a_0everyLast a_0last a_0everyCells a_0cells a_0owner count_0 everyFirst_0 w2 everyLast_0 w4 everyCells_0 w6 w7)) hx hb hK hP hD hS 7 0 rfl rfl rfl h_w7 dX7_put_82 (fun H locs hP hD hS => ?_)
          refine lv_aload_n hx hb dX7_put_83 rfl (lv_at hl 0 rfl) ?_
          refine lv_dup hx hb dX7_put_84 rfl ?_
          refine va_get (D := (dC, dI)) (ci := 6) (C := RX7) (T := TX7) (N := 8) hx hb hts hiX7 hown hK hP 0 rfl rfl 7 (by decide) (hts (.fieldLink RX7 34 "PaddockFields$Rectangles" "count" "I") (List.mem_cons_of_mem _ (List.mem_append_left _ (List.mem_of_getElem? (i := 0) rfl)))) (fun _ h9 => h9) rfl dX7_put_85 ?_
          refine lv_iconst (v := 1) hx hb dX7_put_88 (by decide) ?_
          refine lv_iadd hx hb dX7_put_89 ?_
          refine wh_put (D := (dC, dI)) (ci := 6) (C := RX7) (T := TX7) (N := 8) (ty := .int) (v := .int (count_0 + (1 : Int32))) (ws' := (wl_fRectangles_put cI cZ cJ cQ a_0 a_0everyFirst a_0first a_0everyLast a_0last a_0everyCells a_0cells a_0owner (count_0 + (1 : Int32)) everyFirst_0 w2 everyLast_0 w4 everyCells_0 w6 w7)) hx hb hts hiX7 tyX7 tyX7_ok nmX7 hown hK hP hD hS 0 rfl rfl 7 (by decide) (hts (.fieldLink RX7 34 "PaddockFields$Rectangles" "count" "I") (List.mem_cons_of_mem _ (List.mem_append_left _ (List.mem_of_getElem? (i := 0) rfl)))) (fun _ h9 => h9) rfl rfl rfl rfl (Nat.le_of_ble_eq_true rfl) rfl dX7_put_90 (fun H locs hP hD hS => ?_)
          obtain rfl := Option.some.inj hf
          exact hret _ _ _ _ hP hD hS dX7_put_93
set_option maxHeartbeats 4000000 in
set_option maxRecDepth 100000 in
theorem c_fRectangles_find (l : Launch) (dC : Nat → ClassId) (dI : Nat → Nat → Nat) (cI cZ cJ cQ : ClassId) (a_1 a_1inField a_1number a_0 a_0everyCells a_0everyFirst a_0first a_0everyLast a_0last a_0cells a_0owner a_1first a_1last : Nat) (sz : Nat) {F : Nat} {inField_1 : Nat → Int32} {number_1 : Nat → Int32} {count_0 : Int32} {everyCells_0 : Nat → Int64} {everyFirst_0 : Nat → Int32} {first_0 : Nat → Int32} {everyLast_0 : Nat → Int32} {last_0 : Nat → Int32} {cells_0 : Nat → Int64} {owner_0 : Nat → Int32} {out : Int32 × (Nat → Int32) × (Nat → Int32) × (Nat → Int64) × (Nat → Int32)} (hf : fRectangles_find F inField_1 number_1 count_0 everyCells_0 everyFirst_0 first_0 everyLast_0 last_0 cells_0 owner_0 = some out) : Met l yX7_find wsX7_find ({ frames := 2, cells := 0, slots := 0, locals := 43 } : Room) (va_Pc [.ref a_0, .ref a_1] (wlP (dC, dI) (wlT cI cZ cJ cQ) (wl_fRectangles_find cI cZ cJ cQ a_1 a_1inField a_1number a_0 a_0everyCells a_0everyFirst a_0first a_0everyLast a_0last a_0cells a_0owner a_1first a_1last inField_1 number_1 count_0 everyCells_0 everyFirst_0 first_0 everyLast_0 last_0 cells_0 owner_0) sz)) (va_Qv (fun (_ : Unit) => True) (wlQ (dC, dI) (va_A (wl_fRectangles_find cI cZ cJ cQ a_1 a_1inField a_1number a_0 a_0everyCells a_0everyFirst a_0first a_0everyLast a_0last a_0cells a_0owner a_1first a_1last inField_1 number_1 count_0 everyCells_0 everyFirst_0 first_0 everyLast_0 last_0 cells_0 owner_0) sz) (wl_fRectangles_find cI cZ cJ cQ a_1 a_1inField a_1number a_0 a_0everyCells a_0everyFirst a_0first a_0everyLast a_0last a_0cells a_0owner a_1first a_1last inField_1 number_1 out.1 everyCells_0 everyFirst_0 out.2.1 everyLast_0 out.2.2.1 out.2.2.2.1 out.2.2.2.2)) (va_A (wl_fRectangles_find cI cZ cJ cQ a_1 a_1inField a_1number a_0 a_0everyCells a_0everyFirst a_0first a_0everyLast a_0last a_0cells a_0owner a_1first a_1last inField_1 number_1 count_0 everyCells_0 everyFirst_0 first_0 everyLast_0 last_0 cells_0 owner_0) sz)) 0 0 (va_A (wl_fRectangles_find cI cZ cJ cQ a_1 a_1inField a_1number a_0 a_0everyCells a_0everyFirst a_0first a_0everyLast a_0last a_0cells a_0owner a_1first a_1last inField_1 number_1 count_0 everyCells_0 everyFirst_0 first_0 everyLast_0 last_0 cells_0 owner_0) sz) := by
  refine wh_ofWv (lv := [(0, .ref a_0), (1, .ref a_1)]) RX7 (by decide) rfl rfl (Nat.le_of_ble_eq_true rfl) rfl ?_
  intro p e s m below meth c A QQ hx hb hml hown hts hP hK hN hD hA hret ls hl
  have hS : va_S A s.heap s.heap [] := va_S.rf
  have hiX7 : ∀ w ∈ wsX70, w ∈ wsX7_find := (fun _ h => List.mem_cons_of_mem _ (List.mem_append_left _ (List.mem_append_right _ (h))))
  unfold fRectangles_find at hf
  refine lv_aload_n hx hb dX7_find_0 rfl (lv_at hl 1 rfl) ?_
  obtain ⟨s1, h_s1, hf⟩ := hf_bind hf
  refine wh_calll (D := (dC, dI)) (ws' := (wl_fRectangles_find cI cZ cJ cQ a_1 a_1inField a_1number a_0 a_0everyCells a_0everyFirst a_0first a_0everyLast a_0last a_0cells a_0owner a_1first a_1last inField_1 number_1 count_0 everyCells_0 everyFirst_0 first_0 everyLast_0 last_0 cells_0 owner_0)) (va_runV (As := []) (rest := []) ⟨hx, hb, hml, hown, hts⟩ (c_fBoard_cellsInFields l dC dI cI cZ cJ cQ a_1 a_1inField a_1number a_1first a_1last _ h_s1) (cwV 0 hts gX7_find_X0_cellsInFields rfl rfl rfl (by decide +kernel) ⟨Nat.le_of_ble_eq_true rfl, Nat.le_of_ble_eq_true rfl⟩) (wh_preV (C := RX0) (T := TX0) (N := 4) hK hN hP hD [0, 1] rfl rfl 0 0 rfl rfl) rfl rfl hl.1 rfl (lv_room (Nat.le_of_ble_eq_true rfl)) dX7_find_1 ⟨Nat.le_refl _, Nat.le_refl _⟩) hP hD hS hA [0, 1] [2, 3, 4, 5, 6, 7, 8, 9, 10] [9, 10, 0, 1, 2, 3, 4, 5, 6, 7, 8] rfl rfl rfl rfl (fun H locs hP hD hS => ?_)
  refine lv_lstore_n (lv' := [(2, .long s1), (0, .ref a_0), (1, .ref a_1)]) hx hb dX7_find_4 rfl hl (by decide) rfl (fun ls hl => ?_)
  refine lv_aload_n hx hb dX7_find_5 rfl (lv_at hl 2 rfl) ?_
  obtain ⟨s2, h_s2, hf⟩ := hf_bind hf
  refine wh_calll (D := (dC, dI)) (ws' := (wl_fRectangles_find cI cZ cJ cQ a_1 a_1inField a_1number a_0 a_0everyCells a_0everyFirst a_0first a_0everyLast a_0last a_0cells a_0owner a_1first a_1last inField_1 number_1 count_0 everyCells_0 everyFirst_0 first_0 everyLast_0 last_0 cells_0 owner_0)) (va_runV (As := []) (rest := []) ⟨hx, hb, hml, hown, hts⟩ (c_fBoard_cellsWithNumber l dC dI cI cZ cJ cQ a_1 a_1number a_1inField a_1first a_1last _ h_s2) (cwV 0 hts gX7_find_X0_cellsWithNumber rfl rfl rfl (by decide +kernel) ⟨Nat.le_of_ble_eq_true rfl, Nat.le_of_ble_eq_true rfl⟩) (wh_preV (C := RX0) (T := TX0) (N := 4) hK hN hP hD [0, 2] rfl rfl 0 0 rfl rfl) rfl rfl hl.1 rfl (lv_room (Nat.le_of_ble_eq_true rfl)) dX7_find_6 ⟨Nat.le_refl _, Nat.le_refl _⟩) hP hD hS hA [0, 2] [1, 3, 4, 5, 6, 7, 8, 9, 10] [9, 0, 10, 1, 2, 3, 4, 5, 6, 7, 8] rfl rfl rfl rfl (fun H locs hP hD hS => ?_)
  refine lv_lstore (lv' := [(4, .long s2), (2, .long s1), (0, .ref a_0), (1, .ref a_1)]) hx hb dX7_find_9 hl (by decide) rfl (fun ls hl => ?_)
  refine lv_aload_n hx hb dX7_find_11 rfl (lv_at hl 2 rfl) ?_
  refine lv_iconst (v := 0) hx hb dX7_find_12 (by decide) ?_
  refine wh_put (D := (dC, dI)) (ci := 6) (C := RX7) (T := TX7) (N := 8) (ty := .int) (v := .int (0 : Int32)) (ws' := (wl_fRectangles_find cI cZ cJ cQ a_1 a_1inField a_1number a_0 a_0everyCells a_0everyFirst a_0first a_0everyLast a_0last a_0cells a_0owner a_1first a_1last inField_1 number_1 (0 : Int32) everyCells_0 everyFirst_0 first_0 everyLast_0 last_0 cells_0 owner_0)) hx hb hts hiX7 tyX7 tyX7_ok nmX7 hown hK hP hD hS 3 rfl rfl 7 (by decide) (hts (.fieldLink RX7 34 "PaddockFields$Rectangles" "count" "I") (List.mem_cons_of_mem _ (List.mem_append_left _ (List.mem_append_left _ (List.mem_append_left _ (List.mem_of_getElem? (i := 0) rfl)))))) (fun _ h9 => h9) rfl rfl rfl rfl (Nat.le_of_ble_eq_true rfl) rfl dX7_find_13 (fun H locs hP hD hS => ?_)
  refine lv_iconst (v := 0) hx hb dX7_find_16 (by decide) ?_
  refine lv_istore (lv' := [(6, .int (0 : Int32)), (4, .long s2), (2, .long s1), (0, .ref a_0), (1, .ref a_1)]) hx hb dX7_find_17 hl (by decide) rfl (fun ls hl => ?_)
  obtain ⟨r10, h_r10, hf⟩ := hf_bind hf
  have hE_1 : ∀ (H : Heap) (locs : List Loc) (ls : Array Slot), lv_has ls 10 [] → va_P (dC, dI) vwCl (wl_fRectangles_find cI cZ cJ cQ a_1 a_1inField a_1number a_0 a_0everyCells a_0everyFirst a_0first a_0everyLast a_0last a_0cells a_0owner a_1first a_1last inField_1 number_1 r10.2.1 everyCells_0 everyFirst_0 r10.2.2.1 everyLast_0 r10.2.2.2.1 r10.2.2.2.2.1 r10.2.2.2.2.2) H → va_D A (wl_fRectangles_find cI cZ cJ cQ a_1 a_1inField a_1number a_0 a_0everyCells a_0everyFirst a_0first a_0everyLast a_0last a_0cells a_0owner a_1first a_1last inField_1 number_1 r10.2.1 everyCells_0 everyFirst_0 r10.2.2.1 everyLast_0 r10.2.2.2.1 r10.2.2.2.2.1 r10.2.2.2.2.2) → va_S A s.heap H locs → W p l e ({ frames := 2, cells := 0, slots := 0, locals := 43 } : Room) s m [.ref a_0, .ref a_1].toArray below meth c H locs 0 0 QQ (F0 m 102 ls []) := by
    intro H locs ls hl hP hD hS
    obtain rfl := Option.some.inj hf
    exact hret _ _ _ _ hP hD hS dX7_find_102
  have hL_2 : ∀ (N : Nat) (l6_3 : Int32) (count_0_4 : Int32) (first_0_5 : Nat → Int32) (last_0_6 : Nat → Int32) (cells_0_7 : Nat → Int64) (owner_0_8 : Nat → Int32), fRectangles_find_L19 F s1 s2 number_1 everyCells_0 everyFirst_0 everyLast_0 N l6_3 count_0_4 first_0_5 last_0_6 cells_0_7 owner_0_8 = some r10 → ∀ (H : Heap) (locs : List Loc) (ls : Array Slot), lv_has ls 10 [(0, .ref a_0), (1, .ref a_1), (2, .long s1), (4, .long s2), (6, .int l6_3)] → va_P (dC, dI) vwCl (wl_fRectangles_find cI cZ cJ cQ a_1 a_1inField a_1number a_0 a_0everyCells a_0everyFirst a_0first a_0everyLast a_0last a_0cells a_0owner a_1first a_1last inField_1 number_1 count_0_4 everyCells_0 everyFirst_0 first_0_5 everyLast_0 last_0_6 cells_0_7 owner_0_8) H → va_D A (wl_fRectangles_find cI cZ cJ cQ a_1 a_1inField a_1number a_0 a_0everyCells a_0everyFirst a_0first a_0everyLast a_0last a_0cells a_0owner a_1first a_1last inField_1 number_1 count_0_4 everyCells_0 everyFirst_0 first_0_5 everyLast_0 last_0_6 cells_0_7 owner_0_8) → va_S A s.heap H locs → W p l e ({ frames := 2, cells := 0, slots := 0, locals := 43 } : Room) s m [.ref a_0, .ref a_1].toArray below meth c H locs 0 0 QQ (F0 m 19 ls []) := by
    intro N
    induction N with
    | zero => intro l6_3 count_0_4 first_0_5 last_0_6 cells_0_7 owner_0_8 hf; exact nomatch (show none = some _ from hf)
    | succ N ih =>
      intro l6_3 count_0_4 first_0_5 last_0_6 cells_0_7 owner_0_8 hf H locs ls hl hP hD hS
      rw [fRectangles_find_L19] at hf
      refine lv_iload hx hb dX7_find_19 (lv_at hl 4 rfl) ?_
      refine lv_sipush (v := 588) hx hb dX7_find_21 (by decide) ?_
      refine lv_icmp_ge (tgt := 102) hx hb dX7_find_24 (by decide) (fun cc => ?_) (fun cc => ?_)
      · replace hf := hf_pos cc hf
        obtain rfl := Option.some.inj hf
        exact hE_1 _ _ _ (lv_sub hl [] rfl) hP hD hS
      · replace hf := hf_neg cc hf
        refine lv_aload_n hx hb dX7_find_27 rfl (lv_at hl 0 rfl) ?_
        refine va_get (D := (dC, dI)) (ci := 6) (C := RX7) (T := TX7) (N := 8) hx hb hts hiX7 hown hK hP 3 rfl rfl 2 (by decide) (hts (.fieldLink RX7 18 "PaddockFields$Rectangles" "everyCells" "[J") (List.mem_cons_of_mem _ (List.mem_append_left _ (List.mem_append_left _ (List.mem_append_left _ (List.mem_of_getElem? (i := 1) rfl)))))) (fun _ h9 => h9) rfl dX7_find_28 ?_
        refine lv_iload hx hb dX7_find_31 (lv_at hl 4 rfl) ?_
        obtain ⟨v3, h_v3, hf⟩ := hf_bind hf
        refine wh_ldJ (D := (dC, dI)) hx hb hK hP 4 2 rfl rfl h_v3 dX7_find_33 ?_
        refine lv_lload hx hb dX7_find_34 (lv_at hl 3 rfl) ?_
        refine lv_land hx hb dX7_find_36 ?_
        refine lv_lstore (lv' := [(7, .long (v3 &&& s2)), (0, .ref a_0), (1, .ref a_1), (2, .long s1), (4, .long s2), (6, .int l6_3)]) hx hb dX7_find_37 hl (by decide) rfl (fun ls hl => ?_)
        refine lv_aload_n hx hb dX7_find_39 rfl (lv_at hl 1 rfl) ?_
        refine va_get (D := (dC, dI)) (ci := 6) (C := RX7) (T := TX7) (N := 8) hx hb hts hiX7 hown hK hP 3 rfl rfl 2 (by decide) (hts (.fieldLink RX7 18 "PaddockFields$Rectangles" "everyCells" "[J") (List.mem_cons_of_mem _ (List.mem_append_left _ (List.mem_append_left _ (List.mem_append_left _ (List.mem_of_getElem? (i := 1) rfl)))))) (fun _ h9 => h9) rfl dX7_find_40 ?_
        refine lv_iload hx hb dX7_find_43 (lv_at hl 5 rfl) ?_
        obtain ⟨v4, h_v4, hf⟩ := hf_bind hf
        refine wh_ldJ (D := (dC, dI)) hx hb hK hP 4 2 rfl rfl h_v4 dX7_find_45 ?_
        refine lv_lload_n hx hb dX7_find_46 rfl (lv_at hl 3 rfl) ?_
        refine lv_land hx hb dX7_find_47 ?_
        refine lv_lconst (v := 0) hx hb dX7_find_48 (by decide) ?_
        refine W.lcmp hx hb dX7_find_49 ?_
        obtain ⟨j9, h_j9, hf⟩ := hf_bind hf
        have hJ_9 : ∀ (H : Heap) (locs : List Loc) (ls : Array Slot), lv_has ls 10 [(0, .ref a_0), (1, .ref a_1), (2, .long s1), (4, .long s2), (6, .int l6_3)] → va_P (dC, dI) vwCl (wl_fRectangles_find cI cZ cJ cQ a_1 a_1inField a_1number a_0 a_0everyCells a_0everyFirst a_0first a_0everyLast a_0last a_0cells a_0owner a_1first a_1last inField_1 number_1 j9.1 everyCells_0 everyFirst_0 j9.2.1 everyLast_0 j9.2.2.1 j9.2.2.2.1 j9.2.2.2.2) H → va_D A (wl_fRectangles_find cI cZ cJ cQ a_1 a_1inField a_1number a_0 a_0everyCells a_0everyFirst a_0first a_0everyLast a_0last a_0cells a_0owner a_1first a_1last inField_1 number_1 j9.1 everyCells_0 everyFirst_0 j9.2.1 everyLast_0 j9.2.2.1 j9.2.2.2.1 j9.2.2.2.2) → va_S A s.heap H locs → W p l e ({ frames := 2, cells := 0, slots := 0, locals := 43 } : Room) s m [.ref a_0, .ref a_1].toArray below meth c H locs 0 0 QQ (F0 m 96 ls []) := by
          intro H locs ls hl hP hD hS
          refine lv_iinc (v := (l6_3 + (1 : Int32))) (lv' := [(6, .int (l6_3 + (1 : Int32))), (0, .ref a_0), (1, .ref a_1), (2, .long s1), (4, .long s2)]) hx hb dX7_find_96 hl (k := 4) rfl rfl (by decide) rfl (fun ls hl => ?_)
          refine lv_goto (tgt := 19) hx hb dX7_find_99 (by decide) ?_
          exact ih _ _ _ _ _ _ hf _ _ _ (lv_sub hl [1, 2, 3, 4, 0] rfl) hP hD hS
        clear hf
        have hf := h_j9
        clear h_j9
        refine lv_if_ne (tgt := 96) hx hb dX7_find_50 (by decide) (fun cc => ?_) (fun cc => ?_)
        · replace hf := hf_pos (mt (lg_cmp_eq _ _).mpr cc) hf
          obtain rfl := Option.some.inj hf
          exact hJ_9 _ _ _ (lv_sub hl [1, 2, 3, 4, 5] rfl) hP hD hS
        · replace hf := hf_neg (not_not_intro ((lg_cmp_eq _ _).mp cc)) hf
          refine lv_lload hx hb dX7_find_53 (lv_at hl 0 rfl) ?_
          refine wh_calli (ws' := (wl_fRectangles_find cI cZ cJ cQ a_1 a_1inField a_1number a_0 a_0everyCells a_0everyFirst a_0first a_0everyLast a_0last a_0cells a_0owner a_1first a_1last inField_1 number_1 count_0_4 everyCells_0 everyFirst_0 first_0_5 everyLast_0 last_0_6 cells_0_7 owner_0_8)) (va_runS (As := [.long (v3 &&& s2)]) (rest := []) ⟨hx, hb, hml, hown, hts⟩ (c_fJ_bitCount l dC dI cI cZ cJ cQ _ (v3 &&& s2)) (va_cwS 1 hts gX7_find_J13_bitCount_95d88 rfl rfl rfl (by decide +kernel) ⟨Nat.le_of_ble_eq_true rfl, Nat.le_of_ble_eq_true rfl⟩) (wh_preS hK hN hP hD [] rfl rfl) rfl rfl hl.1 rfl (lv_room (Nat.le_of_ble_eq_true rfl)) dX7_find_55 ⟨Nat.le_refl _, Nat.le_refl _⟩) hP hD hS hA [] [0, 1, 2, 3, 4, 5, 6, 7, 8, 9, 10] [0, 1, 2, 3, 4, 5, 6, 7, 8, 9, 10] rfl rfl rfl rfl (fun H locs hP hD hS => ?_)
          refine lv_iconst (v := 1) hx hb dX7_find_58 (by decide) ?_
          refine lv_icmp_ne (tgt := 96) hx hb dX7_find_59 (by decide) (fun cc => ?_) (fun cc => ?_)
          · replace hf := hf_pos cc hf
            obtain rfl := Option.some.inj hf
            exact hJ_9 _ _ _ (lv_sub hl [1, 2, 3, 4, 5] rfl) hP hD hS
          · replace hf := hf_neg (not_not_intro cc) hf
            refine lv_lload hx hb dX7_find_62 (lv_at hl 0 rfl) ?_
            obtain ⟨s5, h_s5, hf⟩ := hf_bind hf
            refine wh_calli (D := (dC, dI)) (ws' := (wl_fRectangles_find cI cZ cJ cQ a_1 a_1inField a_1number a_0 a_0everyCells a_0everyFirst a_0first a_0everyLast a_0last a_0cells a_0owner a_1first a_1last inField_1 number_1 count_0_4 everyCells_0 everyFirst_0 first_0_5 everyLast_0 last_0_6 cells_0_7 owner_0_8)) (va_runSN (As := [.long (v3 &&& s2)]) (rest := []) ⟨hx, hb, hml, hown, hts⟩ (c_fX_lowestCell l dC dI cI cZ cJ cQ _ h_s5) ⟨va_cnB 1 hts gX7_find_X9_lowestCell_n57 rfl rfl rfl (hN (RX7, 57, yX9_lowestCell) (List.mem_of_getElem? (i := 7) rfl)) (hts (.initialized RX9) (List.mem_cons_of_mem _ (List.mem_append_left _ (List.mem_append_left _ (List.mem_append_left _ (List.mem_of_getElem? (i := 9) rfl)))))) (by decide +kernel) ⟨Nat.le_of_ble_eq_true rfl, Nat.le_of_ble_eq_true rfl⟩, (hts (.static yX9_lowestCell) (List.mem_cons_of_mem _ (List.mem_append_left _ (List.mem_append_left _ (List.mem_append_left _ (List.mem_of_getElem? (i := 23) rfl)))))), trivial⟩ (wh_preS hK hN hP hD [] rfl rfl) rfl rfl hl.1 rfl (lv_room (Nat.le_of_ble_eq_true rfl)) dX7_find_64 ⟨Nat.le_refl _, Nat.le_refl _⟩) hP hD hS hA [] [0, 1, 2, 3, 4, 5, 6, 7, 8, 9, 10] [0, 1, 2, 3, 4, 5, 6, 7, 8, 9, 10] rfl rfl rfl rfl (fun H locs hP hD hS => ?_)
            refine lv_istore (lv' := [(9, .int s5), (7, .long (v3 &&& s2)), (0, .ref a_0), (1, .ref a_1), (2, .long s1), (4, .long s2), (6, .int l6_3)]) hx hb dX7_find_67 hl (by decide) rfl (fun ls hl => ?_)
            refine lv_aload_n hx hb dX7_find_69 rfl (lv_at hl 3 rfl) ?_
            refine lv_iload hx hb dX7_find_70 (lv_at hl 0 rfl) ?_
            obtain ⟨s6, h_s6, hf⟩ := hf_bind hf
            refine wh_calli (D := (dC, dI)) (ws' := (wl_fRectangles_find cI cZ cJ cQ a_1 a_1inField a_1number a_0 a_0everyCells a_0everyFirst a_0first a_0everyLast a_0last a_0cells a_0owner a_1first a_1last inField_1 number_1 count_0_4 everyCells_0 everyFirst_0 first_0_5 everyLast_0 last_0_6 cells_0_7 owner_0_8)) (va_runV (As := [.int s5]) (rest := []) ⟨hx, hb, hml, hown, hts⟩ (c_fBoard_numberIn l dC dI cI cZ cJ cQ a_1 a_1number a_1inField a_1first a_1last _ h_s6) (cwV 1 hts gX7_find_X0_numberIn rfl rfl rfl (by decide +kernel) ⟨Nat.le_of_ble_eq_true rfl, Nat.le_of_ble_eq_true rfl⟩) (wh_preV (C := RX0) (T := TX0) (N := 4) hK hN hP hD [0, 2] rfl rfl 0 0 rfl rfl) rfl rfl hl.1 rfl (lv_room (Nat.le_of_ble_eq_true rfl)) dX7_find_72 ⟨Nat.le_refl _, Nat.le_refl _⟩) hP hD hS hA [0, 2] [1, 3, 4, 5, 6, 7, 8, 9, 10] [9, 0, 10, 1, 2, 3, 4, 5, 6, 7, 8] rfl rfl rfl rfl (fun H locs hP hD hS => ?_)
            refine lv_aload_n hx hb dX7_find_75 rfl (lv_at hl 2 rfl) ?_
            refine va_get (D := (dC, dI)) (ci := 6) (C := RX7) (T := TX7) (N := 8) hx hb hts hiX7 hown hK hP 3 rfl rfl 2 (by decide) (hts (.fieldLink RX7 18 "PaddockFields$Rectangles" "everyCells" "[J") (List.mem_cons_of_mem _ (List.mem_append_left _ (List.mem_append_left _ (List.mem_append_left _ (List.mem_of_getElem? (i := 1) rfl)))))) (fun _ h9 => h9) rfl dX7_find_76 ?_
            refine lv_iload hx hb dX7_find_79 (lv_at hl 6 rfl) ?_
            obtain ⟨v7, h_v7, hf⟩ := hf_bind hf
            refine wh_ldJ (D := (dC, dI)) hx hb hK hP 4 2 rfl rfl h_v7 dX7_find_81 ?_
            refine wh_calli (ws' := (wl_fRectangles_find cI cZ cJ cQ a_1 a_1inField a_1number a_0 a_0everyCells a_0everyFirst a_0first a_0everyLast a_0last a_0cells a_0owner a_1first a_1last inField_1 number_1 count_0_4 everyCells_0 everyFirst_0 first_0_5 everyLast_0 last_0_6 cells_0_7 owner_0_8)) (va_runS (As := [.long v7]) (rest := [.int s6]) ⟨hx, hb, hml, hown, hts⟩ (c_fJ_bitCount l dC dI cI cZ cJ cQ _ v7) (va_cwS 1 hts gX7_find_J13_bitCount_95d88 rfl rfl rfl (by decide +kernel) ⟨Nat.le_of_ble_eq_true rfl, Nat.le_of_ble_eq_true rfl⟩) (wh_preS hK hN hP hD [] rfl rfl) rfl rfl hl.1 rfl (lv_room (Nat.le_of_ble_eq_true rfl)) dX7_find_82 ⟨Nat.le_refl _, Nat.le_refl _⟩) hP hD hS hA [] [0, 1, 2, 3, 4, 5, 6, 7, 8, 9, 10] [0, 1, 2, 3, 4, 5, 6, 7, 8, 9, 10] rfl rfl rfl rfl (fun H locs hP hD hS => ?_)
            refine lv_icmp_ne (tgt := 96) hx hb dX7_find_85 (by decide) (fun cc => ?_) (fun cc => ?_)
            · replace hf := hf_pos cc hf
              obtain rfl := Option.some.inj hf
              exact hJ_9 _ _ _ (lv_sub hl [2, 3, 4, 5, 6] rfl) hP hD hS
            · replace hf := hf_neg (not_not_intro cc) hf
              refine lv_aload_n hx hb dX7_find_88 rfl (lv_at hl 2 rfl) ?_
              refine lv_iload hx hb dX7_find_89 (lv_at hl 6 rfl) ?_
              refine lv_iload hx hb dX7_find_91 (lv_at hl 0 rfl) ?_
              obtain ⟨s8, h_s8, hf⟩ := hf_bind hf
              refine wh_callv (D := (dC, dI)) (ws' := (wl_fRectangles_find cI cZ cJ cQ a_1 a_1inField a_1number a_0 a_0everyCells a_0everyFirst a_0first a_0everyLast a_0last a_0cells a_0owner a_1first a_1last inField_1 number_1 s8.2.2.2.2 everyCells_0 everyFirst_0 s8.1 everyLast_0 s8.2.1 s8.2.2.1 s8.2.2.2.1)) (va_runV (As := [.int l6_3, .int s5]) (rest := []) ⟨hx, hb, hml, hown, hts⟩ (c_fRectangles_put l dC dI cI cZ cJ cQ a_0 a_0everyFirst a_0first a_0everyLast a_0last a_0everyCells a_0cells a_0owner _ h_s8) (cwV 2 hts gX7_find_X7_put rfl rfl rfl (by decide +kernel) ⟨Nat.le_of_ble_eq_true rfl, Nat.le_of_ble_eq_true rfl⟩) (wh_preV (C := RX7) (T := TX7) (N := 8) hK hN hP hD [3, 5, 6, 7, 8, 4, 9, 10] rfl rfl 6 0 rfl rfl) rfl rfl hl.1 rfl (lv_room (Nat.le_of_ble_eq_true rfl)) dX7_find_93 ⟨Nat.le_refl _, Nat.le_refl _⟩) hP hD hS hA [3, 5, 6, 7, 8, 4, 9, 10] [0, 1, 2] [0, 1, 2, 3, 8, 4, 5, 6, 7, 9, 10] rfl rfl rfl rfl (fun H locs hP hD hS => ?_)
              obtain rfl := Option.some.inj hf
              exact hJ_9 _ _ _ (lv_sub hl [2, 3, 4, 5, 6] rfl) hP hD hS
  exact hL_2 _ _ _ _ _ _ _ h_r10 _ _ _ (lv_sub hl [3, 4, 2, 1, 0] rfl) hP hD hS
set_option maxHeartbeats 4000000 in
set_option maxRecDepth 100000 in
theorem c_fRectangles_ownerAt (l : Launch) (dC : Nat → ClassId) (dI : Nat → Nat → Nat) (cI cZ cJ cQ : ClassId) (a_0 a_0owner a_0everyFirst a_0everyLast a_0everyCells a_0first a_0last a_0cells : Nat) (sz : Nat) {x1 : Int32} {count_0 : Int32} {owner_0 : Nat → Int32} {out : Int32} (hf : fRectangles_ownerAt x1 count_0 owner_0 = some out) : Met l yX7_ownerAt wsX7_ownerAt ({ frames := 0, cells := 0, slots := 0, locals := 0 } : Room) (va_Pc [.ref a_0, .int x1] (wlP (dC, dI) (wlT cI cZ cJ cQ) (wl_fRectangles_ownerAt cI cZ cJ cQ a_0 a_0owner a_0everyFirst a_0everyLast a_0everyCells a_0first a_0last a_0cells count_0 owner_0) sz)) (va_Qi (fun (v : Int32) (_ : Unit) => v = out) (wlQ (dC, dI) (va_A (wl_fRectangles_ownerAt cI cZ cJ cQ a_0 a_0owner a_0everyFirst a_0everyLast a_0everyCells a_0first a_0last a_0cells count_0 owner_0) sz) (wl_fRectangles_ownerAt cI cZ cJ cQ a_0 a_0owner a_0everyFirst a_0everyLast a_0everyCells a_0first a_0last a_0cells count_0 owner_0)) (va_A (wl_fRectangles_ownerAt cI cZ cJ cQ a_0 a_0owner a_0everyFirst a_0everyLast a_0everyCells a_0first a_0last a_0cells count_0 owner_0) sz)) 0 0 (va_A (wl_fRectangles_ownerAt cI cZ cJ cQ a_0 a_0owner a_0everyFirst a_0everyLast a_0everyCells a_0first a_0last a_0cells count_0 owner_0) sz) := by
  refine wh_ofWi (lv := [(0, .ref a_0), (1, .int x1)]) RX7 (by decide) rfl rfl (Nat.le_of_ble_eq_true rfl) rfl ?_
  intro p e s m below meth c A QQ hx hb hml hown hts hP hK hN hD hA hret ls hl
  have hS : va_S A s.heap s.heap [] := va_S.rf
  have hiX7 : ∀ w ∈ wsX70, w ∈ wsX7_ownerAt := (fun _ h => List.mem_cons_of_mem _ (List.mem_append_right _ (h)))
  unfold fRectangles_ownerAt at hf
  refine lv_iload_n hx hb dX7_ownerAt_0 rfl (lv_at hl 1 rfl) ?_
  refine lv_if_lt (tgt := 28) hx hb dX7_ownerAt_1 (by decide) (fun cc => ?_) (fun cc => ?_)
  · replace hf := hf_pos cc hf
    refine lv_bipush (v := 42) hx hb dX7_ownerAt_28 (by decide) ?_
    obtain rfl := Option.some.inj hf
    exact hret _ _ _ _ hP hD hS dX7_ownerAt_30
  · replace hf := hf_neg cc hf
    refine lv_iload_n hx hb dX7_ownerAt_4 rfl (lv_at hl 1 rfl) ?_
    refine lv_aload_n hx hb dX7_ownerAt_5 rfl (lv_at hl 0 rfl) ?_
    refine va_get (D := (dC, dI)) (ci := 6) (C := RX7) (T := TX7) (N := 8) hx hb hts hiX7 hown hK hP 0 rfl rfl 7 (by decide) (hts (.fieldLink RX7 34 "PaddockFields$Rectangles" "count" "I") (List.mem_cons_of_mem _ (List.mem_append_left _ (List.mem_of_getElem? (i := 0) rfl)))) (fun _ h9 => h9) rfl dX7_ownerAt_6 ?_
    refine lv_icmp_ge (tgt := 28) hx hb dX7_ownerAt_9 (by decide) (fun cc => ?_) (fun cc => ?_)
    · replace hf := hf_pos cc hf
      refine lv_bipush (v := 42) hx hb dX7_ownerAt_28 (by decide) ?_
      obtain rfl := Option.some.inj hf
      exact hret _ _ _ _ hP hD hS dX7_ownerAt_30
    · replace hf := hf_neg cc hf
      refine lv_iload_n hx hb dX7_ownerAt_12 rfl (lv_at hl 1 rfl) ?_
      refine lv_sipush (v := 588) hx hb dX7_ownerAt_13 (by decide) ?_
      refine lv_icmp_ge (tgt := 28) hx hb dX7_ownerAt_16 (by decide) (fun cc => ?_) (fun cc => ?_)
      · replace hf := hf_pos cc hf
        refine lv_bipush (v := 42) hx hb dX7_ownerAt_28 (by decide) ?_
        obtain rfl := Option.some.inj hf
        exact hret _ _ _ _ hP hD hS dX7_ownerAt_30
      · replace hf := hf_neg cc hf
        refine lv_aload_n hx hb dX7_ownerAt_19 rfl (lv_at hl 0 rfl) ?_
        refine va_get (D := (dC, dI)) (ci := 6) (C := RX7) (T := TX7) (N := 8) hx hb hts hiX7 hown hK hP 0 rfl rfl 6 (by decide) (hts (.fieldLink RX7 31 "PaddockFields$Rectangles" "owner" "[I") (List.mem_cons_of_mem _ (List.mem_append_left _ (List.mem_of_getElem? (i := 1) rfl)))) (fun _ h9 => h9) rfl dX7_ownerAt_20 ?_
        refine lv_iload_n hx hb dX7_ownerAt_23 rfl (lv_at hl 1 rfl) ?_
        obtain ⟨v1, h_v1, hf⟩ := hf_bind hf
        refine wh_ldI (D := (dC, dI)) hx hb hK hP 1 0 rfl rfl h_v1 dX7_ownerAt_24 ?_
        refine lv_goto (tgt := 30) hx hb dX7_ownerAt_25 (by decide) ?_
        obtain rfl := Option.some.inj hf
        exact hret _ _ _ _ hP hD hS dX7_ownerAt_30
set_option maxHeartbeats 4000000 in
set_option maxRecDepth 100000 in
theorem c_fRectangles_countOf (l : Launch) (dC : Nat → ClassId) (dI : Nat → Nat → Nat) (cI cZ cJ cQ : ClassId) (a_0 a_0owner a_0everyFirst a_0everyLast a_0everyCells a_0first a_0last a_0cells : Nat) (sz : Nat) {F : Nat} {x1 : Int32} {count_0 : Int32} {owner_0 : Nat → Int32} {out : Int32} (hf : fRectangles_countOf F x1 count_0 owner_0 = some out) : Met l yX7_countOf wsX7_countOf ({ frames := 1, cells := 0, slots := 0, locals := 21 } : Room) (va_Pc [.ref a_0, .int x1] (wlP (dC, dI) (wlT cI cZ cJ cQ) (wl_fRectangles_countOf cI cZ cJ cQ a_0 a_0owner a_0everyFirst a_0everyLast a_0everyCells a_0first a_0last a_0cells count_0 owner_0) sz)) (va_Qi (fun (v : Int32) (_ : Unit) => v = out) (wlQ (dC, dI) (va_A (wl_fRectangles_countOf cI cZ cJ cQ a_0 a_0owner a_0everyFirst a_0everyLast a_0everyCells a_0first a_0last a_0cells count_0 owner_0) sz) (wl_fRectangles_countOf cI cZ cJ cQ a_0 a_0owner a_0everyFirst a_0everyLast a_0everyCells a_0first a_0last a_0cells count_0 owner_0)) (va_A (wl_fRectangles_countOf cI cZ cJ cQ a_0 a_0owner a_0everyFirst a_0everyLast a_0everyCells a_0first a_0last a_0cells count_0 owner_0) sz)) 0 0 (va_A (wl_fRectangles_countOf cI cZ cJ cQ a_0 a_0owner a_0everyFirst a_0everyLast a_0everyCells a_0first a_0last a_0cells count_0 owner_0) sz) := by
  refine wh_ofWi (lv := [(0, .ref a_0), (1, .int x1)]) RX7 (by decide) rfl rfl (Nat.le_of_ble_eq_true rfl) rfl ?_
  intro p e s m below meth c A QQ hx hb hml hown hts hP hK hN hD hA hret ls hl
  have hS : va_S A s.heap s.heap [] := va_S.rf
  have hiX7 : ∀ w ∈ wsX70, w ∈ wsX7_countOf := (fun _ h => List.mem_cons_of_mem _ (List.mem_append_right _ (h)))
  unfold fRectangles_countOf at hf
  refine lv_iconst (v := 0) hx hb dX7_countOf_0 (by decide) ?_
  refine lv_istore_n (lv' := [(2, .int (0 : Int32)), (0, .ref a_0), (1, .int x1)]) hx hb dX7_countOf_1 rfl hl (by decide) rfl (fun ls hl => ?_)
  refine lv_iconst (v := 0) hx hb dX7_countOf_2 (by decide) ?_
  refine lv_istore_n (lv' := [(3, .int (0 : Int32)), (2, .int (0 : Int32)), (0, .ref a_0), (1, .int x1)]) hx hb dX7_countOf_3 rfl hl (by decide) rfl (fun ls hl => ?_)
  obtain ⟨r3, h_r3, hf⟩ := hf_bind hf
  have hE_1 : ∀ (H : Heap) (locs : List Loc) (ls : Array Slot), lv_has ls 4 [(2, .int r3.1)] → va_P (dC, dI) vwCl (wl_fRectangles_countOf cI cZ cJ cQ a_0 a_0owner a_0everyFirst a_0everyLast a_0everyCells a_0first a_0last a_0cells count_0 owner_0) H → va_D A (wl_fRectangles_countOf cI cZ cJ cQ a_0 a_0owner a_0everyFirst a_0everyLast a_0everyCells a_0first a_0last a_0cells count_0 owner_0) → va_S A s.heap H locs → W p l e ({ frames := 1, cells := 0, slots := 0, locals := 21 } : Room) s m [.ref a_0, .int x1].toArray below meth c H locs 0 0 QQ (F0 m 35 ls []) := by
    intro H locs ls hl hP hD hS
    refine lv_iload_n hx hb dX7_countOf_35 rfl (lv_at hl 0 rfl) ?_
    obtain rfl := Option.some.inj hf
    exact hret _ _ _ _ hP hD hS dX7_countOf_36
  have hL_2 : ∀ (N : Nat) (l2_3 : Int32) (l3_4 : Int32), fRectangles_countOf_L4 F x1 count_0 owner_0 N l2_3 l3_4 = some r3 → ∀ (H : Heap) (locs : List Loc) (ls : Array Slot), lv_has ls 4 [(0, .ref a_0), (1, .int x1), (2, .int l2_3), (3, .int l3_4)] → va_P (dC, dI) vwCl (wl_fRectangles_countOf cI cZ cJ cQ a_0 a_0owner a_0everyFirst a_0everyLast a_0everyCells a_0first a_0last a_0cells count_0 owner_0) H → va_D A (wl_fRectangles_countOf cI cZ cJ cQ a_0 a_0owner a_0everyFirst a_0everyLast a_0everyCells a_0first a_0last a_0cells count_0 owner_0) → va_S A s.heap H locs → W p l e ({ frames := 1, cells := 0, slots := 0, locals := 21 } : Room) s m [.ref a_0, .int x1].toArray below meth c H locs 0 0 QQ (F0 m 4 ls []) := by
    intro N
    induction N with
    | zero => intro l2_3 l3_4 hf; exact nomatch (show none = some _ from hf)
    | succ N ih =>
      intro l2_3 l3_4 hf H locs ls hl hP hD hS
      rw [fRectangles_countOf_L4] at hf
      refine lv_iload_n hx hb dX7_countOf_4 rfl (lv_at hl 3 rfl) ?_
      refine lv_aload_n hx hb dX7_countOf_5 rfl (lv_at hl 0 rfl) ?_
      refine va_get (D := (dC, dI)) (ci := 6) (C := RX7) (T := TX7) (N := 8) hx hb hts hiX7 hown hK hP 0 rfl rfl 7 (by decide) (hts (.fieldLink RX7 34 "PaddockFields$Rectangles" "count" "I") (List.mem_cons_of_mem _ (List.mem_append_left _ (List.mem_of_getElem? (i := 0) rfl)))) (fun _ h9 => h9) rfl dX7_countOf_6 ?_
      refine lv_icmp_ge (tgt := 35) hx hb dX7_countOf_9 (by decide) (fun cc => ?_) (fun cc => ?_)
      · replace hf := hf_pos cc hf
        obtain rfl := Option.some.inj hf
        exact hE_1 _ _ _ (lv_sub hl [2] rfl) hP hD hS
      · replace hf := hf_neg cc hf
        refine lv_iload_n hx hb dX7_countOf_12 rfl (lv_at hl 2 rfl) ?_
        refine lv_aload_n hx hb dX7_countOf_13 rfl (lv_at hl 0 rfl) ?_
        refine lv_iload_n hx hb dX7_countOf_14 rfl (lv_at hl 3 rfl) ?_
        obtain ⟨s1, h_s1, hf⟩ := hf_bind hf
        refine wh_calli (D := (dC, dI)) (ws' := (wl_fRectangles_countOf cI cZ cJ cQ a_0 a_0owner a_0everyFirst a_0everyLast a_0everyCells a_0first a_0last a_0cells count_0 owner_0)) (va_runV (As := [.int l3_4]) (rest := [.int l2_3]) ⟨hx, hb, hml, hown, hts⟩ (c_fRectangles_ownerAt l dC dI cI cZ cJ cQ a_0 a_0owner a_0everyFirst a_0everyLast a_0everyCells a_0first a_0last a_0cells _ h_s1) (cwV 1 hts gX7_countOf_X7_ownerAt rfl rfl rfl (by decide +kernel) ⟨Nat.le_of_ble_eq_true rfl, Nat.le_of_ble_eq_true rfl⟩) (wh_preV (C := RX7) (T := TX7) (N := 8) hK hN hP hD [0, 1] rfl rfl 6 0 rfl rfl) rfl rfl hl.1 rfl (lv_room (Nat.le_of_ble_eq_true rfl)) dX7_countOf_15 ⟨Nat.le_refl _, Nat.le_refl _⟩) hP hD hS hA [0, 1] [] [0, 1] rfl rfl rfl rfl (fun H locs hP hD hS => ?_)
        refine lv_iload_n hx hb dX7_countOf_18 rfl (lv_at hl 1 rfl) ?_
        obtain ⟨j2, h_j2, hf⟩ := hf_bind hf
        have hJ_5 : ∀ (H : Heap) (locs : List Loc) (ls : Array Slot), lv_has ls 4 [(0, .ref a_0), (1, .int x1), (3, .int l3_4)] → va_P (dC, dI) vwCl (wl_fRectangles_countOf cI cZ cJ cQ a_0 a_0owner a_0everyFirst a_0everyLast a_0everyCells a_0first a_0last a_0cells count_0 owner_0) H → va_D A (wl_fRectangles_countOf cI cZ cJ cQ a_0 a_0owner a_0everyFirst a_0everyLast a_0everyCells a_0first a_0last a_0cells count_0 owner_0) → va_S A s.heap H locs → W p l e ({ frames := 1, cells := 0, slots := 0, locals := 21 } : Room) s m [.ref a_0, .int x1].toArray below meth c H locs 0 0 QQ (F0 m 27 ls [.int j2, .int l2_3]) := by
          intro H locs ls hl hP hD hS
          refine lv_iadd hx hb dX7_countOf_27 ?_
          refine lv_istore_n (lv' := [(2, .int (l2_3 + j2)), (0, .ref a_0), (1, .int x1), (3, .int l3_4)]) hx hb dX7_countOf_28 rfl hl (by decide) rfl (fun ls hl => ?_)
          refine lv_iinc (v := (l3_4 + (1 : Int32))) (lv' := [(3, .int (l3_4 + (1 : Int32))), (2, .int (l2_3 + j2)), (0, .ref a_0), (1, .int x1)]) hx hb dX7_countOf_29 hl (k := 3) rfl rfl (by decide) rfl (fun ls hl => ?_)
          refine lv_goto (tgt := 4) hx hb dX7_countOf_32 (by decide) ?_
          exact ih _ _ hf _ _ _ (lv_sub hl [2, 3, 1, 0] rfl) hP hD hS
        clear hf
        have hf := h_j2
        clear h_j2
        refine lv_icmp_ne (tgt := 26) hx hb dX7_countOf_19 (by decide) (fun cc => ?_) (fun cc => ?_)
        · replace hf := hf_pos cc hf
          refine lv_iconst (v := 0) hx hb dX7_countOf_26 (by decide) ?_
          obtain rfl := Option.some.inj hf
          exact hJ_5 _ _ _ (lv_sub hl [0, 1, 3] rfl) hP hD hS
        · replace hf := hf_neg (not_not_intro cc) hf
          refine lv_iconst (v := 1) hx hb dX7_countOf_22 (by decide) ?_
          refine lv_goto (tgt := 27) hx hb dX7_countOf_23 (by decide) ?_
          obtain rfl := Option.some.inj hf
          exact hJ_5 _ _ _ (lv_sub hl [0, 1, 3] rfl) hP hD hS
  exact hL_2 _ _ _ h_r3 _ _ _ (lv_sub hl [2, 3, 1, 0] rfl) hP hD hS
set_option maxHeartbeats 4000000 in
set_option maxRecDepth 100000 in
theorem c_fRectangles_indexOf (l : Launch) (dC : Nat → ClassId) (dI : Nat → Nat → Nat) (cI cZ cJ cQ : ClassId) (a_0 a_0owner a_0everyFirst a_0everyLast a_0everyCells a_0first a_0last a_0cells : Nat) (sz : Nat) {F : Nat} {x1 : Int32} {x2 : Int32} {count_0 : Int32} {owner_0 : Nat → Int32} {out : Int32} (hf : fRectangles_indexOf F x1 x2 count_0 owner_0 = some out) : Met l yX7_indexOf wsX7_indexOf ({ frames := 1, cells := 0, slots := 0, locals := 21 } : Room) (va_Pc [.ref a_0, .int x1, .int x2] (wlP (dC, dI) (wlT cI cZ cJ cQ) (wl_fRectangles_indexOf cI cZ cJ cQ a_0 a_0owner a_0everyFirst a_0everyLast a_0everyCells a_0first a_0last a_0cells count_0 owner_0) sz)) (va_Qi (fun (v : Int32) (_ : Unit) => v = out) (wlQ (dC, dI) (va_A (wl_fRectangles_indexOf cI cZ cJ cQ a_0 a_0owner a_0everyFirst a_0everyLast a_0everyCells a_0first a_0last a_0cells count_0 owner_0) sz) (wl_fRectangles_indexOf cI cZ cJ cQ a_0 a_0owner a_0everyFirst a_0everyLast a_0everyCells a_0first a_0last a_0cells count_0 owner_0)) (va_A (wl_fRectangles_indexOf cI cZ cJ cQ a_0 a_0owner a_0everyFirst a_0everyLast a_0everyCells a_0first a_0last a_0cells count_0 owner_0) sz)) 0 0 (va_A (wl_fRectangles_indexOf cI cZ cJ cQ a_0 a_0owner a_0everyFirst a_0everyLast a_0everyCells a_0first a_0last a_0cells count_0 owner_0) sz) := by
  refine wh_ofWi (lv := [(0, .ref a_0), (1, .int x1), (2, .int x2)]) RX7 (by decide) rfl rfl (Nat.le_of_ble_eq_true rfl) rfl ?_
  intro p e s m below meth c A QQ hx hb hml hown hts hP hK hN hD hA hret ls hl
  have hS : va_S A s.heap s.heap [] := va_S.rf
  have hiX7 : ∀ w ∈ wsX70, w ∈ wsX7_indexOf := (fun _ h => List.mem_cons_of_mem _ (List.mem_append_right _ (h)))
  unfold fRectangles_indexOf at hf
  refine lv_iconst (v := 0) hx hb dX7_indexOf_0 (by decide) ?_
  refine lv_istore_n (lv' := [(3, .int (0 : Int32)), (0, .ref a_0), (1, .int x1), (2, .int x2)]) hx hb dX7_indexOf_1 rfl hl (by decide) rfl (fun ls hl => ?_)
  refine lv_iconst (v := 0) hx hb dX7_indexOf_2 (by decide) ?_
  refine lv_istore (lv' := [(4, .int (0 : Int32)), (3, .int (0 : Int32)), (0, .ref a_0), (1, .int x1), (2, .int x2)]) hx hb dX7_indexOf_3 hl (by decide) rfl (fun ls hl => ?_)
  have hL_1 : ∀ (N : Nat) (l3_2 : Int32) (l4_3 : Int32), fRectangles_indexOf_L5 F x1 x2 count_0 owner_0 N l3_2 l4_3 = some out → ∀ (H : Heap) (locs : List Loc) (ls : Array Slot), lv_has ls 5 [(0, .ref a_0), (1, .int x1), (2, .int x2), (3, .int l3_2), (4, .int l4_3)] → va_P (dC, dI) vwCl (wl_fRectangles_indexOf cI cZ cJ cQ a_0 a_0owner a_0everyFirst a_0everyLast a_0everyCells a_0first a_0last a_0cells count_0 owner_0) H → va_D A (wl_fRectangles_indexOf cI cZ cJ cQ a_0 a_0owner a_0everyFirst a_0everyLast a_0everyCells a_0first a_0last a_0cells count_0 owner_0) → va_S A s.heap H locs → W p l e ({ frames := 1, cells := 0, slots := 0, locals := 21 } : Room) s m [.ref a_0, .int x1, .int x2].toArray below meth c H locs 0 0 QQ (F0 m 5 ls []) := by
    intro N
    induction N with
    | zero => intro l3_2 l4_3 hf; exact nomatch (show none = some _ from hf)
    | succ N ih =>
      intro l3_2 l4_3 hf H locs ls hl hP hD hS
      rw [fRectangles_indexOf_L5] at hf
      refine lv_iload hx hb dX7_indexOf_5 (lv_at hl 4 rfl) ?_
      refine lv_aload_n hx hb dX7_indexOf_7 rfl (lv_at hl 0 rfl) ?_
      refine va_get (D := (dC, dI)) (ci := 6) (C := RX7) (T := TX7) (N := 8) hx hb hts hiX7 hown hK hP 0 rfl rfl 7 (by decide) (hts (.fieldLink RX7 34 "PaddockFields$Rectangles" "count" "I") (List.mem_cons_of_mem _ (List.mem_append_left _ (List.mem_of_getElem? (i := 0) rfl)))) (fun _ h9 => h9) rfl dX7_indexOf_8 ?_
      refine lv_icmp_ge (tgt := 41) hx hb dX7_indexOf_11 (by decide) (fun cc => ?_) (fun cc => ?_)
      · replace hf := hf_pos cc hf
        refine lv_iconst (v := -1) hx hb dX7_indexOf_41 (by decide) ?_
        obtain rfl := Option.some.inj hf
        exact hret _ _ _ _ hP hD hS dX7_indexOf_42
      · replace hf := hf_neg cc hf
        refine lv_aload_n hx hb dX7_indexOf_14 rfl (lv_at hl 0 rfl) ?_
        refine lv_iload hx hb dX7_indexOf_15 (lv_at hl 4 rfl) ?_
        obtain ⟨s1, h_s1, hf⟩ := hf_bind hf
        refine wh_calli (D := (dC, dI)) (ws' := (wl_fRectangles_indexOf cI cZ cJ cQ a_0 a_0owner a_0everyFirst a_0everyLast a_0everyCells a_0first a_0last a_0cells count_0 owner_0)) (va_runV (As := [.int l4_3]) (rest := []) ⟨hx, hb, hml, hown, hts⟩ (c_fRectangles_ownerAt l dC dI cI cZ cJ cQ a_0 a_0owner a_0everyFirst a_0everyLast a_0everyCells a_0first a_0last a_0cells _ h_s1) (cwV 1 hts gX7_indexOf_X7_ownerAt rfl rfl rfl (by decide +kernel) ⟨Nat.le_of_ble_eq_true rfl, Nat.le_of_ble_eq_true rfl⟩) (wh_preV (C := RX7) (T := TX7) (N := 8) hK hN hP hD [0, 1] rfl rfl 6 0 rfl rfl) rfl rfl hl.1 rfl (lv_room (Nat.le_of_ble_eq_true rfl)) dX7_indexOf_17 ⟨Nat.le_refl _, Nat.le_refl _⟩) hP hD hS hA [0, 1] [] [0, 1] rfl rfl rfl rfl (fun H locs hP hD hS => ?_)
        refine lv_iload_n hx hb dX7_indexOf_20 rfl (lv_at hl 1 rfl) ?_
        refine lv_icmp_ne (tgt := 35) hx hb dX7_indexOf_21 (by decide) (fun cc => ?_) (fun cc => ?_)
        · replace hf := hf_pos cc hf
          refine lv_iinc (v := (l4_3 + (1 : Int32))) (lv' := [(4, .int (l4_3 + (1 : Int32))), (0, .ref a_0), (1, .int x1), (2, .int x2), (3, .int l3_2)]) hx hb dX7_indexOf_35 hl (k := 4) rfl rfl (by decide) rfl (fun ls hl => ?_)
          refine lv_goto (tgt := 5) hx hb dX7_indexOf_38 (by decide) ?_
          exact ih _ _ hf _ _ _ (lv_sub hl [1, 2, 3, 4, 0] rfl) hP hD hS
        · replace hf := hf_neg (not_not_intro cc) hf
          refine lv_iload_n hx hb dX7_indexOf_24 rfl (lv_at hl 3 rfl) ?_
          refine lv_iload_n hx hb dX7_indexOf_25 rfl (lv_at hl 2 rfl) ?_
          refine lv_icmp_ne (tgt := 32) hx hb dX7_indexOf_26 (by decide) (fun cc => ?_) (fun cc => ?_)
          · replace hf := hf_pos cc hf
            refine lv_iinc (v := (l3_2 + (1 : Int32))) (lv' := [(3, .int (l3_2 + (1 : Int32))), (0, .ref a_0), (1, .int x1), (2, .int x2), (4, .int l4_3)]) hx hb dX7_indexOf_32 hl (k := 3) rfl rfl (by decide) rfl (fun ls hl => ?_)
            refine lv_iinc (v := (l4_3 + (1 : Int32))) (lv' := [(4, .int (l4_3 + (1 : Int32))), (3, .int (l3_2 + (1 : Int32))), (0, .ref a_0), (1, .int x1), (2, .int x2)]) hx hb dX7_indexOf_35 hl (k := 4) rfl rfl (by decide) rfl (fun ls hl => ?_)
            refine lv_goto (tgt := 5) hx hb dX7_indexOf_38 (by decide) ?_
            exact ih _ _ hf _ _ _ (lv_sub hl [2, 3, 4, 1, 0] rfl) hP hD hS
          · replace hf := hf_neg (not_not_intro cc) hf
            refine lv_iload hx hb dX7_indexOf_29 (lv_at hl 4 rfl) ?_
            obtain rfl := Option.some.inj hf
            exact hret _ _ _ _ hP hD hS dX7_indexOf_31
  exact hL_1 _ _ _ hf _ _ _ (lv_sub hl [2, 3, 4, 1, 0] rfl) hP hD hS
set_option maxHeartbeats 4000000 in
set_option maxRecDepth 100000 in
theorem c_fRectangles_firstAt (l : Launch) (dC : Nat → ClassId) (dI : Nat → Nat → Nat) (cI cZ cJ cQ : ClassId) (a_0 a_0first a_0everyFirst a_0everyLast a_0everyCells a_0last a_0cells a_0owner : Nat) (sz : Nat) {x1 : Int32} {count_0 : Int32} {first_0 : Nat → Int32} {out : Int32} (hf : fRectangles_firstAt x1 count_0 first_0 = some out) : Met l yX7_firstAt wsX7_firstAt ({ frames := 0, cells := 0, slots := 0, locals := 0 } : Room) (va_Pc [.ref a_0, .int x1] (wlP (dC, dI) (wlT cI cZ cJ cQ) (wl_fRectangles_firstAt cI cZ cJ cQ a_0 a_0first a_0everyFirst a_0everyLast a_0everyCells a_0last a_0cells a_0owner count_0 first_0) sz)) (va_Qi (fun (v : Int32) (_ : Unit) => v = out) (wlQ (dC, dI) (va_A (wl_fRectangles_firstAt cI cZ cJ cQ a_0 a_0first a_0everyFirst a_0everyLast a_0everyCells a_0last a_0cells a_0owner count_0 first_0) sz) (wl_fRectangles_firstAt cI cZ cJ cQ a_0 a_0first a_0everyFirst a_0everyLast a_0everyCells a_0last a_0cells a_0owner count_0 first_0)) (va_A (wl_fRectangles_firstAt cI cZ cJ cQ a_0 a_0first a_0everyFirst a_0everyLast a_0everyCells a_0last a_0cells a_0owner count_0 first_0) sz)) 0 0 (va_A (wl_fRectangles_firstAt cI cZ cJ cQ a_0 a_0first a_0everyFirst a_0everyLast a_0everyCells a_0last a_0cells a_0owner count_0 first_0) sz) := by
  refine wh_ofWi (lv := [(0, .ref a_0), (1, .int x1)]) RX7 (by decide) rfl rfl (Nat.le_of_ble_eq_true rfl) rfl ?_
  intro p e s m below meth c A QQ hx hb hml hown hts hP hK hN hD hA hret ls hl
  have hS : va_S A s.heap s.heap [] := va_S.rf
  have hiX7 : ∀ w ∈ wsX70, w ∈ wsX7_firstAt := (fun _ h => List.mem_cons_of_mem _ (List.mem_append_right _ (h)))
  unfold fRectangles_firstAt at hf
  refine lv_iload_n hx hb dX7_firstAt_0 rfl (lv_at hl 1 rfl) ?_
  refine lv_if_lt (tgt := 28) hx hb dX7_firstAt_1 (by decide) (fun cc => ?_) (fun cc => ?_)
  · replace hf := hf_pos cc hf
    refine lv_bipush (v := 42) hx hb dX7_firstAt_28 (by decide) ?_
    obtain rfl := Option.some.inj hf
    exact hret _ _ _ _ hP hD hS dX7_firstAt_30
  · replace hf := hf_neg cc hf
    refine lv_iload_n hx hb dX7_firstAt_4 rfl (lv_at hl 1 rfl) ?_
    refine lv_aload_n hx hb dX7_firstAt_5 rfl (lv_at hl 0 rfl) ?_
    refine va_get (D := (dC, dI)) (ci := 6) (C := RX7) (T := TX7) (N := 8) hx hb hts hiX7 hown hK hP 0 rfl rfl 7 (by decide) (hts (.fieldLink RX7 34 "PaddockFields$Rectangles" "count" "I") (List.mem_cons_of_mem _ (List.mem_append_left _ (List.mem_of_getElem? (i := 0) rfl)))) (fun _ h9 => h9) rfl dX7_firstAt_6 ?_
    refine lv_icmp_ge (tgt := 28) hx hb dX7_firstAt_9 (by decide) (fun cc => ?_) (fun cc => ?_)
    · replace hf := hf_pos cc hf
      refine lv_bipush (v := 42) hx hb dX7_firstAt_28 (by decide) ?_
      obtain rfl := Option.some.inj hf
      exact hret _ _ _ _ hP hD hS dX7_firstAt_30
    · replace hf := hf_neg cc hf
      refine lv_iload_n hx hb dX7_firstAt_12 rfl (lv_at hl 1 rfl) ?_
      refine lv_sipush (v := 588) hx hb dX7_firstAt_13 (by decide) ?_
      refine lv_icmp_ge (tgt := 28) hx hb dX7_firstAt_16 (by decide) (fun cc => ?_) (fun cc => ?_)
      · replace hf := hf_pos cc hf
        refine lv_bipush (v := 42) hx hb dX7_firstAt_28 (by decide) ?_
        obtain rfl := Option.some.inj hf
        exact hret _ _ _ _ hP hD hS dX7_firstAt_30
      · replace hf := hf_neg cc hf
        refine lv_aload_n hx hb dX7_firstAt_19 rfl (lv_at hl 0 rfl) ?_
        refine va_get (D := (dC, dI)) (ci := 6) (C := RX7) (T := TX7) (N := 8) hx hb hts hiX7 hown hK hP 0 rfl rfl 3 (by decide) (hts (.fieldLink RX7 22 "PaddockFields$Rectangles" "first" "[I") (List.mem_cons_of_mem _ (List.mem_append_left _ (List.mem_of_getElem? (i := 1) rfl)))) (fun _ h9 => h9) rfl dX7_firstAt_20 ?_
        refine lv_iload_n hx hb dX7_firstAt_23 rfl (lv_at hl 1 rfl) ?_
        obtain ⟨v1, h_v1, hf⟩ := hf_bind hf
        refine wh_ldI (D := (dC, dI)) hx hb hK hP 1 0 rfl rfl h_v1 dX7_firstAt_24 ?_
        refine lv_goto (tgt := 30) hx hb dX7_firstAt_25 (by decide) ?_
        obtain rfl := Option.some.inj hf
        exact hret _ _ _ _ hP hD hS dX7_firstAt_30
set_option maxHeartbeats 4000000 in
set_option maxRecDepth 100000 in
theorem c_fRectangles_lastAt (l : Launch) (dC : Nat → ClassId) (dI : Nat → Nat → Nat) (cI cZ cJ cQ : ClassId) (a_0 a_0last a_0everyFirst a_0everyLast a_0everyCells a_0first a_0cells a_0owner : Nat) (sz : Nat) {x1 : Int32} {count_0 : Int32} {last_0 : Nat → Int32} {out : Int32} (hf : fRectangles_lastAt x1 count_0 last_0 = some out) : Met l yX7_lastAt wsX7_lastAt ({ frames := 0, cells := 0, slots := 0, locals := 0 } : Room) (va_Pc [.ref a_0, .int x1] (wlP (dC, dI) (wlT cI cZ cJ cQ) (wl_fRectangles_lastAt cI cZ cJ cQ a_0 a_0last a_0everyFirst a_0everyLast a_0everyCells a_0first a_0cells a_0owner count_0 last_0) sz)) (va_Qi (fun (v : Int32) (_ : Unit) => v = out) (wlQ (dC, dI) (va_A (wl_fRectangles_lastAt cI cZ cJ cQ a_0 a_0last a_0everyFirst a_0everyLast a_0everyCells a_0first a_0cells a_0owner count_0 last_0) sz) (wl_fRectangles_lastAt cI cZ cJ cQ a_0 a_0last a_0everyFirst a_0everyLast a_0everyCells a_0first a_0cells a_0owner count_0 last_0)) (va_A (wl_fRectangles_lastAt cI cZ cJ cQ a_0 a_0last a_0everyFirst a_0everyLast a_0everyCells a_0first a_0cells a_0owner count_0 last_0) sz)) 0 0 (va_A (wl_fRectangles_lastAt cI cZ cJ cQ a_0 a_0last a_0everyFirst a_0everyLast a_0everyCells a_0first a_0cells a_0owner count_0 last_0) sz) := by
  refine wh_ofWi (lv := [(0, .ref a_0), (1, .int x1)]) RX7 (by decide) rfl rfl (Nat.le_of_ble_eq_true rfl) rfl ?_
  intro p e s m below meth c A QQ hx hb hml hown hts hP hK hN hD hA hret ls hl
  have hS : va_S A s.heap s.heap [] := va_S.rf
  have hiX7 : ∀ w ∈ wsX70, w ∈ wsX7_lastAt := (fun _ h => List.mem_cons_of_mem _ (List.mem_append_right _ (h)))
  unfold fRectangles_lastAt at hf
  refine lv_iload_n hx hb dX7_lastAt_0 rfl (lv_at hl 1 rfl) ?_
  refine lv_if_lt (tgt := 28) hx hb dX7_lastAt_1 (by decide) (fun cc => ?_) (fun cc => ?_)
  · replace hf := hf_pos cc hf
    refine lv_bipush (v := 42) hx hb dX7_lastAt_28 (by decide) ?_
    obtain rfl := Option.some.inj hf
    exact hret _ _ _ _ hP hD hS dX7_lastAt_30
  · replace hf := hf_neg cc hf
    refine lv_iload_n hx hb dX7_lastAt_4 rfl (lv_at hl 1 rfl) ?_
    refine lv_aload_n hx hb dX7_lastAt_5 rfl (lv_at hl 0 rfl) ?_
    refine va_get (D := (dC, dI)) (ci := 6) (C := RX7) (T := TX7) (N := 8) hx hb hts hiX7 hown hK hP 0 rfl rfl 7 (by decide) (hts (.fieldLink RX7 34 "PaddockFields$Rectangles" "count" "I") (List.mem_cons_of_mem _ (List.mem_append_left _ (List.mem_of_getElem? (i := 0) rfl)))) (fun _ h9 => h9) rfl dX7_lastAt_6 ?_
    refine lv_icmp_ge (tgt := 28) hx hb dX7_lastAt_9 (by decide) (fun cc => ?_) (fun cc => ?_)
    · replace hf := hf_pos cc hf
      refine lv_bipush (v := 42) hx hb dX7_lastAt_28 (by decide) ?_
      obtain rfl := Option.some.inj hf
      exact hret _ _ _ _ hP hD hS dX7_lastAt_30
    · replace hf := hf_neg cc hf
      refine lv_iload_n hx hb dX7_lastAt_12 rfl (lv_at hl 1 rfl) ?_
      refine lv_sipush (v := 588) hx hb dX7_lastAt_13 (by decide) ?_
      refine lv_icmp_ge (tgt := 28) hx hb dX7_lastAt_16 (by decide) (fun cc => ?_) (fun cc => ?_)
      · replace hf := hf_pos cc hf
        refine lv_bipush (v := 42) hx hb dX7_lastAt_28 (by decide) ?_
        obtain rfl := Option.some.inj hf
        exact hret _ _ _ _ hP hD hS dX7_lastAt_30
      · replace hf := hf_neg cc hf
        refine lv_aload_n hx hb dX7_lastAt_19 rfl (lv_at hl 0 rfl) ?_
        refine va_get (D := (dC, dI)) (ci := 6) (C := RX7) (T := TX7) (N := 8) hx hb hts hiX7 hown hK hP 0 rfl rfl 4 (by decide) (hts (.fieldLink RX7 25 "PaddockFields$Rectangles" "last" "[I") (List.mem_cons_of_mem _ (List.mem_append_left _ (List.mem_of_getElem? (i := 1) rfl)))) (fun _ h9 => h9) rfl dX7_lastAt_20 ?_
        refine lv_iload_n hx hb dX7_lastAt_23 rfl (lv_at hl 1 rfl) ?_
        obtain ⟨v1, h_v1, hf⟩ := hf_bind hf
        refine wh_ldI (D := (dC, dI)) hx hb hK hP 1 0 rfl rfl h_v1 dX7_lastAt_24 ?_
        refine lv_goto (tgt := 30) hx hb dX7_lastAt_25 (by decide) ?_
        obtain rfl := Option.some.inj hf
        exact hret _ _ _ _ hP hD hS dX7_lastAt_30
set_option maxHeartbeats 4000000 in
set_option maxRecDepth 100000 in
theorem c_fRectangles_bothEnds (l : Launch) (dC : Nat → ClassId) (dI : Nat → Nat → Nat) (cI cZ cJ cQ : ClassId) (a_0 a_0first a_0last a_0everyFirst a_0everyLast a_0everyCells a_0cells a_0owner : Nat) (sz : Nat) {x1 : Int32} {count_0 : Int32} {first_0 : Nat → Int32} {last_0 : Nat → Int32} {out : Int32} (hf : fRectangles_bothEnds x1 count_0 first_0 last_0 = some out) : Met l yX7_bothEnds wsX7_bothEnds ({ frames := 1, cells := 0, slots := 0, locals := 21 } : Room) (va_Pc [.ref a_0, .int x1] (wlP (dC, dI) (wlT cI cZ cJ cQ) (wl_fRectangles_bothEnds cI cZ cJ cQ a_0 a_0first a_0last a_0everyFirst a_0everyLast a_0everyCells a_0cells a_0owner count_0 first_0 last_0) sz)) (va_Qi (fun (v : Int32) (_ : Unit) => v = out) (wlQ (dC, dI) (va_A (wl_fRectangles_bothEnds cI cZ cJ cQ a_0 a_0first a_0last a_0everyFirst a_0everyLast a_0everyCells a_0cells a_0owner count_0 first_0 last_0) sz) (wl_fRectangles_bothEnds cI cZ cJ cQ a_0 a_0first a_0last a_0everyFirst a_0everyLast a_0everyCells a_0cells a_0owner count_0 first_0 last_0)) (va_A (wl_fRectangles_bothEnds cI cZ cJ cQ a_0 a_0first a_0last a_0everyFirst a_0everyLast a_0everyCells a_0cells a_0owner count_0 first_0 last_0) sz)) 0 0 (va_A (wl_fRectangles_bothEnds cI cZ cJ cQ a_0 a_0first a_0last a_0everyFirst a_0everyLast a_0everyCells a_0cells a_0owner count_0 first_0 last_0) sz) := by
  refine wh_ofWi (lv := [(0, .ref a_0), (1, .int x1)]) RX7 (by decide) rfl rfl (Nat.le_of_ble_eq_true rfl) rfl ?_
  intro p e s m below meth c A QQ hx hb hml hown hts hP hK hN hD hA hret ls hl
  have hS : va_S A s.heap s.heap [] := va_S.rf
  unfold fRectangles_bothEnds at hf
  refine lv_aload_n hx hb dX7_bothEnds_0 rfl (lv_at hl 0 rfl) ?_
  refine lv_iload_n hx hb dX7_bothEnds_1 rfl (lv_at hl 1 rfl) ?_
  obtain ⟨s1, h_s1, hf⟩ := hf_bind hf
  refine wh_calli (D := (dC, dI)) (ws' := (wl_fRectangles_bothEnds cI cZ cJ cQ a_0 a_0first a_0last a_0everyFirst a_0everyLast a_0everyCells a_0cells a_0owner count_0 first_0 last_0)) (va_runV (As := [.int x1]) (rest := []) ⟨hx, hb, hml, hown, hts⟩ (c_fRectangles_firstAt l dC dI cI cZ cJ cQ a_0 a_0first a_0everyFirst a_0everyLast a_0everyCells a_0last a_0cells a_0owner _ h_s1) (cwV 1 hts gX7_bothEnds_X7_firstAt rfl rfl rfl (by decide +kernel) ⟨Nat.le_of_ble_eq_true rfl, Nat.le_of_ble_eq_true rfl⟩) (wh_preV (C := RX7) (T := TX7) (N := 8) hK hN hP hD [0, 1] rfl rfl 6 0 rfl rfl) rfl rfl hl.1 rfl (lv_room (Nat.le_of_ble_eq_true rfl)) dX7_bothEnds_2 ⟨Nat.le_refl _, Nat.le_refl _⟩) hP hD hS hA [0, 1] [2] [1, 2, 0] rfl rfl rfl rfl (fun H locs hP hD hS => ?_)
  refine lv_bipush (v := 42) hx hb dX7_bothEnds_5 (by decide) ?_
  refine lv_imul hx hb dX7_bothEnds_7 ?_
  refine lv_aload_n hx hb dX7_bothEnds_8 rfl (lv_at hl 0 rfl) ?_
  refine lv_iload_n hx hb dX7_bothEnds_9 rfl (lv_at hl 1 rfl) ?_
  obtain ⟨s2, h_s2, hf⟩ := hf_bind hf
  refine wh_calli (D := (dC, dI)) (ws' := (wl_fRectangles_bothEnds cI cZ cJ cQ a_0 a_0first a_0last a_0everyFirst a_0everyLast a_0everyCells a_0cells a_0owner count_0 first_0 last_0)) (va_runV (As := [.int x1]) (rest := [.int (s1 * (42 : Int32))]) ⟨hx, hb, hml, hown, hts⟩ (c_fRectangles_lastAt l dC dI cI cZ cJ cQ a_0 a_0last a_0everyFirst a_0everyLast a_0everyCells a_0first a_0cells a_0owner _ h_s2) (cwV 1 hts gX7_bothEnds_X7_lastAt rfl rfl rfl (by decide +kernel) ⟨Nat.le_of_ble_eq_true rfl, Nat.le_of_ble_eq_true rfl⟩) (wh_preV (C := RX7) (T := TX7) (N := 8) hK hN hP hD [0, 2] rfl rfl 6 0 rfl rfl) rfl rfl hl.1 rfl (lv_room (Nat.le_of_ble_eq_true rfl)) dX7_bothEnds_10 ⟨Nat.le_refl _, Nat.le_refl _⟩) hP hD hS hA [0, 2] [1] [1, 0, 2] rfl rfl rfl rfl (fun H locs hP hD hS => ?_)
  refine lv_iadd hx hb dX7_bothEnds_13 ?_
  obtain rfl := Option.some.inj hf
  exact hret _ _ _ _ hP hD hS dX7_bothEnds_14
set_option maxHeartbeats 4000000 in
set_option maxRecDepth 100000 in
theorem c_fMaker_put (l : Launch) (dC : Nat → ClassId) (dI : Nat → Nat → Nat) (cI cZ cJ cQ : ClassId) (a_0 a_0first a_0last : Nat) (x_0 : Int64) (sz : Nat) {x1 : Int32} {x2 : Int32} {count_0 : Int32} {first_0 : Nat → Int32} {last_0 : Nat → Int32} {out : (Nat → Int32) × (Nat → Int32) × Int32} (hf : fMaker_put x1 x2 count_0 first_0 last_0 = some out) : Met l yX5_put wsX5_put ({ frames := 0, cells := 0, slots := 0, locals := 0 } : Room) (va_Pc [.ref a_0, .int x1, .int x2] (wlP (dC, dI) (wlT cI cZ cJ cQ) (wl_fMaker_put cI cZ cJ cQ a_0 a_0first a_0last count_0 x_0 first_0 last_0) sz)) (va_Qv (fun (_ : Unit) => True) (wlQ (dC, dI) (va_A (wl_fMaker_put cI cZ cJ cQ a_0 a_0first a_0last count_0 x_0 first_0 last_0) sz) (wl_fMaker_put cI cZ cJ cQ a_0 a_0first a_0last out.2.2 x_0 out.1 out.2.1)) (va_A (wl_fMaker_put cI cZ cJ cQ a_0 a_0first a_0last count_0 x_0 first_0 last_0) sz)) 0 0 (va_A (wl_fMaker_put cI cZ cJ cQ a_0 a_0first a_0last count_0 x_0 first_0 last_0) sz) := by
  refine wh_ofWv (lv := [(0, .ref a_0), (1, .int x1), (2, .int x2)]) RX5 (by decide) rfl rfl (Nat.le_of_ble_eq_true rfl) rfl ?_
  intro p e s m below meth c A QQ hx hb hml hown hts hP hK hN hD hA hret ls hl
  have hS : va_S A s.heap s.heap [] := va_S.rf
  have hiX5 : ∀ w ∈ wsX50, w ∈ wsX5_put := (fun _ h => List.mem_cons_of_mem _ (List.mem_append_right _ (h)))
  unfold fMaker_put at hf
  refine lv_aload_n hx hb dX5_put_0 rfl (lv_at hl 0 rfl) ?_
  refine va_get (D := (dC, dI)) (ci := 4) (C := RX5) (T := TX5) (N := 4) hx hb hts hiX5 hown hK hP 0 rfl rfl 2 (by decide) (hts (.fieldLink RX5 18 "PaddockFields$Maker" "count" "I") (List.mem_cons_of_mem _ (List.mem_append_left _ (List.mem_of_getElem? (i := 0) rfl)))) (fun _ h9 => h9) rfl dX5_put_1 ?_
  refine lv_if_lt (tgt := 46) hx hb dX5_put_4 (by decide) (fun cc => ?_) (fun cc => ?_)
  · replace hf := hf_pos cc hf
    obtain rfl := Option.some.inj hf
    exact hret _ _ _ _ hP hD hS dX5_put_46
  · replace hf := hf_neg cc hf
    refine lv_aload_n hx hb dX5_put_7 rfl (lv_at hl 0 rfl) ?_
    refine va_get (D := (dC, dI)) (ci := 4) (C := RX5) (T := TX5) (N := 4) hx hb hts hiX5 hown hK hP 0 rfl rfl 2 (by decide) (hts (.fieldLink RX5 18 "PaddockFields$Maker" "count" "I") (List.mem_cons_of_mem _ (List.mem_append_left _ (List.mem_of_getElem? (i := 0) rfl)))) (fun _ h9 => h9) rfl dX5_put_8 ?_
    refine lv_bipush (v := 42) hx hb dX5_put_11 (by decide) ?_
    refine lv_icmp_ge (tgt := 46) hx hb dX5_put_13 (by decide) (fun cc => ?_) (fun cc => ?_)
    · replace hf := hf_pos cc hf
      obtain rfl := Option.some.inj hf
      exact hret _ _ _ _ hP hD hS dX5_put_46
    · replace hf := hf_neg cc hf
      refine lv_aload_n hx hb dX5_put_16 rfl (lv_at hl 0 rfl) ?_
      refine va_get (D := (dC, dI)) (ci := 4) (C := RX5) (T := TX5) (N := 4) hx hb hts hiX5 hown hK hP 0 rfl rfl 0 (by decide) (hts (.fieldLink RX5 9 "PaddockFields$Maker" "first" "[I") (List.mem_cons_of_mem _ (List.mem_append_left _ (List.mem_of_getElem? (i := 1) rfl)))) (fun _ h9 => h9) rfl dX5_put_17 ?_
      refine lv_aload_n hx hb dX5_put_20 rfl (lv_at hl 0 rfl) ?_
      refine va_get (D := (dC, dI)) (ci := 4) (C := RX5) (T := TX5) (N := 4) hx hb hts hiX5 hown hK hP 0 rfl rfl 2 (by decide) (hts (.fieldLink RX5 18 "PaddockFields$Maker" "count" "I") (List.mem_cons_of_mem _ (List.mem_append_left _ (List.mem_of_getElem? (i := 0) rfl)))) (fun _ h9 => h9) rfl dX5_put_21 ?_
      refine lv_iload_n hx hb dX5_put_24 rfl (lv_at hl 1 rfl) ?_
      obtain ⟨w1, h_w1, hf⟩ := hf_bind hf
      refine wh_stI (D := (dC, dI)) (ws' := (wl_fMaker_put cI cZ cJ cQ a_0 a_0first a_0last count_0 x_0 w1 last_0)) hx hb hK hP hD hS 1 0 rfl rfl rfl h_w1 dX5_put_25 (fun H locs hP hD hS => ?_)
      refine lv_aload_n hx hb dX5_put_26 rfl (lv_at hl 0 rfl) ?_
      refine va_get (D := (dC, dI)) (ci := 4) (C := RX5) (T := TX5) (N := 4) hx hb hts hiX5 hown hK hP 0 rfl rfl 1 (by decide) (hts (.fieldLink RX5 15 "PaddockFields$Maker" "last" "[I") (List.mem_cons_of_mem _ (List.mem_append_left _ (List.mem_of_getElem? (i := 2) rfl)))) (fun _ h9 => h9) rfl dX5_put_27 ?_
      refine lv_aload_n hx hb dX5_put_30 rfl (lv_at hl 0 rfl) ?_
      refine va_get (D := (dC, dI)) (ci := 4) (C := RX5) (T := TX5) (N := 4) hx hb hts hiX5 hown hK hP 0 rfl rfl 2 (by decide) (hts (.fieldLink RX5 18 "PaddockFields$Maker" "count" "I") (List.mem_cons_of_mem _ (List.mem_append_left _ (List.mem_of_getElem? (i := 0) rfl)))) (fun _ h9 => h9) rfl dX5_put_31 ?_
      refine lv_iload_n hx hb dX5_put_34 rfl (lv_at hl 2 rfl) ?_
      obtain ⟨w2, h_w2, hf⟩ := hf_bind hf
      refine wh_stI (D := (dC, dI)) (ws' := (wl_fMaker_put cI cZ cJ cQ a_0 a_0first a_0last count_0 x_0 w1 w2)) hx hb hK hP hD hS 2 0 rfl rfl rfl h_w2 dX5_put_35 (fun H locs hP hD hS => ?_)
      refine lv_aload_n hx hb dX5_put_36 rfl (lv_at hl 0 rfl) ?_
      refine lv_dup hx hb dX5_put_37 rfl ?_
      refine va_get (D := (dC, dI)) (ci := 4) (C := RX5) (T := TX5) (N := 4) hx hb hts hiX5 hown hK hP 0 rfl rfl 2 (by decide) (hts (.fieldLink RX5 18 "PaddockFields$Maker" "count" "I") (List.mem_cons_of_mem _ (List.mem_append_left _ (List.mem_of_getElem? (i := 0) rfl)))) (fun _ h9 => h9) rfl dX5_put_38 ?_
      refine lv_iconst (v := 1) hx hb dX5_put_41 (by decide) ?_
      refine lv_iadd hx hb dX5_put_42 ?_
      refine wh_put (D := (dC, dI)) (ci := 4) (C := RX5) (T := TX5) (N := 4) (ty := .int) (v := .int (count_0 + (1 : Int32))) (ws' := (wl_fMaker_put cI cZ cJ cQ a_0 a_0first a_0last (count_0 + (1 : Int32)) x_0 w1 w2)) hx hb hts hiX5 tyX5 tyX5_ok nmX5 hown hK hP hD hS 0 rfl rfl 2 (by decide) (hts (.fieldLink RX5 18 "PaddockFields$Maker" "count" "I") (List.mem_cons_of_mem _ (List.mem_append_left _ (List.mem_of_getElem? (i := 0) rfl)))) (fun _ h9 => h9) rfl rfl rfl rfl (Nat.le_of_ble_eq_true rfl) rfl dX5_put_43 (fun H locs hP hD hS => ?_)
      obtain rfl := Option.some.inj hf
      exact hret _ _ _ _ hP hD hS dX5_put_46
set_option maxHeartbeats 4000000 in
set_option maxRecDepth 100000 in
theorem c_fMaker_firstLarge (l : Launch) (dC : Nat → ClassId) (dI : Nat → Nat → Nat) (cI cZ cJ cQ : ClassId) (a_0 a_0first a_0last : Nat) (x_0 : Int64) (sz : Nat) {F : Nat} {count_0 : Int32} {first_0 : Nat → Int32} {last_0 : Nat → Int32} {out : Int32} (hf : fMaker_firstLarge F count_0 first_0 last_0 = some out) : Met l yX5_firstLarge wsX5_firstLarge ({ frames := 2, cells := 0, slots := 0, locals := 42 } : Room) (va_Pc [.ref a_0] (wlP (dC, dI) (wlT cI cZ cJ cQ) (wl_fMaker_firstLarge cI cZ cJ cQ a_0 a_0first a_0last count_0 x_0 first_0 last_0) sz)) (va_Qi (fun (v : Int32) (_ : Unit) => v = out) (wlQ (dC, dI) (va_A (wl_fMaker_firstLarge cI cZ cJ cQ a_0 a_0first a_0last count_0 x_0 first_0 last_0) sz) (wl_fMaker_firstLarge cI cZ cJ cQ a_0 a_0first a_0last count_0 x_0 first_0 last_0)) (va_A (wl_fMaker_firstLarge cI cZ cJ cQ a_0 a_0first a_0last count_0 x_0 first_0 last_0) sz)) 0 0 (va_A (wl_fMaker_firstLarge cI cZ cJ cQ a_0 a_0first a_0last count_0 x_0 first_0 last_0) sz) := by
  refine wh_ofWi (lv := [(0, .ref a_0)]) RX5 (by decide) rfl rfl (Nat.le_of_ble_eq_true rfl) rfl ?_
  intro p e s m below meth c A QQ hx hb hml hown hts hP hK hN hD hA hret ls hl
  have hS : va_S A s.heap s.heap [] := va_S.rf
  have hiX5 : ∀ w ∈ wsX50, w ∈ wsX5_firstLarge := (fun _ h => List.mem_cons_of_mem _ (List.mem_append_right _ (h)))
  unfold fMaker_firstLarge at hf
  refine lv_iconst (v := 0) hx hb dX5_firstLarge_0 (by decide) ?_
  refine lv_istore_n (lv' := [(1, .int (0 : Int32)), (0, .ref a_0)]) hx hb dX5_firstLarge_1 rfl hl (by decide) rfl (fun ls hl => ?_)
  have hL_1 : ∀ (N : Nat) (l1_2 : Int32), fMaker_firstLarge_L2 F count_0 first_0 last_0 N l1_2 = some out → ∀ (H : Heap) (locs : List Loc) (ls : Array Slot), lv_has ls 2 [(0, .ref a_0), (1, .int l1_2)] → va_P (dC, dI) vwCl (wl_fMaker_firstLarge cI cZ cJ cQ a_0 a_0first a_0last count_0 x_0 first_0 last_0) H → va_D A (wl_fMaker_firstLarge cI cZ cJ cQ a_0 a_0first a_0last count_0 x_0 first_0 last_0) → va_S A s.heap H locs → W p l e ({ frames := 2, cells := 0, slots := 0, locals := 42 } : Room) s m [.ref a_0].toArray below meth c H locs 0 0 QQ (F0 m 2 ls []) := by
    intro N
    induction N with
    | zero => intro l1_2 hf; exact nomatch (show none = some _ from hf)
    | succ N ih =>
      intro l1_2 hf H locs ls hl hP hD hS
      rw [fMaker_firstLarge_L2] at hf
      refine lv_iload_n hx hb dX5_firstLarge_2 rfl (lv_at hl 1 rfl) ?_
      refine lv_aload_n hx hb dX5_firstLarge_3 rfl (lv_at hl 0 rfl) ?_
      refine va_get (D := (dC, dI)) (ci := 4) (C := RX5) (T := TX5) (N := 4) hx hb hts hiX5 hown hK hP 0 rfl rfl 2 (by decide) (hts (.fieldLink RX5 18 "PaddockFields$Maker" "count" "I") (List.mem_cons_of_mem _ (List.mem_append_left _ (List.mem_of_getElem? (i := 0) rfl)))) (fun _ h9 => h9) rfl dX5_firstLarge_4 ?_
      refine lv_icmp_ge (tgt := 44) hx hb dX5_firstLarge_7 (by decide) (fun cc => ?_) (fun cc => ?_)
      · replace hf := hf_pos cc hf
        refine lv_iconst (v := -1) hx hb dX5_firstLarge_44 (by decide) ?_
        obtain rfl := Option.some.inj hf
        exact hret _ _ _ _ hP hD hS dX5_firstLarge_45
      · replace hf := hf_neg cc hf
        refine lv_iload_n hx hb dX5_firstLarge_10 rfl (lv_at hl 1 rfl) ?_
        refine lv_bipush (v := 42) hx hb dX5_firstLarge_11 (by decide) ?_
        refine lv_icmp_ge (tgt := 44) hx hb dX5_firstLarge_13 (by decide) (fun cc => ?_) (fun cc => ?_)
        · replace hf := hf_pos cc hf
          refine lv_iconst (v := -1) hx hb dX5_firstLarge_44 (by decide) ?_
          obtain rfl := Option.some.inj hf
          exact hret _ _ _ _ hP hD hS dX5_firstLarge_45
        · replace hf := hf_neg cc hf
          refine lv_aload_n hx hb dX5_firstLarge_16 rfl (lv_at hl 0 rfl) ?_
          refine va_get (D := (dC, dI)) (ci := 4) (C := RX5) (T := TX5) (N := 4) hx hb hts hiX5 hown hK hP 0 rfl rfl 0 (by decide) (hts (.fieldLink RX5 9 "PaddockFields$Maker" "first" "[I") (List.mem_cons_of_mem _ (List.mem_append_left _ (List.mem_of_getElem? (i := 1) rfl)))) (fun _ h9 => h9) rfl dX5_firstLarge_17 ?_
          refine lv_iload_n hx hb dX5_firstLarge_20 rfl (lv_at hl 1 rfl) ?_
          obtain ⟨v1, h_v1, hf⟩ := hf_bind hf
          refine wh_ldI (D := (dC, dI)) hx hb hK hP 1 0 rfl rfl h_v1 dX5_firstLarge_21 ?_
          refine lv_aload_n hx hb dX5_firstLarge_22 rfl (lv_at hl 0 rfl) ?_
          refine va_get (D := (dC, dI)) (ci := 4) (C := RX5) (T := TX5) (N := 4) hx hb hts hiX5 hown hK hP 0 rfl rfl 1 (by decide) (hts (.fieldLink RX5 15 "PaddockFields$Maker" "last" "[I") (List.mem_cons_of_mem _ (List.mem_append_left _ (List.mem_of_getElem? (i := 2) rfl)))) (fun _ h9 => h9) rfl dX5_firstLarge_23 ?_
          refine lv_iload_n hx hb dX5_firstLarge_26 rfl (lv_at hl 1 rfl) ?_
          obtain ⟨v2, h_v2, hf⟩ := hf_bind hf
          refine wh_ldI (D := (dC, dI)) hx hb hK hP 2 0 rfl rfl h_v2 dX5_firstLarge_27 ?_
          obtain ⟨s3, h_s3, hf⟩ := hf_bind hf
          refine wh_calli (D := (dC, dI)) (ws' := (wl_fMaker_firstLarge cI cZ cJ cQ a_0 a_0first a_0last count_0 x_0 first_0 last_0)) (va_runSN (As := [.int v1, .int v2]) (rest := []) ⟨hx, hb, hml, hown, hts⟩ (c_fX_sizeOf l dC dI cI cZ cJ cQ _ h_s3) ⟨va_cnB 2 hts gX5_firstLarge_X9_sizeOf_n41 rfl rfl rfl (hN (RX5, 41, yX9_sizeOf) (List.mem_of_getElem? (i := 0) rfl)) (hts (.initialized RX9) (List.mem_cons_of_mem _ (List.mem_append_left _ (List.mem_of_getElem? (i := 4) rfl)))) (by decide +kernel) ⟨Nat.le_of_ble_eq_true rfl, Nat.le_of_ble_eq_true rfl⟩, (hts (.static yX9_sizeOf) (List.mem_cons_of_mem _ (List.mem_append_left _ (List.mem_of_getElem? (i := 3) rfl)))), trivial⟩ (wh_preS hK hN hP hD [] rfl rfl) rfl rfl hl.1 rfl (lv_room (Nat.le_of_ble_eq_true rfl)) dX5_firstLarge_28 ⟨Nat.le_refl _, Nat.le_refl _⟩) hP hD hS hA [] [0, 1, 2] [0, 1, 2] rfl rfl rfl rfl (fun H locs hP hD hS => ?_)
          refine lv_bipush (v := 6) hx hb dX5_firstLarge_31 (by decide) ?_
          refine lv_icmp_le (tgt := 38) hx hb dX5_firstLarge_33 (by decide) (fun cc => ?_) (fun cc => ?_)
          · replace hf := hf_pos cc hf
            refine lv_iinc (v := (l1_2 + (1 : Int32))) (lv' := [(1, .int (l1_2 + (1 : Int32))), (0, .ref a_0)]) hx hb dX5_firstLarge_38 hl (k := 1) rfl rfl (by decide) rfl (fun ls hl => ?_)
            refine lv_goto (tgt := 2) hx hb dX5_firstLarge_41 (by decide) ?_
            exact ih _ hf _ _ _ (lv_sub hl [1, 0] rfl) hP hD hS
          · replace hf := hf_neg cc hf
            refine lv_iload_n hx hb dX5_firstLarge_36 rfl (lv_at hl 1 rfl) ?_
            obtain rfl := Option.some.inj hf
            exact hret _ _ _ _ hP hD hS dX5_firstLarge_37
  exact hL_1 _ _ hf _ _ _ (lv_sub hl [1, 0] rfl) hP hD hS
set_option maxHeartbeats 4000000 in
set_option maxRecDepth 100000 in
theorem c_fMaker_drawBelow (l : Launch) (dC : Nat → ClassId) (dI : Nat → Nat → Nat) (cI cZ cJ cQ : ClassId) (a_0 a_0first a_0last : Nat) (count_0 : Int32) (sz : Nat) {x1 : Int32} {x_0 : Int64} {out : Int32 × Int64} (hf : fMaker_drawBelow x1 x_0 = some out) : Met l yX5_drawBelow wsX5_drawBelow ({ frames := 0, cells := 0, slots := 0, locals := 0 } : Room) (va_Pc [.ref a_0, .int x1] (wlP (dC, dI) (wlT cI cZ cJ cQ) (wl_fMaker_drawBelow cI cZ cJ cQ a_0 a_0first a_0last count_0 x_0) sz)) (va_Qi (fun (v : Int32) (_ : Unit) => v = out.1) (wlQ (dC, dI) (va_A (wl_fMaker_drawBelow cI cZ cJ cQ a_0 a_0first a_0last count_0 x_0) sz) (wl_fMaker_drawBelow cI cZ cJ cQ a_0 a_0first a_0last count_0 out.2)) (va_A (wl_fMaker_drawBelow cI cZ cJ cQ a_0 a_0first a_0last count_0 x_0) sz)) 0 0 (va_A (wl_fMaker_drawBelow cI cZ cJ cQ a_0 a_0first a_0last count_0 x_0) sz) := by
  refine wh_ofWi (lv := [(0, .ref a_0), (1, .int x1)]) RX5 (by decide) rfl rfl (Nat.le_of_ble_eq_true rfl) rfl ?_
  intro p e s m below meth c A QQ hx hb hml hown hts hP hK hN hD hA hret ls hl
  have hS : va_S A s.heap s.heap [] := va_S.rf
  have hiX5 : ∀ w ∈ wsX50, w ∈ wsX5_drawBelow := (fun _ h => List.mem_cons_of_mem _ (List.mem_append_right _ (h)))
  unfold fMaker_drawBelow at hf
  refine lv_aload_n hx hb dX5_drawBelow_0 rfl (lv_at hl 0 rfl) ?_
  refine lv_aload_n hx hb dX5_drawBelow_1 rfl (lv_at hl 0 rfl) ?_
  refine va_get (D := (dC, dI)) (ci := 4) (C := RX5) (T := TX5) (N := 4) hx hb hts hiX5 hown hK hP 0 rfl rfl 3 (by decide) (hts (.fieldLink RX5 22 "PaddockFields$Maker" "x" "J") (List.mem_cons_of_mem _ (List.mem_append_left _ (List.mem_of_getElem? (i := 0) rfl)))) (fun _ h9 => h9) rfl dX5_drawBelow_2 ?_
  refine lv_ldc2 hx hb hown (hts (.constantLong RX5 73 (1103515245)) (List.mem_cons_of_mem _ (List.mem_append_left _ (List.mem_of_getElem? (i := 1) rfl)))) dX5_drawBelow_5 ?_
  refine lv_lmul hx hb dX5_drawBelow_8 ?_
  refine lv_ldc2 hx hb hown (hts (.constantLong RX5 75 (12345)) (List.mem_cons_of_mem _ (List.mem_append_left _ (List.mem_of_getElem? (i := 2) rfl)))) dX5_drawBelow_9 ?_
  refine lv_ladd hx hb dX5_drawBelow_12 ?_
  refine lv_ldc2 hx hb hown (hts (.constantLong RX5 77 (2147483648)) (List.mem_cons_of_mem _ (List.mem_append_left _ (List.mem_of_getElem? (i := 3) rfl)))) dX5_drawBelow_13 ?_
  refine lv_lrem hx hb dX5_drawBelow_16 (by decide) ?_
  refine wh_put (D := (dC, dI)) (ci := 4) (C := RX5) (T := TX5) (N := 4) (ty := .long) (v := .long (((x_0 * (1103515245 : Int64)) + (12345 : Int64)) - ((x_0 * (1103515245 : Int64)) + (12345 : Int64)) / (2147483648 : Int64) * (2147483648 : Int64))) (ws' := (wl_fMaker_drawBelow cI cZ cJ cQ a_0 a_0first a_0last count_0 (((x_0 * (1103515245 : Int64)) + (12345 : Int64)) - ((x_0 * (1103515245 : Int64)) + (12345 : Int64)) / (2147483648 : Int64) * (2147483648 : Int64)))) hx hb hts hiX5 tyX5 tyX5_ok nmX5 hown hK hP hD hS 0 rfl rfl 3 (by decide) (hts (.fieldLink RX5 22 "PaddockFields$Maker" "x" "J") (List.mem_cons_of_mem _ (List.mem_append_left _ (List.mem_of_getElem? (i := 0) rfl)))) (fun _ h9 => h9) rfl rfl rfl rfl (Nat.le_of_ble_eq_true rfl) rfl dX5_drawBelow_17 (fun H locs hP hD hS => ?_)
  refine lv_iload_n hx hb dX5_drawBelow_20 rfl (lv_at hl 1 rfl) ?_
  refine lv_if_le (tgt := 39) hx hb dX5_drawBelow_21 (by decide) (fun cc => ?_) (fun cc => ?_)
  · replace hf := hf_pos cc hf
    refine lv_iconst (v := 0) hx hb dX5_drawBelow_39 (by decide) ?_
    obtain rfl := Option.some.inj hf
    exact hret _ _ _ _ hP hD hS dX5_drawBelow_40
  · replace hf := hf_neg cc hf
    refine lv_aload_n hx hb dX5_drawBelow_24 rfl (lv_at hl 0 rfl) ?_
    refine va_get (D := (dC, dI)) (ci := 4) (C := RX5) (T := TX5) (N := 4) hx hb hts hiX5 hown hK hP 0 rfl rfl 3 (by decide) (hts (.fieldLink RX5 22 "PaddockFields$Maker" "x" "J") (List.mem_cons_of_mem _ (List.mem_append_left _ (List.mem_of_getElem? (i := 0) rfl)))) (fun _ h9 => h9) rfl dX5_drawBelow_25 ?_
    refine lv_ldc2 hx hb hown (hts (.constantLong RX5 79 (65536)) (List.mem_cons_of_mem _ (List.mem_append_left _ (List.mem_of_getElem? (i := 4) rfl)))) dX5_drawBelow_28 ?_
    refine lv_ldiv hx hb dX5_drawBelow_31 (by decide) ?_
    refine lv_iload_n hx hb dX5_drawBelow_32 rfl (lv_at hl 1 rfl) ?_
    refine lv_i2l hx hb dX5_drawBelow_33 rfl ?_
    obtain ⟨v1, h_v1, hf⟩ := hf_bind hf
    refine wh_lrem hx hb h_v1 dX5_drawBelow_34 ?_
    refine lv_l2i hx hb dX5_drawBelow_35 rfl ?_
    refine lv_goto (tgt := 40) hx hb dX5_drawBelow_36 (by decide) ?_
    obtain rfl := Option.some.inj hf
    exact hret _ _ _ _ hP hD hS dX5_drawBelow_40
set_option maxHeartbeats 4000000 in
set_option maxRecDepth 100000 in
theorem c_fMaker_cut (l : Launch) (dC : Nat → ClassId) (dI : Nat → Nat → Nat) (cI cZ cJ cQ : ClassId) (a_0 a_0first a_0last : Nat) (sz : Nat) {x1 : Int32} {first_0 : Nat → Int32} {last_0 : Nat → Int32} {x_0 : Int64} {count_0 : Int32} {out : Int64 × (Nat → Int32) × (Nat → Int32) × Int32} (hf : fMaker_cut x1 first_0 last_0 x_0 count_0 = some out) : Met l yX5_cut wsX5_cut ({ frames := 1, cells := 0, slots := 0, locals := 22 } : Room) (va_Pc [.ref a_0, .int x1] (wlP (dC, dI) (wlT cI cZ cJ cQ) (wl_fMaker_cut cI cZ cJ cQ a_0 a_0first a_0last count_0 x_0 first_0 last_0) sz)) (va_Qv (fun (_ : Unit) => True) (wlQ (dC, dI) (va_A (wl_fMaker_cut cI cZ cJ cQ a_0 a_0first a_0last count_0 x_0 first_0 last_0) sz) (wl_fMaker_cut cI cZ cJ cQ a_0 a_0first a_0last out.2.2.2 out.1 out.2.2.1 out.2.1)) (va_A (wl_fMaker_cut cI cZ cJ cQ a_0 a_0first a_0last count_0 x_0 first_0 last_0) sz)) 0 0 (va_A (wl_fMaker_cut cI cZ cJ cQ a_0 a_0first a_0last count_0 x_0 first_0 last_0) sz) := by
  refine wh_ofWv (lv := [(0, .ref a_0), (1, .int x1)]) RX5 (by decide) rfl rfl (Nat.le_of_ble_eq_true rfl) rfl ?_
  intro p e s m below meth c A QQ hx hb hml hown hts hP hK hN hD hA hret ls hl
  have hS : va_S A s.heap s.heap [] := va_S.rf
  have hiX5 : ∀ w ∈ wsX50, w ∈ wsX5_cut := (fun _ h => List.mem_cons_of_mem _ (List.mem_append_right _ (h)))
  unfold fMaker_cut at hf
  refine lv_iload_n hx hb dX5_cut_0 rfl (lv_at hl 1 rfl) ?_
  refine lv_if_lt (tgt := 10) hx hb dX5_cut_1 (by decide) (fun cc => ?_) (fun cc => ?_)
  · replace hf := hf_pos cc hf
    obtain rfl := Option.some.inj hf
    exact hret _ _ _ _ hP hD hS dX5_cut_10
  · replace hf := hf_neg cc hf
    refine lv_iload_n hx hb dX5_cut_4 rfl (lv_at hl 1 rfl) ?_
    refine lv_bipush (v := 42) hx hb dX5_cut_5 (by decide) ?_
    refine lv_icmp_lt (tgt := 11) hx hb dX5_cut_7 (by decide) (fun cc => ?_) (fun cc => ?_)
    · replace hf := hf_pos cc hf
      refine lv_aload_n hx hb dX5_cut_11 rfl (lv_at hl 0 rfl) ?_
      refine va_get (D := (dC, dI)) (ci := 4) (C := RX5) (T := TX5) (N := 4) hx hb hts hiX5 hown hK hP 0 rfl rfl 0 (by decide) (hts (.fieldLink RX5 9 "PaddockFields$Maker" "first" "[I") (List.mem_cons_of_mem _ (List.mem_append_left _ (List.mem_of_getElem? (i := 0) rfl)))) (fun _ h9 => h9) rfl dX5_cut_12 ?_
      refine lv_iload_n hx hb dX5_cut_15 rfl (lv_at hl 1 rfl) ?_
      obtain ⟨v1, h_v1, hf⟩ := hf_bind hf
      refine wh_ldI (D := (dC, dI)) hx hb hK hP 1 0 rfl rfl h_v1 dX5_cut_16 ?_
      refine lv_istore_n (lv' := [(2, .int v1), (0, .ref a_0), (1, .int x1)]) hx hb dX5_cut_17 rfl hl (by decide) rfl (fun ls hl => ?_)
      refine lv_aload_n hx hb dX5_cut_18 rfl (lv_at hl 1 rfl) ?_
      refine va_get (D := (dC, dI)) (ci := 4) (C := RX5) (T := TX5) (N := 4) hx hb hts hiX5 hown hK hP 0 rfl rfl 1 (by decide) (hts (.fieldLink RX5 15 "PaddockFields$Maker" "last" "[I") (List.mem_cons_of_mem _ (List.mem_append_left _ (List.mem_of_getElem? (i := 1) rfl)))) (fun _ h9 => h9) rfl dX5_cut_19 ?_
      refine lv_iload_n hx hb dX5_cut_22 rfl (lv_at hl 2 rfl) ?_
      obtain ⟨v2, h_v2, hf⟩ := hf_bind hf
      refine wh_ldI (D := (dC, dI)) hx hb hK hP 2 0 rfl rfl h_v2 dX5_cut_23 ?_
      refine lv_istore_n (lv' := [(3, .int v2), (2, .int v1), (0, .ref a_0), (1, .int x1)]) hx hb dX5_cut_24 rfl hl (by decide) rfl (fun ls hl => ?_)
      refine lv_iload_n hx hb dX5_cut_25 rfl (lv_at hl 1 rfl) ?_
      refine lv_iload_n hx hb dX5_cut_26 rfl (lv_at hl 0 rfl) ?_
      obtain ⟨s3, h_s3, hf⟩ := hf_bind hf
      refine wh_calli (D := (dC, dI)) (ws' := (wl_fMaker_cut cI cZ cJ cQ a_0 a_0first a_0last count_0 x_0 first_0 last_0)) (va_runSN (As := [.int v1, .int v2]) (rest := []) ⟨hx, hb, hml, hown, hts⟩ (c_fX_rowsOf l dC dI cI cZ cJ cQ _ h_s3) ⟨va_cnB 2 hts gX5_cut_X9_rowsOf_n64 rfl rfl rfl (hN (RX5, 64, yX9_rowsOf) (List.mem_of_getElem? (i := 1) rfl)) (hts (.initialized RX9) (List.mem_cons_of_mem _ (List.mem_append_left _ (List.mem_of_getElem? (i := 3) rfl)))) (by decide +kernel) ⟨Nat.le_of_ble_eq_true rfl, Nat.le_of_ble_eq_true rfl⟩, (hts (.static yX9_rowsOf) (List.mem_cons_of_mem _ (List.mem_append_left _ (List.mem_of_getElem? (i := 2) rfl)))), trivial⟩ (wh_preS hK hN hP hD [] rfl rfl) rfl rfl hl.1 rfl (lv_room (Nat.le_of_ble_eq_true rfl)) dX5_cut_27 ⟨Nat.le_refl _, Nat.le_refl _⟩) hP hD hS hA [] [0, 1, 2] [0, 1, 2] rfl rfl rfl rfl (fun H locs hP hD hS => ?_)
      refine lv_istore (lv' := [(4, .int s3), (3, .int v2), (2, .int v1), (0, .ref a_0), (1, .int x1)]) hx hb dX5_cut_30 hl (by decide) rfl (fun ls hl => ?_)
      refine lv_iload_n hx hb dX5_cut_32 rfl (lv_at hl 2 rfl) ?_
      refine lv_iload_n hx hb dX5_cut_33 rfl (lv_at hl 1 rfl) ?_
      obtain ⟨s4, h_s4, hf⟩ := hf_bind hf
      refine wh_calli (D := (dC, dI)) (ws' := (wl_fMaker_cut cI cZ cJ cQ a_0 a_0first a_0last count_0 x_0 first_0 last_0)) (va_runSN (As := [.int v1, .int v2]) (rest := []) ⟨hx, hb, hml, hown, hts⟩ (c_fX_columnsOf l dC dI cI cZ cJ cQ _ h_s4) ⟨va_cnB 2 hts gX5_cut_X9_columnsOf_n67 rfl rfl rfl (hN (RX5, 67, yX9_columnsOf) (List.mem_of_getElem? (i := 2) rfl)) (hts (.initialized RX9) (List.mem_cons_of_mem _ (List.mem_append_left _ (List.mem_of_getElem? (i := 3) rfl)))) (by decide +kernel) ⟨Nat.le_of_ble_eq_true rfl, Nat.le_of_ble_eq_true rfl⟩, (hts (.static yX9_columnsOf) (List.mem_cons_of_mem _ (List.mem_append_left _ (List.mem_of_getElem? (i := 5) rfl)))), trivial⟩ (wh_preS hK hN hP hD [] rfl rfl) rfl rfl hl.1 rfl (lv_room (Nat.le_of_ble_eq_true rfl)) dX5_cut_34 ⟨Nat.le_refl _, Nat.le_refl _⟩) hP hD hS hA [] [0, 1, 2] [0, 1, 2] rfl rfl rfl rfl (fun H locs hP hD hS => ?_)
      refine lv_istore (lv' := [(5, .int s4), (4, .int s3), (3, .int v2), (2, .int v1), (0, .ref a_0), (1, .int x1)]) hx hb dX5_cut_37 hl (by decide) rfl (fun ls hl => ?_)
      refine lv_iload hx hb dX5_cut_39 (lv_at hl 1 rfl) ?_
      refine lv_iload hx hb dX5_cut_41 (lv_at hl 0 rfl) ?_
      refine lv_icmp_le (tgt := 95) hx hb dX5_cut_43 (by decide) (fun cc => ?_) (fun cc => ?_)
      · replace hf := hf_pos cc hf
        refine lv_aload_n hx hb dX5_cut_95 rfl (lv_at hl 4 rfl) ?_
        refine lv_iload hx hb dX5_cut_96 (lv_at hl 0 rfl) ?_
        refine lv_iconst (v := 1) hx hb dX5_cut_98 (by decide) ?_
        refine lv_isub hx hb dX5_cut_99 ?_
        obtain ⟨s5, h_s5, hf⟩ := hf_bind hf
        refine wh_calli (D := (dC, dI)) (ws' := (wl_fMaker_cut cI cZ cJ cQ a_0 a_0first a_0last count_0 s5.2 first_0 last_0)) (va_runV (As := [.int (s4 - (1 : Int32))]) (rest := []) ⟨hx, hb, hml, hown, hts⟩ (c_fMaker_drawBelow l dC dI cI cZ cJ cQ a_0 a_0first a_0last count_0 _ h_s5) (cwV 1 hts gX5_cut_X5_drawBelow rfl rfl rfl (by decide +kernel) ⟨Nat.le_of_ble_eq_true rfl, Nat.le_of_ble_eq_true rfl⟩) (wh_preV (C := RX5) (T := TX5) (N := 4) hK hN hP hD [0] rfl rfl 4 0 rfl rfl) rfl rfl hl.1 rfl (lv_room (Nat.le_of_ble_eq_true rfl)) dX5_cut_100 ⟨Nat.le_refl _, Nat.le_refl _⟩) hP hD hS hA [0] [1, 2] [2, 0, 1] rfl rfl rfl rfl (fun H locs hP hD hS => ?_)
        refine lv_iconst (v := 1) hx hb dX5_cut_103 (by decide) ?_
        refine lv_iadd hx hb dX5_cut_104 ?_
        refine lv_istore (lv' := [(6, .int (s5.1 + (1 : Int32))), (5, .int s4), (4, .int s3), (3, .int v2), (2, .int v1), (0, .ref a_0), (1, .int x1)]) hx hb dX5_cut_105 hl (by decide) rfl (fun ls hl => ?_)
        refine lv_aload_n hx hb dX5_cut_107 rfl (lv_at hl 5 rfl) ?_
        refine va_get (D := (dC, dI)) (ci := 4) (C := RX5) (T := TX5) (N := 4) hx hb hts hiX5 hown hK hP 0 rfl rfl 1 (by decide) (hts (.fieldLink RX5 15 "PaddockFields$Maker" "last" "[I") (List.mem_cons_of_mem _ (List.mem_append_left _ (List.mem_of_getElem? (i := 1) rfl)))) (fun _ h9 => h9) rfl dX5_cut_108 ?_
        refine lv_iload_n hx hb dX5_cut_111 rfl (lv_at hl 6 rfl) ?_
        refine lv_iload_n hx hb dX5_cut_112 rfl (lv_at hl 3 rfl) ?_
        refine lv_bipush (v := 7) hx hb dX5_cut_113 (by decide) ?_
        refine lv_idiv hx hb dX5_cut_115 (by decide) ?_
        refine lv_iload_n hx hb dX5_cut_116 rfl (lv_at hl 4 rfl) ?_
        refine lv_bipush (v := 7) hx hb dX5_cut_117 (by decide) ?_
        refine lv_irem hx hb dX5_cut_119 (by decide) ?_
        refine lv_iload hx hb dX5_cut_120 (lv_at hl 0 rfl) ?_
        refine lv_iadd hx hb dX5_cut_122 ?_
        refine lv_iconst (v := 1) hx hb dX5_cut_123 (by decide) ?_
        refine lv_isub hx hb dX5_cut_124 ?_
        obtain ⟨s6, h_s6, hf⟩ := hf_bind hf
        refine wh_calli (D := (dC, dI)) (ws' := (wl_fMaker_cut cI cZ cJ cQ a_0 a_0first a_0last count_0 s5.2 first_0 last_0)) (va_runSN (As := [.int (v2 / (7 : Int32)), .int (((v1 - v1 / (7 : Int32) * (7 : Int32)) + (s5.1 + (1 : Int32))) - (1 : Int32))]) (rest := [.int x1, .ref a_0last]) ⟨hx, hb, hml, hown, hts⟩ (c_fX_cellAt l dC dI cI cZ cJ cQ _ h_s6) ⟨va_cnB 2 hts gX5_cut_X9_cellAt_n70 rfl rfl rfl (hN (RX5, 70, yX9_cellAt) (List.mem_of_getElem? (i := 3) rfl)) (hts (.initialized RX9) (List.mem_cons_of_mem _ (List.mem_append_left _ (List.mem_of_getElem? (i := 3) rfl)))) (by decide +kernel) ⟨Nat.le_of_ble_eq_true rfl, Nat.le_of_ble_eq_true rfl⟩, (hts (.static yX9_cellAt) (List.mem_cons_of_mem _ (List.mem_append_left _ (List.mem_of_getElem? (i := 17) rfl)))), trivial⟩ (wh_preS hK hN hP hD [] rfl rfl) rfl rfl hl.1 rfl (lv_room (Nat.le_of_ble_eq_true rfl)) dX5_cut_125 ⟨Nat.le_refl _, Nat.le_refl _⟩) hP hD hS hA [] [0, 1, 2] [0, 1, 2] rfl rfl rfl rfl (fun H locs hP hD hS => ?_)
        obtain ⟨w7, h_w7, hf⟩ := hf_bind hf
        refine wh_stI (D := (dC, dI)) (ws' := (wl_fMaker_cut cI cZ cJ cQ a_0 a_0first a_0last count_0 s5.2 first_0 w7)) hx hb hK hP hD hS 2 0 rfl rfl rfl h_w7 dX5_cut_128 (fun H locs hP hD hS => ?_)
        refine lv_aload_n hx hb dX5_cut_129 rfl (lv_at hl 5 rfl) ?_
        refine lv_iload_n hx hb dX5_cut_130 rfl (lv_at hl 4 rfl) ?_
        refine lv_iload hx hb dX5_cut_131 (lv_at hl 0 rfl) ?_
        refine lv_iadd hx hb dX5_cut_133 ?_
        refine lv_iload_n hx hb dX5_cut_134 rfl (lv_at hl 3 rfl) ?_
        obtain ⟨s8, h_s8, hf⟩ := hf_bind hf
        refine wh_callv (D := (dC, dI)) (ws' := (wl_fMaker_cut cI cZ cJ cQ a_0 a_0first a_0last s8.2.2 s5.2 s8.1 s8.2.1)) (va_runV (As := [.int (v1 + (s5.1 + (1 : Int32))), .int v2]) (rest := []) ⟨hx, hb, hml, hown, hts⟩ (c_fMaker_put l dC dI cI cZ cJ cQ a_0 a_0first a_0last s5.2 _ h_s8) (cwV 2 hts gX5_cut_X5_put rfl rfl rfl (by decide +kernel) ⟨Nat.le_of_ble_eq_true rfl, Nat.le_of_ble_eq_true rfl⟩) (wh_preV (C := RX5) (T := TX5) (N := 4) hK hN hP hD [0, 1, 2] rfl rfl 4 0 rfl rfl) rfl rfl hl.1 rfl (lv_room (Nat.le_of_ble_eq_true rfl)) dX5_cut_135 ⟨Nat.le_refl _, Nat.le_refl _⟩) hP hD hS hA [0, 1, 2] [] [0, 1, 2] rfl rfl rfl rfl (fun H locs hP hD hS => ?_)
        obtain rfl := Option.some.inj hf
        exact hret _ _ _ _ hP hD hS dX5_cut_138
      · replace hf := hf_neg cc hf
        refine lv_aload_n hx hb dX5_cut_46 rfl (lv_at hl 4 rfl) ?_
        refine lv_iload hx hb dX5_cut_47 (lv_at hl 1 rfl) ?_
        refine lv_iconst (v := 1) hx hb dX5_cut_49 (by decide) ?_
        refine lv_isub hx hb dX5_cut_50 ?_
        obtain ⟨s9, h_s9, hf⟩ := hf_bind hf
        refine wh_calli (D := (dC, dI)) (ws' := (wl_fMaker_cut cI cZ cJ cQ a_0 a_0first a_0last count_0 s9.2 first_0 last_0)) (va_runV (As := [.int (s3 - (1 : Int32))]) (rest := []) ⟨hx, hb, hml, hown, hts⟩ (c_fMaker_drawBelow l dC dI cI cZ cJ cQ a_0 a_0first a_0last count_0 _ h_s9) (cwV 1 hts gX5_cut_X5_drawBelow rfl rfl rfl (by decide +kernel) ⟨Nat.le_of_ble_eq_true rfl, Nat.le_of_ble_eq_true rfl⟩) (wh_preV (C := RX5) (T := TX5) (N := 4) hK hN hP hD [0] rfl rfl 4 0 rfl rfl) rfl rfl hl.1 rfl (lv_room (Nat.le_of_ble_eq_true rfl)) dX5_cut_51 ⟨Nat.le_refl _, Nat.le_refl _⟩) hP hD hS hA [0] [1, 2] [2, 0, 1] rfl rfl rfl rfl (fun H locs hP hD hS => ?_)
        refine lv_iconst (v := 1) hx hb dX5_cut_54 (by decide) ?_
        refine lv_iadd hx hb dX5_cut_55 ?_
        refine lv_istore (lv' := [(6, .int (s9.1 + (1 : Int32))), (5, .int s4), (4, .int s3), (3, .int v2), (2, .int v1), (0, .ref a_0), (1, .int x1)]) hx hb dX5_cut_56 hl (by decide) rfl (fun ls hl => ?_)
        refine lv_aload_n hx hb dX5_cut_58 rfl (lv_at hl 5 rfl) ?_
        refine va_get (D := (dC, dI)) (ci := 4) (C := RX5) (T := TX5) (N := 4) hx hb hts hiX5 hown hK hP 0 rfl rfl 1 (by decide) (hts (.fieldLink RX5 15 "PaddockFields$Maker" "last" "[I") (List.mem_cons_of_mem _ (List.mem_append_left _ (List.mem_of_getElem? (i := 1) rfl)))) (fun _ h9 => h9) rfl dX5_cut_59 ?_
        refine lv_iload_n hx hb dX5_cut_62 rfl (lv_at hl 6 rfl) ?_
        refine lv_iload_n hx hb dX5_cut_63 rfl (lv_at hl 4 rfl) ?_
        refine lv_bipush (v := 7) hx hb dX5_cut_64 (by decide) ?_
        refine lv_idiv hx hb dX5_cut_66 (by decide) ?_
        refine lv_iload hx hb dX5_cut_67 (lv_at hl 0 rfl) ?_
        refine lv_iadd hx hb dX5_cut_69 ?_
        refine lv_iconst (v := 1) hx hb dX5_cut_70 (by decide) ?_
        refine lv_isub hx hb dX5_cut_71 ?_
        refine lv_iload_n hx hb dX5_cut_72 rfl (lv_at hl 3 rfl) ?_
        refine lv_bipush (v := 7) hx hb dX5_cut_73 (by decide) ?_
        refine lv_irem hx hb dX5_cut_75 (by decide) ?_
        obtain ⟨s10, h_s10, hf⟩ := hf_bind hf
        refine wh_calli (D := (dC, dI)) (ws' := (wl_fMaker_cut cI cZ cJ cQ a_0 a_0first a_0last count_0 s9.2 first_0 last_0)) (va_runSN (As := [.int (((v1 / (7 : Int32)) + (s9.1 + (1 : Int32))) - (1 : Int32)), .int (v2 - v2 / (7 : Int32) * (7 : Int32))]) (rest := [.int x1, .ref a_0last]) ⟨hx, hb, hml, hown, hts⟩ (c_fX_cellAt l dC dI cI cZ cJ cQ _ h_s10) ⟨va_cnB 2 hts gX5_cut_X9_cellAt_n70 rfl rfl rfl (hN (RX5, 70, yX9_cellAt) (List.mem_of_getElem? (i := 3) rfl)) (hts (.initialized RX9) (List.mem_cons_of_mem _ (List.mem_append_left _ (List.mem_of_getElem? (i := 3) rfl)))) (by decide +kernel) ⟨Nat.le_of_ble_eq_true rfl, Nat.le_of_ble_eq_true rfl⟩, (hts (.static yX9_cellAt) (List.mem_cons_of_mem _ (List.mem_append_left _ (List.mem_of_getElem? (i := 17) rfl)))), trivial⟩ (wh_preS hK hN hP hD [] rfl rfl) rfl rfl hl.1 rfl (lv_room (Nat.le_of_ble_eq_true rfl)) dX5_cut_76 ⟨Nat.le_refl _, Nat.le_refl _⟩) hP hD hS hA [] [0, 1, 2] [0, 1, 2] rfl rfl rfl rfl (fun H locs hP hD hS => ?_)
        obtain ⟨w11, h_w11, hf⟩ := hf_bind hf
        refine wh_stI (D := (dC, dI)) (ws' := (wl_fMaker_cut cI cZ cJ cQ a_0 a_0first a_0last count_0 s9.2 first_0 w11)) hx hb hK hP hD hS 2 0 rfl rfl rfl h_w11 dX5_cut_79 (fun H locs hP hD hS => ?_)
        refine lv_aload_n hx hb dX5_cut_80 rfl (lv_at hl 5 rfl) ?_
        refine lv_iload_n hx hb dX5_cut_81 rfl (lv_at hl 4 rfl) ?_
        refine lv_iload hx hb dX5_cut_82 (lv_at hl 0 rfl) ?_
        refine lv_bipush (v := 7) hx hb dX5_cut_84 (by decide) ?_
        refine lv_imul hx hb dX5_cut_86 ?_
        refine lv_iadd hx hb dX5_cut_87 ?_
        refine lv_iload_n hx hb dX5_cut_88 rfl (lv_at hl 3 rfl) ?_
        obtain ⟨s12, h_s12, hf⟩ := hf_bind hf
        refine wh_callv (D := (dC, dI)) (ws' := (wl_fMaker_cut cI cZ cJ cQ a_0 a_0first a_0last s12.2.2 s9.2 s12.1 s12.2.1)) (va_runV (As := [.int (v1 + ((s9.1 + (1 : Int32)) * (7 : Int32))), .int v2]) (rest := []) ⟨hx, hb, hml, hown, hts⟩ (c_fMaker_put l dC dI cI cZ cJ cQ a_0 a_0first a_0last s9.2 _ h_s12) (cwV 2 hts gX5_cut_X5_put rfl rfl rfl (by decide +kernel) ⟨Nat.le_of_ble_eq_true rfl, Nat.le_of_ble_eq_true rfl⟩) (wh_preV (C := RX5) (T := TX5) (N := 4) hK hN hP hD [0, 1, 2] rfl rfl 4 0 rfl rfl) rfl rfl hl.1 rfl (lv_room (Nat.le_of_ble_eq_true rfl)) dX5_cut_89 ⟨Nat.le_refl _, Nat.le_refl _⟩) hP hD hS hA [0, 1, 2] [] [0, 1, 2] rfl rfl rfl rfl (fun H locs hP hD hS => ?_)
        refine lv_goto (tgt := 138) hx hb dX5_cut_92 (by decide) ?_
        obtain rfl := Option.some.inj hf
        exact hret _ _ _ _ hP hD hS dX5_cut_138
    · replace hf := hf_neg cc hf
      obtain rfl := Option.some.inj hf
      exact hret _ _ _ _ hP hD hS dX5_cut_10
set_option maxHeartbeats 4000000 in
set_option maxRecDepth 100000 in
theorem c_fMaker_cutAll (l : Launch) (dC : Nat → ClassId) (dI : Nat → Nat → Nat) (cI cZ cJ cQ : ClassId) (a_0 a_0first a_0last : Nat) (sz : Nat) {F : Nat} {count_0 : Int32} {first_0 : Nat → Int32} {last_0 : Nat → Int32} {x_0 : Int64} {out : Int64 × (Nat → Int32) × (Nat → Int32) × Int32} (hf : fMaker_cutAll F count_0 first_0 last_0 x_0 = some out) : Met l yX5_cutAll wsX5_cutAll ({ frames := 3, cells := 0, slots := 0, locals := 63 } : Room) (va_Pc [.ref a_0] (wlP (dC, dI) (wlT cI cZ cJ cQ) (wl_fMaker_cutAll cI cZ cJ cQ a_0 a_0first a_0last count_0 x_0 first_0 last_0) sz)) (va_Qv (fun (_ : Unit) => True) (wlQ (dC, dI) (va_A (wl_fMaker_cutAll cI cZ cJ cQ a_0 a_0first a_0last count_0 x_0 first_0 last_0) sz) (wl_fMaker_cutAll cI cZ cJ cQ a_0 a_0first a_0last out.2.2.2 out.1 out.2.2.1 out.2.1)) (va_A (wl_fMaker_cutAll cI cZ cJ cQ a_0 a_0first a_0last count_0 x_0 first_0 last_0) sz)) 0 0 (va_A (wl_fMaker_cutAll cI cZ cJ cQ a_0 a_0first a_0last count_0 x_0 first_0 last_0) sz) := by
  refine wh_ofWv (lv := [(0, .ref a_0)]) RX5 (by decide) rfl rfl (Nat.le_of_ble_eq_true rfl) rfl ?_
  intro p e s m below meth c A QQ hx hb hml hown hts hP hK hN hD hA hret ls hl
  have hS : va_S A s.heap s.heap [] := va_S.rf
  unfold fMaker_cutAll at hf
  refine lv_iconst (v := 0) hx hb dX5_cutAll_0 (by decide) ?_
  refine lv_istore_n (lv' := [(1, .int (0 : Int32)), (0, .ref a_0)]) hx hb dX5_cutAll_1 rfl hl (by decide) rfl (fun ls hl => ?_)
  have hL_1 : ∀ (N : Nat) (l1_2 : Int32) (count_0_3 : Int32) (first_0_4 : Nat → Int32) (last_0_5 : Nat → Int32) (x_0_6 : Int64), fMaker_cutAll_L2 F N l1_2 count_0_3 first_0_4 last_0_5 x_0_6 = some out → ∀ (H : Heap) (locs : List Loc) (ls : Array Slot), lv_has ls 3 [(0, .ref a_0), (1, .int l1_2)] → va_P (dC, dI) vwCl (wl_fMaker_cutAll cI cZ cJ cQ a_0 a_0first a_0last count_0_3 x_0_6 first_0_4 last_0_5) H → va_D A (wl_fMaker_cutAll cI cZ cJ cQ a_0 a_0first a_0last count_0_3 x_0_6 first_0_4 last_0_5) → va_S A s.heap H locs → W p l e ({ frames := 3, cells := 0, slots := 0, locals := 63 } : Room) s m [.ref a_0].toArray below meth c H locs 0 0 QQ (F0 m 2 ls []) := by
    intro N
    induction N with
    | zero => intro l1_2 count_0_3 first_0_4 last_0_5 x_0_6 hf; exact nomatch (show none = some _ from hf)
    | succ N ih =>
      intro l1_2 count_0_3 first_0_4 last_0_5 x_0_6 hf H locs ls hl hP hD hS
      rw [fMaker_cutAll_L2] at hf
      refine lv_iload_n hx hb dX5_cutAll_2 rfl (lv_at hl 1 rfl) ?_
      refine lv_bipush (v := 42) hx hb dX5_cutAll_3 (by decide) ?_
      refine lv_icmp_ge (tgt := 29) hx hb dX5_cutAll_5 (by decide) (fun cc => ?_) (fun cc => ?_)
      · replace hf := hf_pos cc hf
        obtain rfl := Option.some.inj hf
        exact hret _ _ _ _ hP hD hS dX5_cutAll_29
      · replace hf := hf_neg cc hf
        refine lv_aload_n hx hb dX5_cutAll_8 rfl (lv_at hl 0 rfl) ?_
        obtain ⟨s1, h_s1, hf⟩ := hf_bind hf
        refine wh_calli (D := (dC, dI)) (ws' := (wl_fMaker_cutAll cI cZ cJ cQ a_0 a_0first a_0last count_0_3 x_0_6 first_0_4 last_0_5)) (va_runV (As := []) (rest := []) ⟨hx, hb, hml, hown, hts⟩ (c_fMaker_firstLarge l dC dI cI cZ cJ cQ a_0 a_0first a_0last x_0_6 _ h_s1) (cwV 0 hts gX5_cutAll_X5_firstLarge rfl rfl rfl (by decide +kernel) ⟨Nat.le_of_ble_eq_true rfl, Nat.le_of_ble_eq_true rfl⟩) (wh_preV (C := RX5) (T := TX5) (N := 4) hK hN hP hD [0, 1, 2] rfl rfl 4 0 rfl rfl) rfl rfl hl.1 rfl (lv_room (Nat.le_of_ble_eq_true rfl)) dX5_cutAll_9 ⟨Nat.le_refl _, Nat.le_refl _⟩) hP hD hS hA [0, 1, 2] [] [0, 1, 2] rfl rfl rfl rfl (fun H locs hP hD hS => ?_)
        refine lv_istore_n (lv' := [(2, .int s1), (0, .ref a_0), (1, .int l1_2)]) hx hb dX5_cutAll_12 rfl hl (by decide) rfl (fun ls hl => ?_)
        refine lv_iload_n hx hb dX5_cutAll_13 rfl (lv_at hl 0 rfl) ?_
        refine lv_if_ge (tgt := 18) hx hb dX5_cutAll_14 (by decide) (fun cc => ?_) (fun cc => ?_)
        · replace hf := hf_pos cc hf
          refine lv_aload_n hx hb dX5_cutAll_18 rfl (lv_at hl 1 rfl) ?_
          refine lv_iload_n hx hb dX5_cutAll_19 rfl (lv_at hl 0 rfl) ?_
          obtain ⟨s2, h_s2, hf⟩ := hf_bind hf
          refine wh_callv (D := (dC, dI)) (ws' := (wl_fMaker_cutAll cI cZ cJ cQ a_0 a_0first a_0last s2.2.2.2 s2.1 s2.2.2.1 s2.2.1)) (va_runV (As := [.int s1]) (rest := []) ⟨hx, hb, hml, hown, hts⟩ (c_fMaker_cut l dC dI cI cZ cJ cQ a_0 a_0first a_0last _ h_s2) (cwV 1 hts gX5_cutAll_X5_cut rfl rfl rfl (by decide +kernel) ⟨Nat.le_of_ble_eq_true rfl, Nat.le_of_ble_eq_true rfl⟩) (wh_preV (C := RX5) (T := TX5) (N := 4) hK hN hP hD [0, 1, 2] rfl rfl 4 0 rfl rfl) rfl rfl hl.1 rfl (lv_room (Nat.le_of_ble_eq_true rfl)) dX5_cutAll_20 ⟨Nat.le_refl _, Nat.le_refl _⟩) hP hD hS hA [0, 1, 2] [] [0, 1, 2] rfl rfl rfl rfl (fun H locs hP hD hS => ?_)
          refine lv_iinc (v := (l1_2 + (1 : Int32))) (lv' := [(1, .int (l1_2 + (1 : Int32))), (2, .int s1), (0, .ref a_0)]) hx hb dX5_cutAll_23 hl (k := 2) rfl rfl (by decide) rfl (fun ls hl => ?_)
          refine lv_goto (tgt := 2) hx hb dX5_cutAll_26 (by decide) ?_
          exact ih _ _ _ _ _ hf _ _ _ (lv_sub hl [2, 0] rfl) hP hD hS
        · replace hf := hf_neg cc hf
          obtain rfl := Option.some.inj hf
          exact hret _ _ _ _ hP hD hS dX5_cutAll_17
  exact hL_1 _ _ _ _ _ _ hf _ _ _ (lv_sub hl [1, 0] rfl) hP hD hS
set_option maxHeartbeats 4000000 in
set_option maxRecDepth 100000 in
theorem c_fMaker_cellInside (l : Launch) (dC : Nat → ClassId) (dI : Nat → Nat → Nat) (cI cZ cJ cQ : ClassId) (sz : Nat) {x0 : Int32} {x1 : Int32} {x2 : Int32} {out : Int32} (hf : fMaker_cellInside x0 x1 x2 = some out) : Met l yX5_cellInside wsX5_cellInside ({ frames := 1, cells := 0, slots := 0, locals := 21 } : Room) (va_Pc [.int x0, .int x1, .int x2] (wlP (dC, dI) (wlT cI cZ cJ cQ) (wl_fMaker_cellInside cI cZ cJ cQ) sz)) (va_Qi (fun (v : Int32) (_ : Unit) => v = out) (wlQ (dC, dI) (va_A (wl_fMaker_cellInside cI cZ cJ cQ) sz) (wl_fMaker_cellInside cI cZ cJ cQ)) (va_A (wl_fMaker_cellInside cI cZ cJ cQ) sz)) 0 0 (va_A (wl_fMaker_cellInside cI cZ cJ cQ) sz) := by
  refine wh_ofWi (lv := [(0, .int x0), (1, .int x1), (2, .int x2)]) RX5 (by decide) rfl rfl (Nat.le_of_ble_eq_true rfl) rfl ?_
  intro p e s m below meth c A QQ hx hb hml hown hts hP hK hN hD hA hret ls hl
  have hS : va_S A s.heap s.heap [] := va_S.rf
  unfold fMaker_cellInside at hf
  refine lv_iload_n hx hb dX5_cellInside_0 rfl (lv_at hl 0 rfl) ?_
  refine lv_iload_n hx hb dX5_cellInside_1 rfl (lv_at hl 1 rfl) ?_
  obtain ⟨s1, h_s1, hf⟩ := hf_bind hf
  refine wh_calli (D := (dC, dI)) (ws' := (wl_fMaker_cellInside cI cZ cJ cQ)) (va_runSN (As := [.int x0, .int x1]) (rest := []) ⟨hx, hb, hml, hown, hts⟩ (c_fX_columnsOf l dC dI cI cZ cJ cQ _ h_s1) ⟨va_cnB 2 hts gX5_cellInside_X9_columnsOf_n67 rfl rfl rfl (hN (RX5, 67, yX9_columnsOf) (List.mem_of_getElem? (i := 2) rfl)) (hts (.initialized RX9) (List.mem_cons_of_mem _ (List.mem_of_getElem? (i := 1) rfl))) (by decide +kernel) ⟨Nat.le_of_ble_eq_true rfl, Nat.le_of_ble_eq_true rfl⟩, (hts (.static yX9_columnsOf) (List.mem_cons_of_mem _ (List.mem_of_getElem? (i := 0) rfl))), trivial⟩ (wh_preS hK hN hP hD [] rfl rfl) rfl rfl hl.1 rfl (lv_room (Nat.le_of_ble_eq_true rfl)) dX5_cellInside_2 ⟨Nat.le_refl _, Nat.le_refl _⟩) hP hD hS hA [] [] [] rfl rfl rfl rfl (fun H locs hP hD hS => ?_)
  refine lv_istore_n (lv' := [(3, .int s1), (0, .int x0), (1, .int x1), (2, .int x2)]) hx hb dX5_cellInside_5 rfl hl (by decide) rfl (fun ls hl => ?_)
  refine lv_iload_n hx hb dX5_cellInside_6 rfl (lv_at hl 0 rfl) ?_
  refine lv_if_le (tgt := 25) hx hb dX5_cellInside_7 (by decide) (fun cc => ?_) (fun cc => ?_)
  · replace hf := hf_pos cc hf
    refine lv_iload_n hx hb dX5_cellInside_25 rfl (lv_at hl 1 rfl) ?_
    obtain rfl := Option.some.inj hf
    exact hret _ _ _ _ hP hD hS dX5_cellInside_26
  · replace hf := hf_neg cc hf
    refine lv_iload_n hx hb dX5_cellInside_10 rfl (lv_at hl 1 rfl) ?_
    refine lv_iload_n hx hb dX5_cellInside_11 rfl (lv_at hl 3 rfl) ?_
    refine lv_iload_n hx hb dX5_cellInside_12 rfl (lv_at hl 0 rfl) ?_
    obtain ⟨v2, h_v2, hf⟩ := hf_bind hf
    refine wh_idiv hx hb h_v2 dX5_cellInside_13 ?_
    refine lv_bipush (v := 7) hx hb dX5_cellInside_14 (by decide) ?_
    refine lv_imul hx hb dX5_cellInside_16 ?_
    refine lv_iadd hx hb dX5_cellInside_17 ?_
    refine lv_iload_n hx hb dX5_cellInside_18 rfl (lv_at hl 3 rfl) ?_
    refine lv_iload_n hx hb dX5_cellInside_19 rfl (lv_at hl 0 rfl) ?_
    obtain ⟨v3, h_v3, hf⟩ := hf_bind hf
    refine wh_irem hx hb h_v3 dX5_cellInside_20 ?_
    refine lv_iadd hx hb dX5_cellInside_21 ?_
    refine lv_goto (tgt := 26) hx hb dX5_cellInside_22 (by decide) ?_
    obtain rfl := Option.some.inj hf
    exact hret _ _ _ _ hP hD hS dX5_cellInside_26
set_option maxHeartbeats 4000000 in
set_option maxRecDepth 100000 in
theorem c_fMaker_writeNumbers (l : Launch) (dC : Nat → ClassId) (dI : Nat → Nat → Nat) (cI cZ cJ cQ : ClassId) (a_1 a_1inField a_1number a_0 a_0first a_0last a_1first a_1last : Nat) (sz : Nat) {F : Nat} {x2 : Int32} {inField_1 : Nat → Int32} {number_1 : Nat → Int32} {x_0 : Int64} {count_0 : Int32} {first_0 : Nat → Int32} {last_0 : Nat → Int32} {out : (Nat → Int32) × (Nat → Int32) × Int64 × Int32 × (Nat → Int32) × (Nat → Int32)} (hf : fMaker_writeNumbers F x2 inField_1 number_1 x_0 count_0 first_0 last_0 = some out) : Met l yX5_writeNumbers wsX5_writeNumbers ({ frames := 4, cells := 0, slots := 0, locals := 85 } : Room) (va_Pc [.ref a_0, .ref a_1, .int x2] (wlP (dC, dI) (wlT cI cZ cJ cQ) (wl_fMaker_writeNumbers cI cZ cJ cQ a_1 a_1inField a_1number a_0 a_0first a_0last a_1first a_1last inField_1 number_1 count_0 x_0 first_0 last_0) sz)) (va_Qv (fun (_ : Unit) => True) (wlQ (dC, dI) (va_A (wl_fMaker_writeNumbers cI cZ cJ cQ a_1 a_1inField a_1number a_0 a_0first a_0last a_1first a_1last inField_1 number_1 count_0 x_0 first_0 last_0) sz) (wl_fMaker_writeNumbers cI cZ cJ cQ a_1 a_1inField a_1number a_0 a_0first a_0last a_1first a_1last out.1 out.2.1 out.2.2.2.1 out.2.2.1 out.2.2.2.2.1 out.2.2.2.2.2)) (va_A (wl_fMaker_writeNumbers cI cZ cJ cQ a_1 a_1inField a_1number a_0 a_0first a_0last a_1first a_1last inField_1 number_1 count_0 x_0 first_0 last_0) sz)) 0 0 (va_A (wl_fMaker_writeNumbers cI cZ cJ cQ a_1 a_1inField a_1number a_0 a_0first a_0last a_1first a_1last inField_1 number_1 count_0 x_0 first_0 last_0) sz) := by
  refine wh_ofWv (lv := [(0, .ref a_0), (1, .ref a_1), (2, .int x2)]) RX5 (by decide) rfl rfl (Nat.le_of_ble_eq_true rfl) rfl ?_
  intro p e s m below meth c A QQ hx hb hml hown hts hP hK hN hD hA hret ls hl
  have hS : va_S A s.heap s.heap [] := va_S.rf
  have hiX5 : ∀ w ∈ wsX50, w ∈ wsX5_writeNumbers := (fun _ h => List.mem_cons_of_mem _ (List.mem_append_left _ (List.mem_append_right _ (h))))
  unfold fMaker_writeNumbers at hf
  refine lv_aload_n hx hb dX5_writeNumbers_0 rfl (lv_at hl 1 rfl) ?_
  obtain ⟨s1, h_s1, hf⟩ := hf_bind hf
  refine wh_callv (D := (dC, dI)) (ws' := (wl_fMaker_writeNumbers cI cZ cJ cQ a_1 a_1inField a_1number a_0 a_0first a_0last a_1first a_1last s1 number_1 count_0 x_0 first_0 last_0)) (va_runV (As := []) (rest := []) ⟨hx, hb, hml, hown, hts⟩ (c_fBoard_removeFields l dC dI cI cZ cJ cQ a_1 a_1inField a_1number a_1first a_1last _ h_s1) (cwV 0 hts gX5_writeNumbers_X0_removeFields rfl rfl rfl (by decide +kernel) ⟨Nat.le_of_ble_eq_true rfl, Nat.le_of_ble_eq_true rfl⟩) (wh_preV (C := RX0) (T := TX0) (N := 4) hK hN hP hD [0, 1] rfl rfl 0 0 rfl rfl) rfl rfl hl.1 rfl (lv_room (Nat.le_of_ble_eq_true rfl)) dX5_writeNumbers_1 ⟨Nat.le_refl _, Nat.le_refl _⟩) hP hD hS hA [0, 1] [2, 3, 4, 5] [4, 5, 0, 1, 2, 3] rfl rfl rfl rfl (fun H locs hP hD hS => ?_)
  refine lv_aload_n hx hb dX5_writeNumbers_4 rfl (lv_at hl 1 rfl) ?_
  obtain ⟨s2, h_s2, hf⟩ := hf_bind hf
  refine wh_callv (D := (dC, dI)) (ws' := (wl_fMaker_writeNumbers cI cZ cJ cQ a_1 a_1inField a_1number a_0 a_0first a_0last a_1first a_1last s1 s2 count_0 x_0 first_0 last_0)) (va_runV (As := []) (rest := []) ⟨hx, hb, hml, hown, hts⟩ (c_fBoard_removeNumbers l dC dI cI cZ cJ cQ a_1 a_1number a_1inField a_1first a_1last _ h_s2) (cwV 0 hts gX5_writeNumbers_X0_removeNumbers rfl rfl rfl (by decide +kernel) ⟨Nat.le_of_ble_eq_true rfl, Nat.le_of_ble_eq_true rfl⟩) (wh_preV (C := RX0) (T := TX0) (N := 4) hK hN hP hD [0, 2] rfl rfl 0 0 rfl rfl) rfl rfl hl.1 rfl (lv_room (Nat.le_of_ble_eq_true rfl)) dX5_writeNumbers_5 ⟨Nat.le_refl _, Nat.le_refl _⟩) hP hD hS hA [0, 2] [1, 3, 4, 5] [4, 0, 5, 1, 2, 3] rfl rfl rfl rfl (fun H locs hP hD hS => ?_)
  refine lv_aload_n hx hb dX5_writeNumbers_8 rfl (lv_at hl 0 rfl) ?_
  refine lv_iload_n hx hb dX5_writeNumbers_9 rfl (lv_at hl 2 rfl) ?_
  refine lv_i2l hx hb dX5_writeNumbers_10 rfl ?_
  refine wh_put (D := (dC, dI)) (ci := 4) (C := RX5) (T := TX5) (N := 4) (ty := .long) (v := .long x2.toInt64) (ws' := (wl_fMaker_writeNumbers cI cZ cJ cQ a_1 a_1inField a_1number a_0 a_0first a_0last a_1first a_1last s1 s2 count_0 x2.toInt64 first_0 last_0)) hx hb hts hiX5 tyX5 tyX5_ok nmX5 hown hK hP hD hS 3 rfl rfl 3 (by decide) (hts (.fieldLink RX5 22 "PaddockFields$Maker" "x" "J") (List.mem_cons_of_mem _ (List.mem_append_left _ (List.mem_append_left _ (List.mem_append_left _ (List.mem_of_getElem? (i := 0) rfl)))))) (fun _ h9 => h9) rfl rfl rfl rfl (Nat.le_of_ble_eq_true rfl) rfl dX5_writeNumbers_11 (fun H locs hP hD hS => ?_)
  refine lv_aload_n hx hb dX5_writeNumbers_14 rfl (lv_at hl 0 rfl) ?_
  refine lv_iconst (v := 0) hx hb dX5_writeNumbers_15 (by decide) ?_
  refine wh_put (D := (dC, dI)) (ci := 4) (C := RX5) (T := TX5) (N := 4) (ty := .int) (v := .int (0 : Int32)) (ws' := (wl_fMaker_writeNumbers cI cZ cJ cQ a_1 a_1inField a_1number a_0 a_0first a_0last a_1first a_1last s1 s2 (0 : Int32) x2.toInt64 first_0 last_0)) hx hb hts hiX5 tyX5 tyX5_ok nmX5 hown hK hP hD hS 3 rfl rfl 2 (by decide) (hts (.fieldLink RX5 18 "PaddockFields$Maker" "count" "I") (List.mem_cons_of_mem _ (List.mem_append_left _ (List.mem_append_left _ (List.mem_append_left _ (List.mem_of_getElem? (i := 1) rfl)))))) (fun _ h9 => h9) rfl rfl rfl rfl (Nat.le_of_ble_eq_true rfl) rfl dX5_writeNumbers_16 (fun H locs hP hD hS => ?_)
  refine lv_aload_n hx hb dX5_writeNumbers_19 rfl (lv_at hl 0 rfl) ?_
  refine lv_iconst (v := 0) hx hb dX5_writeNumbers_20 (by decide) ?_
  refine lv_bipush (v := 41) hx hb dX5_writeNumbers_21 (by decide) ?_
  obtain ⟨s3, h_s3, hf⟩ := hf_bind hf
  refine wh_callv (D := (dC, dI)) (ws' := (wl_fMaker_writeNumbers cI cZ cJ cQ a_1 a_1inField a_1number a_0 a_0first a_0last a_1first a_1last s1 s2 s3.2.2 x2.toInt64 s3.1 s3.2.1)) (va_runV (As := [.int (0 : Int32), .int (41 : Int32)]) (rest := []) ⟨hx, hb, hml, hown, hts⟩ (c_fMaker_put l dC dI cI cZ cJ cQ a_0 a_0first a_0last x2.toInt64 _ h_s3) (cwV 2 hts gX5_writeNumbers_X5_put rfl rfl rfl (by decide +kernel) ⟨Nat.le_of_ble_eq_true rfl, Nat.le_of_ble_eq_true rfl⟩) (wh_preV (C := RX5) (T := TX5) (N := 4) hK hN hP hD [3, 4, 5] rfl rfl 4 0 rfl rfl) rfl rfl hl.1 rfl (lv_room (Nat.le_of_ble_eq_true rfl)) dX5_writeNumbers_23 ⟨Nat.le_refl _, Nat.le_refl _⟩) hP hD hS hA [3, 4, 5] [0, 1, 2] [0, 1, 2, 3, 4, 5] rfl rfl rfl rfl (fun H locs hP hD hS => ?_)
  refine lv_aload_n hx hb dX5_writeNumbers_26 rfl (lv_at hl 0 rfl) ?_
  obtain ⟨s4, h_s4, hf⟩ := hf_bind hf
  refine wh_callv (D := (dC, dI)) (ws' := (wl_fMaker_writeNumbers cI cZ cJ cQ a_1 a_1inField a_1number a_0 a_0first a_0last a_1first a_1last s1 s2 s4.2.2.2 s4.1 s4.2.2.1 s4.2.1)) (va_runV (As := []) (rest := []) ⟨hx, hb, hml, hown, hts⟩ (c_fMaker_cutAll l dC dI cI cZ cJ cQ a_0 a_0first a_0last _ h_s4) (cwV 0 hts gX5_writeNumbers_X5_cutAll rfl rfl rfl (by decide +kernel) ⟨Nat.le_of_ble_eq_true rfl, Nat.le_of_ble_eq_true rfl⟩) (wh_preV (C := RX5) (T := TX5) (N := 4) hK hN hP hD [3, 4, 5] rfl rfl 4 0 rfl rfl) rfl rfl hl.1 rfl (lv_room (Nat.le_of_ble_eq_true rfl)) dX5_writeNumbers_27 ⟨Nat.le_refl _, Nat.le_refl _⟩) hP hD hS hA [3, 4, 5] [0, 1, 2] [0, 1, 2, 3, 4, 5] rfl rfl rfl rfl (fun H locs hP hD hS => ?_)
  refine lv_iconst (v := 0) hx hb dX5_writeNumbers_30 (by decide) ?_
  refine lv_istore_n (lv' := [(3, .int (0 : Int32)), (0, .ref a_0), (1, .ref a_1), (2, .int x2)]) hx hb dX5_writeNumbers_31 rfl hl (by decide) rfl (fun ls hl => ?_)
  obtain ⟨r13, h_r13, hf⟩ := hf_bind hf
  have hE_1 : ∀ (H : Heap) (locs : List Loc) (ls : Array Slot), lv_has ls 5 [] → va_P (dC, dI) vwCl (wl_fMaker_writeNumbers cI cZ cJ cQ a_1 a_1inField a_1number a_0 a_0first a_0last a_1first a_1last s1 r13.2.2 s4.2.2.2 r13.2.1 s4.2.2.1 s4.2.1) H → va_D A (wl_fMaker_writeNumbers cI cZ cJ cQ a_1 a_1inField a_1number a_0 a_0first a_0last a_1first a_1last s1 r13.2.2 s4.2.2.2 r13.2.1 s4.2.2.1 s4.2.1) → va_S A s.heap H locs → W p l e ({ frames := 4, cells := 0, slots := 0, locals := 85 } : Room) s m [.ref a_0, .ref a_1, .int x2].toArray below meth c H locs 0 0 QQ (F0 m 96 ls []) := by
    intro H locs ls hl hP hD hS
    obtain rfl := Option.some.inj hf
    exact hret _ _ _ _ hP hD hS dX5_writeNumbers_96
  have hL_2 : ∀ (N : Nat) (l3_3 : Int32) (x_0_4 : Int64) (number_1_5 : Nat → Int32), fMaker_writeNumbers_L32 F s4.2.2.2 s4.2.2.1 s4.2.1 N l3_3 x_0_4 number_1_5 = some r13 → ∀ (H : Heap) (locs : List Loc) (ls : Array Slot), lv_has ls 5 [(0, .ref a_0), (1, .ref a_1), (3, .int l3_3)] → va_P (dC, dI) vwCl (wl_fMaker_writeNumbers cI cZ cJ cQ a_1 a_1inField a_1number a_0 a_0first a_0last a_1first a_1last s1 number_1_5 s4.2.2.2 x_0_4 s4.2.2.1 s4.2.1) H → va_D A (wl_fMaker_writeNumbers cI cZ cJ cQ a_1 a_1inField a_1number a_0 a_0first a_0last a_1first a_1last s1 number_1_5 s4.2.2.2 x_0_4 s4.2.2.1 s4.2.1) → va_S A s.heap H locs → W p l e ({ frames := 4, cells := 0, slots := 0, locals := 85 } : Room) s m [.ref a_0, .ref a_1, .int x2].toArray below meth c H locs 0 0 QQ (F0 m 32 ls []) := by
    intro N
    induction N with
    | zero => intro l3_3 x_0_4 number_1_5 hf; exact nomatch (show none = some _ from hf)
    | succ N ih =>
      intro l3_3 x_0_4 number_1_5 hf H locs ls hl hP hD hS
      rw [fMaker_writeNumbers_L32] at hf
      refine lv_iload_n hx hb dX5_writeNumbers_32 rfl (lv_at hl 2 rfl) ?_
      refine lv_aload_n hx hb dX5_writeNumbers_33 rfl (lv_at hl 0 rfl) ?_
      refine va_get (D := (dC, dI)) (ci := 4) (C := RX5) (T := TX5) (N := 4) hx hb hts hiX5 hown hK hP 3 rfl rfl 2 (by decide) (hts (.fieldLink RX5 18 "PaddockFields$Maker" "count" "I") (List.mem_cons_of_mem _ (List.mem_append_left _ (List.mem_append_left _ (List.mem_append_left _ (List.mem_of_getElem? (i := 1) rfl)))))) (fun _ h9 => h9) rfl dX5_writeNumbers_34 ?_
      refine lv_icmp_ge (tgt := 96) hx hb dX5_writeNumbers_37 (by decide) (fun cc => ?_) (fun cc => ?_)
      · replace hf := hf_pos cc hf
        obtain rfl := Option.some.inj hf
        exact hE_1 _ _ _ (lv_sub hl [] rfl) hP hD hS
      · replace hf := hf_neg cc hf
        refine lv_iload_n hx hb dX5_writeNumbers_40 rfl (lv_at hl 2 rfl) ?_
        refine lv_bipush (v := 42) hx hb dX5_writeNumbers_41 (by decide) ?_
        refine lv_icmp_ge (tgt := 96) hx hb dX5_writeNumbers_43 (by decide) (fun cc => ?_) (fun cc => ?_)
        · replace hf := hf_pos cc hf
          obtain rfl := Option.some.inj hf
          exact hE_1 _ _ _ (lv_sub hl [] rfl) hP hD hS
        · replace hf := hf_neg cc hf
          refine lv_aload_n hx hb dX5_writeNumbers_46 rfl (lv_at hl 0 rfl) ?_
          refine va_get (D := (dC, dI)) (ci := 4) (C := RX5) (T := TX5) (N := 4) hx hb hts hiX5 hown hK hP 3 rfl rfl 0 (by decide) (hts (.fieldLink RX5 9 "PaddockFields$Maker" "first" "[I") (List.mem_cons_of_mem _ (List.mem_append_left _ (List.mem_append_left _ (List.mem_append_left _ (List.mem_of_getElem? (i := 2) rfl)))))) (fun _ h9 => h9) rfl dX5_writeNumbers_47 ?_
          refine lv_iload_n hx hb dX5_writeNumbers_50 rfl (lv_at hl 2 rfl) ?_
          obtain ⟨v5, h_v5, hf⟩ := hf_bind hf
          refine wh_ldI (D := (dC, dI)) hx hb hK hP 4 0 rfl rfl h_v5 dX5_writeNumbers_51 ?_
          refine lv_aload_n hx hb dX5_writeNumbers_52 rfl (lv_at hl 0 rfl) ?_
          refine va_get (D := (dC, dI)) (ci := 4) (C := RX5) (T := TX5) (N := 4) hx hb hts hiX5 hown hK hP 3 rfl rfl 1 (by decide) (hts (.fieldLink RX5 15 "PaddockFields$Maker" "last" "[I") (List.mem_cons_of_mem _ (List.mem_append_left _ (List.mem_append_left _ (List.mem_append_left _ (List.mem_of_getElem? (i := 3) rfl)))))) (fun _ h9 => h9) rfl dX5_writeNumbers_53 ?_
          refine lv_iload_n hx hb dX5_writeNumbers_56 rfl (lv_at hl 2 rfl) ?_
          obtain ⟨v6, h_v6, hf⟩ := hf_bind hf
          refine wh_ldI (D := (dC, dI)) hx hb hK hP 5 0 rfl rfl h_v6 dX5_writeNumbers_57 ?_
          obtain ⟨s7, h_s7, hf⟩ := hf_bind hf
          refine wh_calli (D := (dC, dI)) (ws' := (wl_fMaker_writeNumbers cI cZ cJ cQ a_1 a_1inField a_1number a_0 a_0first a_0last a_1first a_1last s1 number_1_5 s4.2.2.2 x_0_4 s4.2.2.1 s4.2.1)) (va_runSN (As := [.int v5, .int v6]) (rest := []) ⟨hx, hb, hml, hown, hts⟩ (c_fX_sizeOf l dC dI cI cZ cJ cQ _ h_s7) ⟨va_cnB 2 hts gX5_writeNumbers_X9_sizeOf_n41 rfl rfl rfl (hN (RX5, 41, yX9_sizeOf) (List.mem_of_getElem? (i := 0) rfl)) (hts (.initialized RX9) (List.mem_cons_of_mem _ (List.mem_append_left _ (List.mem_append_left _ (List.mem_append_right _ (List.mem_append_left _ (List.mem_of_getElem? (i := 5) rfl))))))) (by decide +kernel) ⟨Nat.le_of_ble_eq_true rfl, Nat.le_of_ble_eq_true rfl⟩, (hts (.static yX9_sizeOf) (List.mem_cons_of_mem _ (List.mem_append_left _ (List.mem_append_left _ (List.mem_append_right _ (List.mem_append_left _ (List.mem_of_getElem? (i := 4) rfl))))))), trivial⟩ (wh_preS hK hN hP hD [] rfl rfl) rfl rfl hl.1 rfl (lv_room (Nat.le_of_ble_eq_true rfl)) dX5_writeNumbers_58 ⟨Nat.le_refl _, Nat.le_refl _⟩) hP hD hS hA [] [0, 1, 2, 3, 4, 5] [0, 1, 2, 3, 4, 5] rfl rfl rfl rfl (fun H locs hP hD hS => ?_)
          refine lv_istore (lv' := [(4, .int s7), (0, .ref a_0), (1, .ref a_1), (3, .int l3_3)]) hx hb dX5_writeNumbers_61 hl (by decide) rfl (fun ls hl => ?_)
          refine lv_aload_n hx hb dX5_writeNumbers_63 rfl (lv_at hl 2 rfl) ?_
          refine lv_aload_n hx hb dX5_writeNumbers_64 rfl (lv_at hl 1 rfl) ?_
          refine va_get (D := (dC, dI)) (ci := 4) (C := RX5) (T := TX5) (N := 4) hx hb hts hiX5 hown hK hP 3 rfl rfl 0 (by decide) (hts (.fieldLink RX5 9 "PaddockFields$Maker" "first" "[I") (List.mem_cons_of_mem _ (List.mem_append_left _ (List.mem_append_left _ (List.mem_append_left _ (List.mem_of_getElem? (i := 2) rfl)))))) (fun _ h9 => h9) rfl dX5_writeNumbers_65 ?_
          refine lv_iload_n hx hb dX5_writeNumbers_68 rfl (lv_at hl 3 rfl) ?_
          obtain ⟨v8, h_v8, hf⟩ := hf_bind hf
          refine wh_ldI (D := (dC, dI)) hx hb hK hP 4 0 rfl rfl h_v8 dX5_writeNumbers_69 ?_
          refine lv_aload_n hx hb dX5_writeNumbers_70 rfl (lv_at hl 1 rfl) ?_
          refine va_get (D := (dC, dI)) (ci := 4) (C := RX5) (T := TX5) (N := 4) hx hb hts hiX5 hown hK hP 3 rfl rfl 1 (by decide) (hts (.fieldLink RX5 15 "PaddockFields$Maker" "last" "[I") (List.mem_cons_of_mem _ (List.mem_append_left _ (List.mem_append_left _ (List.mem_append_left _ (List.mem_of_getElem? (i := 3) rfl)))))) (fun _ h9 => h9) rfl dX5_writeNumbers_71 ?_
          refine lv_iload_n hx hb dX5_writeNumbers_74 rfl (lv_at hl 3 rfl) ?_
          obtain ⟨v9, h_v9, hf⟩ := hf_bind hf
          refine wh_ldI (D := (dC, dI)) hx hb hK hP 5 0 rfl rfl h_v9 dX5_writeNumbers_75 ?_
          refine lv_aload_n hx hb dX5_writeNumbers_76 rfl (lv_at hl 1 rfl) ?_
          refine lv_iload hx hb dX5_writeNumbers_77 (lv_at hl 0 rfl) ?_
          obtain ⟨s10, h_s10, hf⟩ := hf_bind hf
          refine wh_calli (D := (dC, dI)) (ws' := (wl_fMaker_writeNumbers cI cZ cJ cQ a_1 a_1inField a_1number a_0 a_0first a_0last a_1first a_1last s1 number_1_5 s4.2.2.2 s10.2 s4.2.2.1 s4.2.1)) (va_runV (As := [.int s7]) (rest := [.int v9, .int v8, .ref a_1]) ⟨hx, hb, hml, hown, hts⟩ (c_fMaker_drawBelow l dC dI cI cZ cJ cQ a_0 a_0first a_0last s4.2.2.2 _ h_s10) (cwV 1 hts gX5_writeNumbers_X5_drawBelow rfl rfl rfl (by decide +kernel) ⟨Nat.le_of_ble_eq_true rfl, Nat.le_of_ble_eq_true rfl⟩) (wh_preV (C := RX5) (T := TX5) (N := 4) hK hN hP hD [3] rfl rfl 4 0 rfl rfl) rfl rfl hl.1 rfl (lv_room (Nat.le_of_ble_eq_true rfl)) dX5_writeNumbers_79 ⟨Nat.le_refl _, Nat.le_refl _⟩) hP hD hS hA [3] [0, 1, 2, 4, 5] [0, 1, 2, 5, 3, 4] rfl rfl rfl rfl (fun H locs hP hD hS => ?_)
          obtain ⟨s11, h_s11, hf⟩ := hf_bind hf
          refine wh_calli (D := (dC, dI)) (ws' := (wl_fMaker_writeNumbers cI cZ cJ cQ a_1 a_1inField a_1number a_0 a_0first a_0last a_1first a_1last s1 number_1_5 s4.2.2.2 s10.2 s4.2.2.1 s4.2.1)) (va_runS (As := [.int v8, .int v9, .int s10.1]) (rest := [.ref a_1]) ⟨hx, hb, hml, hown, hts⟩ (c_fMaker_cellInside l dC dI cI cZ cJ cQ _ h_s11) (va_cwS 3 hts gX5_writeNumbers_X5_cellInside rfl rfl rfl (by decide +kernel) ⟨Nat.le_of_ble_eq_true rfl, Nat.le_of_ble_eq_true rfl⟩) (wh_preS hK hN hP hD [] rfl rfl) rfl rfl hl.1 rfl (lv_room (Nat.le_of_ble_eq_true rfl)) dX5_writeNumbers_82 ⟨Nat.le_refl _, Nat.le_refl _⟩) hP hD hS hA [] [0, 1, 2, 3, 4, 5] [0, 1, 2, 3, 4, 5] rfl rfl rfl rfl (fun H locs hP hD hS => ?_)
          refine lv_iload hx hb dX5_writeNumbers_85 (lv_at hl 0 rfl) ?_
          obtain ⟨s12, h_s12, hf⟩ := hf_bind hf
          refine wh_callv (D := (dC, dI)) (ws' := (wl_fMaker_writeNumbers cI cZ cJ cQ a_1 a_1inField a_1number a_0 a_0first a_0last a_1first a_1last s1 s12 s4.2.2.2 s10.2 s4.2.2.1 s4.2.1)) (va_runV (As := [.int s11, .int s7]) (rest := []) ⟨hx, hb, hml, hown, hts⟩ (c_fBoard_setNumber l dC dI cI cZ cJ cQ a_1 a_1number a_1inField a_1first a_1last _ h_s12) (cwV 2 hts gX5_writeNumbers_X0_setNumber rfl rfl rfl (by decide +kernel) ⟨Nat.le_of_ble_eq_true rfl, Nat.le_of_ble_eq_true rfl⟩) (wh_preV (C := RX0) (T := TX0) (N := 4) hK hN hP hD [0, 2] rfl rfl 0 0 rfl rfl) rfl rfl hl.1 rfl (lv_room (Nat.le_of_ble_eq_true rfl)) dX5_writeNumbers_87 ⟨Nat.le_refl _, Nat.le_refl _⟩) hP hD hS hA [0, 2] [1, 3, 4, 5] [4, 0, 5, 1, 2, 3] rfl rfl rfl rfl (fun H locs hP hD hS => ?_)
          refine lv_iinc (v := (l3_3 + (1 : Int32))) (lv' := [(3, .int (l3_3 + (1 : Int32))), (4, .int s7), (0, .ref a_0), (1, .ref a_1)]) hx hb dX5_writeNumbers_90 hl (k := 3) rfl rfl (by decide) rfl (fun ls hl => ?_)
          refine lv_goto (tgt := 32) hx hb dX5_writeNumbers_93 (by decide) ?_
          exact ih _ _ _ hf _ _ _ (lv_sub hl [2, 3, 0] rfl) hP hD hS
  exact hL_2 _ _ _ _ h_r13 _ _ _ (lv_sub hl [1, 2, 0] rfl) hP hD hS
set_option maxHeartbeats 4000000 in
set_option maxRecDepth 100000 in
theorem c_fRectangles_cellsAt (l : Launch) (dC : Nat → ClassId) (dI : Nat → Nat → Nat) (cI cZ cJ cQ : ClassId) (a_0 a_0cells a_0everyFirst a_0everyLast a_0everyCells a_0first a_0last a_0owner : Nat) (sz : Nat) {x1 : Int32} {count_0 : Int32} {cells_0 : Nat → Int64} {out : Int64} (hf : fRectangles_cellsAt x1 count_0 cells_0 = some out) : Met l yX7_cellsAt wsX7_cellsAt ({ frames := 0, cells := 0, slots := 0, locals := 0 } : Room) (va_Pc [.ref a_0, .int x1] (wlP (dC, dI) (wlT cI cZ cJ cQ) (wl_fRectangles_cellsAt cI cZ cJ cQ a_0 a_0cells a_0everyFirst a_0everyLast a_0everyCells a_0first a_0last a_0owner count_0 cells_0) sz)) (va_Ql (fun (v : Int64) (_ : Unit) => v = out) (wlQ (dC, dI) (va_A (wl_fRectangles_cellsAt cI cZ cJ cQ a_0 a_0cells a_0everyFirst a_0everyLast a_0everyCells a_0first a_0last a_0owner count_0 cells_0) sz) (wl_fRectangles_cellsAt cI cZ cJ cQ a_0 a_0cells a_0everyFirst a_0everyLast a_0everyCells a_0first a_0last a_0owner count_0 cells_0)) (va_A (wl_fRectangles_cellsAt cI cZ cJ cQ a_0 a_0cells a_0everyFirst a_0everyLast a_0everyCells a_0first a_0last a_0owner count_0 cells_0) sz)) 0 0 (va_A (wl_fRectangles_cellsAt cI cZ cJ cQ a_0 a_0cells a_0everyFirst a_0everyLast a_0everyCells a_0first a_0last a_0owner count_0 cells_0) sz) := by
  refine wh_ofWl (lv := [(0, .ref a_0), (1, .int x1)]) RX7 (by decide) rfl rfl (Nat.le_of_ble_eq_true rfl) rfl ?_
  intro p e s m below meth c A QQ hx hb hml hown hts hP hK hN hD hA hret ls hl
  have hS : va_S A s.heap s.heap [] := va_S.rf
  have hiX7 : ∀ w ∈ wsX70, w ∈ wsX7_cellsAt := (fun _ h => List.mem_cons_of_mem _ (List.mem_append_right _ (h)))
  unfold fRectangles_cellsAt at hf
  refine lv_iload_n hx hb dX7_cellsAt_0 rfl (lv_at hl 1 rfl) ?_
  refine lv_if_lt (tgt := 28) hx hb dX7_cellsAt_1 (by decide) (fun cc => ?_) (fun cc => ?_)
  · replace hf := hf_pos cc hf
    refine lv_lconst (v := 0) hx hb dX7_cellsAt_28 (by decide) ?_
    obtain rfl := Option.some.inj hf
    exact hret _ _ _ _ hP hD hS dX7_cellsAt_29
  · replace hf := hf_neg cc hf
    refine lv_iload_n hx hb dX7_cellsAt_4 rfl (lv_at hl 1 rfl) ?_
    refine lv_aload_n hx hb dX7_cellsAt_5 rfl (lv_at hl 0 rfl) ?_
    refine va_get (D := (dC, dI)) (ci := 6) (C := RX7) (T := TX7) (N := 8) hx hb hts hiX7 hown hK hP 0 rfl rfl 7 (by decide) (hts (.fieldLink RX7 34 "PaddockFields$Rectangles" "count" "I") (List.mem_cons_of_mem _ (List.mem_append_left _ (List.mem_of_getElem? (i := 0) rfl)))) (fun _ h9 => h9) rfl dX7_cellsAt_6 ?_
    refine lv_icmp_ge (tgt := 28) hx hb dX7_cellsAt_9 (by decide) (fun cc => ?_) (fun cc => ?_)
    · replace hf := hf_pos cc hf
      refine lv_lconst (v := 0) hx hb dX7_cellsAt_28 (by decide) ?_
      obtain rfl := Option.some.inj hf
      exact hret _ _ _ _ hP hD hS dX7_cellsAt_29
    · replace hf := hf_neg cc hf
      refine lv_iload_n hx hb dX7_cellsAt_12 rfl (lv_at hl 1 rfl) ?_
      refine lv_sipush (v := 588) hx hb dX7_cellsAt_13 (by decide) ?_
      refine lv_icmp_ge (tgt := 28) hx hb dX7_cellsAt_16 (by decide) (fun cc => ?_) (fun cc => ?_)
      · replace hf := hf_pos cc hf
        refine lv_lconst (v := 0) hx hb dX7_cellsAt_28 (by decide) ?_
        obtain rfl := Option.some.inj hf
        exact hret _ _ _ _ hP hD hS dX7_cellsAt_29
      · replace hf := hf_neg cc hf
        refine lv_aload_n hx hb dX7_cellsAt_19 rfl (lv_at hl 0 rfl) ?_
        refine va_get (D := (dC, dI)) (ci := 6) (C := RX7) (T := TX7) (N := 8) hx hb hts hiX7 hown hK hP 0 rfl rfl 5 (by decide) (hts (.fieldLink RX7 28 "PaddockFields$Rectangles" "cells" "[J") (List.mem_cons_of_mem _ (List.mem_append_left _ (List.mem_of_getElem? (i := 1) rfl)))) (fun _ h9 => h9) rfl dX7_cellsAt_20 ?_
        refine lv_iload_n hx hb dX7_cellsAt_23 rfl (lv_at hl 1 rfl) ?_
        obtain ⟨v1, h_v1, hf⟩ := hf_bind hf
        refine wh_ldJ (D := (dC, dI)) hx hb hK hP 1 2 rfl rfl h_v1 dX7_cellsAt_24 ?_
        refine lv_goto (tgt := 29) hx hb dX7_cellsAt_25 (by decide) ?_
        obtain rfl := Option.some.inj hf
        exact hret _ _ _ _ hP hD hS dX7_cellsAt_29
set_option maxHeartbeats 4000000 in
set_option maxRecDepth 100000 in
theorem c_fRectangles_cellsInReach (l : Launch) (dC : Nat → ClassId) (dI : Nat → Nat → Nat) (cI cZ cJ cQ : ClassId) (a_0 a_0cells a_0everyFirst a_0everyLast a_0everyCells a_0first a_0last a_0owner : Nat) (sz : Nat) {F : Nat} {x1 : Int64} {count_0 : Int32} {cells_0 : Nat → Int64} {out : Int64} (hf : fRectangles_cellsInReach F x1 count_0 cells_0 = some out) : Met l yX7_cellsInReach wsX7_cellsInReach ({ frames := 1, cells := 0, slots := 0, locals := 21 } : Room) (va_Pc [.ref a_0, .long x1] (wlP (dC, dI) (wlT cI cZ cJ cQ) (wl_fRectangles_cellsInReach cI cZ cJ cQ a_0 a_0cells a_0everyFirst a_0everyLast a_0everyCells a_0first a_0last a_0owner count_0 cells_0) sz)) (va_Ql (fun (v : Int64) (_ : Unit) => v = out) (wlQ (dC, dI) (va_A (wl_fRectangles_cellsInReach cI cZ cJ cQ a_0 a_0cells a_0everyFirst a_0everyLast a_0everyCells a_0first a_0last a_0owner count_0 cells_0) sz) (wl_fRectangles_cellsInReach cI cZ cJ cQ a_0 a_0cells a_0everyFirst a_0everyLast a_0everyCells a_0first a_0last a_0owner count_0 cells_0)) (va_A (wl_fRectangles_cellsInReach cI cZ cJ cQ a_0 a_0cells a_0everyFirst a_0everyLast a_0everyCells a_0first a_0last a_0owner count_0 cells_0) sz)) 0 0 (va_A (wl_fRectangles_cellsInReach cI cZ cJ cQ a_0 a_0cells a_0everyFirst a_0everyLast a_0everyCells a_0first a_0last a_0owner count_0 cells_0) sz) := by
  refine wh_ofWl (lv := [(0, .ref a_0), (1, .long x1)]) RX7 (by decide) rfl rfl (Nat.le_of_ble_eq_true rfl) rfl ?_
  intro p e s m below meth c A QQ hx hb hml hown hts hP hK hN hD hA hret ls hl
  have hS : va_S A s.heap s.heap [] := va_S.rf
  have hiX7 : ∀ w ∈ wsX70, w ∈ wsX7_cellsInReach := (fun _ h => List.mem_cons_of_mem _ (List.mem_append_right _ (h)))
  unfold fRectangles_cellsInReach at hf
  refine lv_lconst (v := 0) hx hb dX7_cellsInReach_0 (by decide) ?_
  refine lv_lstore_n (lv' := [(3, .long (0 : Int64)), (0, .ref a_0), (1, .long x1)]) hx hb dX7_cellsInReach_1 rfl hl (by decide) rfl (fun ls hl => ?_)
  refine lv_iconst (v := 0) hx hb dX7_cellsInReach_2 (by decide) ?_
  refine lv_istore (lv' := [(5, .int (0 : Int32)), (3, .long (0 : Int64)), (0, .ref a_0), (1, .long x1)]) hx hb dX7_cellsInReach_3 hl (by decide) rfl (fun ls hl => ?_)
  obtain ⟨r3, h_r3, hf⟩ := hf_bind hf
  have hE_1 : ∀ (H : Heap) (locs : List Loc) (ls : Array Slot), lv_has ls 8 [(3, .long r3.1)] → va_P (dC, dI) vwCl (wl_fRectangles_cellsInReach cI cZ cJ cQ a_0 a_0cells a_0everyFirst a_0everyLast a_0everyCells a_0first a_0last a_0owner count_0 cells_0) H → va_D A (wl_fRectangles_cellsInReach cI cZ cJ cQ a_0 a_0cells a_0everyFirst a_0everyLast a_0everyCells a_0first a_0last a_0owner count_0 cells_0) → va_S A s.heap H locs → W p l e ({ frames := 1, cells := 0, slots := 0, locals := 21 } : Room) s m [.ref a_0, .long x1].toArray below meth c H locs 0 0 QQ (F0 m 46 ls []) := by
    intro H locs ls hl hP hD hS
    refine lv_lload_n hx hb dX7_cellsInReach_46 rfl (lv_at hl 0 rfl) ?_
    obtain rfl := Option.some.inj hf
    exact hret _ _ _ _ hP hD hS dX7_cellsInReach_47
  have hL_2 : ∀ (N : Nat) (l3_3 : Int64) (l5_4 : Int32), fRectangles_cellsInReach_L5 F x1 count_0 cells_0 N l3_3 l5_4 = some r3 → ∀ (H : Heap) (locs : List Loc) (ls : Array Slot), lv_has ls 8 [(0, .ref a_0), (1, .long x1), (3, .long l3_3), (5, .int l5_4)] → va_P (dC, dI) vwCl (wl_fRectangles_cellsInReach cI cZ cJ cQ a_0 a_0cells a_0everyFirst a_0everyLast a_0everyCells a_0first a_0last a_0owner count_0 cells_0) H → va_D A (wl_fRectangles_cellsInReach cI cZ cJ cQ a_0 a_0cells a_0everyFirst a_0everyLast a_0everyCells a_0first a_0last a_0owner count_0 cells_0) → va_S A s.heap H locs → W p l e ({ frames := 1, cells := 0, slots := 0, locals := 21 } : Room) s m [.ref a_0, .long x1].toArray below meth c H locs 0 0 QQ (F0 m 5 ls []) := by
    intro N
    induction N with
    | zero => intro l3_3 l5_4 hf; exact nomatch (show none = some _ from hf)
    | succ N ih =>
      intro l3_3 l5_4 hf H locs ls hl hP hD hS
      rw [fRectangles_cellsInReach_L5] at hf
      refine lv_iload hx hb dX7_cellsInReach_5 (lv_at hl 3 rfl) ?_
      refine lv_aload_n hx hb dX7_cellsInReach_7 rfl (lv_at hl 0 rfl) ?_
      refine va_get (D := (dC, dI)) (ci := 6) (C := RX7) (T := TX7) (N := 8) hx hb hts hiX7 hown hK hP 0 rfl rfl 7 (by decide) (hts (.fieldLink RX7 34 "PaddockFields$Rectangles" "count" "I") (List.mem_cons_of_mem _ (List.mem_append_left _ (List.mem_of_getElem? (i := 0) rfl)))) (fun _ h9 => h9) rfl dX7_cellsInReach_8 ?_
      refine lv_icmp_ge (tgt := 46) hx hb dX7_cellsInReach_11 (by decide) (fun cc => ?_) (fun cc => ?_)
      · replace hf := hf_pos cc hf
        obtain rfl := Option.some.inj hf
        exact hE_1 _ _ _ (lv_sub hl [2] rfl) hP hD hS
      · replace hf := hf_neg cc hf
        refine lv_aload_n hx hb dX7_cellsInReach_14 rfl (lv_at hl 0 rfl) ?_
        refine lv_iload hx hb dX7_cellsInReach_15 (lv_at hl 3 rfl) ?_
        obtain ⟨s1, h_s1, hf⟩ := hf_bind hf
        refine wh_calll (D := (dC, dI)) (ws' := (wl_fRectangles_cellsInReach cI cZ cJ cQ a_0 a_0cells a_0everyFirst a_0everyLast a_0everyCells a_0first a_0last a_0owner count_0 cells_0)) (va_runV (As := [.int l5_4]) (rest := []) ⟨hx, hb, hml, hown, hts⟩ (c_fRectangles_cellsAt l dC dI cI cZ cJ cQ a_0 a_0cells a_0everyFirst a_0everyLast a_0everyCells a_0first a_0last a_0owner _ h_s1) (cwV 1 hts gX7_cellsInReach_X7_cellsAt rfl rfl rfl (by decide +kernel) ⟨Nat.le_of_ble_eq_true rfl, Nat.le_of_ble_eq_true rfl⟩) (wh_preV (C := RX7) (T := TX7) (N := 8) hK hN hP hD [0, 1] rfl rfl 6 0 rfl rfl) rfl rfl hl.1 rfl (lv_room (Nat.le_of_ble_eq_true rfl)) dX7_cellsInReach_17 ⟨Nat.le_refl _, Nat.le_refl _⟩) hP hD hS hA [0, 1] [] [0, 1] rfl rfl rfl rfl (fun H locs hP hD hS => ?_)
        refine lv_lstore (lv' := [(6, .long s1), (0, .ref a_0), (1, .long x1), (3, .long l3_3), (5, .int l5_4)]) hx hb dX7_cellsInReach_20 hl (by decide) rfl (fun ls hl => ?_)
        refine lv_lload_n hx hb dX7_cellsInReach_22 rfl (lv_at hl 3 rfl) ?_
        refine lv_lload hx hb dX7_cellsInReach_23 (lv_at hl 0 rfl) ?_
        refine lv_lload_n hx hb dX7_cellsInReach_25 rfl (lv_at hl 2 rfl) ?_
        refine lv_land hx hb dX7_cellsInReach_26 ?_
        refine lv_lconst (v := 0) hx hb dX7_cellsInReach_27 (by decide) ?_
        refine W.lcmp hx hb dX7_cellsInReach_28 ?_
        obtain ⟨j2, h_j2, hf⟩ := hf_bind hf
        have hJ_5 : ∀ (H : Heap) (locs : List Loc) (ls : Array Slot), lv_has ls 8 [(0, .ref a_0), (1, .long x1), (5, .int l5_4)] → va_P (dC, dI) vwCl (wl_fRectangles_cellsInReach cI cZ cJ cQ a_0 a_0cells a_0everyFirst a_0everyLast a_0everyCells a_0first a_0last a_0owner count_0 cells_0) H → va_D A (wl_fRectangles_cellsInReach cI cZ cJ cQ a_0 a_0cells a_0everyFirst a_0everyLast a_0everyCells a_0first a_0last a_0owner count_0 cells_0) → va_S A s.heap H locs → W p l e ({ frames := 1, cells := 0, slots := 0, locals := 21 } : Room) s m [.ref a_0, .long x1].toArray below meth c H locs 0 0 QQ (F0 m 38 ls [.long j2, .long l3_3]) := by
          intro H locs ls hl hP hD hS
          refine lv_lor hx hb dX7_cellsInReach_38 ?_
          refine lv_lstore_n (lv' := [(3, .long (l3_3 ||| j2)), (0, .ref a_0), (1, .long x1), (5, .int l5_4)]) hx hb dX7_cellsInReach_39 rfl hl (by decide) rfl (fun ls hl => ?_)
          refine lv_iinc (v := (l5_4 + (1 : Int32))) (lv' := [(5, .int (l5_4 + (1 : Int32))), (3, .long (l3_3 ||| j2)), (0, .ref a_0), (1, .long x1)]) hx hb dX7_cellsInReach_40 hl (k := 3) rfl rfl (by decide) rfl (fun ls hl => ?_)
          refine lv_goto (tgt := 5) hx hb dX7_cellsInReach_43 (by decide) ?_
          exact ih _ _ hf _ _ _ (lv_sub hl [2, 3, 1, 0] rfl) hP hD hS
        clear hf
        have hf := h_j2
        clear h_j2
        refine lv_if_ne (tgt := 37) hx hb dX7_cellsInReach_29 (by decide) (fun cc => ?_) (fun cc => ?_)
        · replace hf := hf_pos (mt (lg_cmp_eq _ _).mpr cc) hf
          refine lv_lconst (v := 0) hx hb dX7_cellsInReach_37 (by decide) ?_
          obtain rfl := Option.some.inj hf
          exact hJ_5 _ _ _ (lv_sub hl [1, 2, 4] rfl) hP hD hS
        · replace hf := hf_neg (not_not_intro ((lg_cmp_eq _ _).mp cc)) hf
          refine lv_lload hx hb dX7_cellsInReach_32 (lv_at hl 0 rfl) ?_
          refine lv_goto (tgt := 38) hx hb dX7_cellsInReach_34 (by decide) ?_
          obtain rfl := Option.some.inj hf
          exact hJ_5 _ _ _ (lv_sub hl [1, 2, 4] rfl) hP hD hS
  exact hL_2 _ _ _ h_r3 _ _ _ (lv_sub hl [2, 3, 1, 0] rfl) hP hD hS
set_option maxHeartbeats 4000000 in
set_option maxRecDepth 100000 in
theorem c_fRectangles_size (l : Launch) (dC : Nat → ClassId) (dI : Nat → Nat → Nat) (cI cZ cJ cQ : ClassId) (a_0 a_0everyFirst a_0everyLast a_0everyCells a_0first a_0last a_0cells a_0owner : Nat) (sz : Nat) {count_0 : Int32} {out : Int32} (hf : fRectangles_size count_0 = some out) : Met l yX7_size wsX7_size ({ frames := 0, cells := 0, slots := 0, locals := 0 } : Room) (va_Pc [.ref a_0] (wlP (dC, dI) (wlT cI cZ cJ cQ) (wl_fRectangles_size cI cZ cJ cQ a_0 a_0everyFirst a_0everyLast a_0everyCells a_0first a_0last a_0cells a_0owner count_0) sz)) (va_Qi (fun (v : Int32) (_ : Unit) => v = out) (wlQ (dC, dI) (va_A (wl_fRectangles_size cI cZ cJ cQ a_0 a_0everyFirst a_0everyLast a_0everyCells a_0first a_0last a_0cells a_0owner count_0) sz) (wl_fRectangles_size cI cZ cJ cQ a_0 a_0everyFirst a_0everyLast a_0everyCells a_0first a_0last a_0cells a_0owner count_0)) (va_A (wl_fRectangles_size cI cZ cJ cQ a_0 a_0everyFirst a_0everyLast a_0everyCells a_0first a_0last a_0cells a_0owner count_0) sz)) 0 0 (va_A (wl_fRectangles_size cI cZ cJ cQ a_0 a_0everyFirst a_0everyLast a_0everyCells a_0first a_0last a_0cells a_0owner count_0) sz) := by
  refine wh_ofWi (lv := [(0, .ref a_0)]) RX7 (by decide) rfl rfl (Nat.le_of_ble_eq_true rfl) rfl ?_
  intro p e s m below meth c A QQ hx hb hml hown hts hP hK hN hD hA hret ls hl
  have hS : va_S A s.heap s.heap [] := va_S.rf
  have hiX7 : ∀ w ∈ wsX70, w ∈ wsX7_size := (fun _ h => List.mem_cons_of_mem _ (List.mem_append_right _ (h)))
  unfold fRectangles_size at hf
  refine lv_aload_n hx hb dX7_size_0 rfl (lv_at hl 0 rfl) ?_
  refine va_get (D := (dC, dI)) (ci := 6) (C := RX7) (T := TX7) (N := 8) hx hb hts hiX7 hown hK hP 0 rfl rfl 7 (by decide) (hts (.fieldLink RX7 34 "PaddockFields$Rectangles" "count" "I") (List.mem_cons_of_mem _ (List.mem_append_left _ (List.mem_of_getElem? (i := 0) rfl)))) (fun _ h9 => h9) rfl dX7_size_1 ?_
  obtain rfl := Option.some.inj hf
  exact hret _ _ _ _ hP hD hS dX7_size_4
set_option maxHeartbeats 4000000 in
set_option maxRecDepth 100000 in
theorem c_fSteps_look (l : Launch) (dC : Nat → ClassId) (dI : Nat → Nat → Nat) (cI cZ cJ cQ : ClassId) (a_0 a_0inSome a_0inAll a_0list a_0listowner a_0left a_0listcells a_0listeveryFirst a_0listeveryLast a_0listeveryCells a_0listfirst a_0listlast : Nat) (numbers_0 : Int64) (open_0 : Int64) (roundsDone_0 : Int32) (sz : Nat) {F : Nat} {inSome_0 : Nat → Int64} {inAll_0 : Nat → Int64} {count_0list : Int32} {owner_0list : Nat → Int32} {left_0 : Nat → Int32} {cells_0list : Nat → Int64} {out : (Nat → Int64) × (Nat → Int64)} (hf : fSteps_look F inSome_0 inAll_0 count_0list owner_0list left_0 cells_0list = some out) : Met l yX8_look wsX8_look ({ frames := 1, cells := 0, slots := 0, locals := 21 } : Room) (va_Pc [.ref a_0] (wlP (dC, dI) (wlT cI cZ cJ cQ) (wl_fSteps_look cI cZ cJ cQ a_0 a_0inSome a_0inAll a_0list a_0listowner a_0left a_0listcells a_0listeveryFirst a_0listeveryLast a_0listeveryCells a_0listfirst a_0listlast numbers_0 open_0 roundsDone_0 inSome_0 inAll_0 count_0list owner_0list left_0 cells_0list) sz)) (va_Qv (fun (_ : Unit) => True) (wlQ (dC, dI) (va_A (wl_fSteps_look cI cZ cJ cQ a_0 a_0inSome a_0inAll a_0list a_0listowner a_0left a_0listcells a_0listeveryFirst a_0listeveryLast a_0listeveryCells a_0listfirst a_0listlast numbers_0 open_0 roundsDone_0 inSome_0 inAll_0 count_0list owner_0list left_0 cells_0list) sz) (wl_fSteps_look cI cZ cJ cQ a_0 a_0inSome a_0inAll a_0list a_0listowner a_0left a_0listcells a_0listeveryFirst a_0listeveryLast a_0listeveryCells a_0listfirst a_0listlast numbers_0 open_0 roundsDone_0 out.1 out.2 count_0list owner_0list left_0 cells_0list)) (va_A (wl_fSteps_look cI cZ cJ cQ a_0 a_0inSome a_0inAll a_0list a_0listowner a_0left a_0listcells a_0listeveryFirst a_0listeveryLast a_0listeveryCells a_0listfirst a_0listlast numbers_0 open_0 roundsDone_0 inSome_0 inAll_0 count_0list owner_0list left_0 cells_0list) sz)) 0 0 (va_A (wl_fSteps_look cI cZ cJ cQ a_0 a_0inSome a_0inAll a_0list a_0listowner a_0left a_0listcells a_0listeveryFirst a_0listeveryLast a_0listeveryCells a_0listfirst a_0listlast numbers_0 open_0 roundsDone_0 inSome_0 inAll_0 count_0list owner_0list left_0 cells_0list) sz) := by
  refine wh_ofWv (lv := [(0, .ref a_0)]) RX8 (by decide) rfl rfl (Nat.le_of_ble_eq_true rfl) rfl ?_
  intro p e s m below meth c A QQ hx hb hml hown hts hP hK hN hD hA hret ls hl
  have hS : va_S A s.heap s.heap [] := va_S.rf
  have hiX8 : ∀ w ∈ wsX80, w ∈ wsX8_look := (fun _ h => List.mem_cons_of_mem _ (List.mem_append_left _ (List.mem_append_right _ (h))))
  unfold fSteps_look at hf
  refine lv_iconst (v := 0) hx hb dX8_look_0 (by decide) ?_
  refine lv_istore_n (lv' := [(1, .int (0 : Int32)), (0, .ref a_0)]) hx hb dX8_look_1 rfl hl (by decide) rfl (fun ls hl => ?_)
  obtain ⟨r3, h_r3, hf⟩ := hf_bind hf
  have hE_1 : ∀ (H : Heap) (locs : List Loc) (ls : Array Slot), lv_has ls 3 [(0, .ref a_0)] → va_P (dC, dI) vwCl (wl_fSteps_look cI cZ cJ cQ a_0 a_0inSome a_0inAll a_0list a_0listowner a_0left a_0listcells a_0listeveryFirst a_0listeveryLast a_0listeveryCells a_0listfirst a_0listlast numbers_0 open_0 roundsDone_0 r3.2.1 r3.2.2 count_0list owner_0list left_0 cells_0list) H → va_D A (wl_fSteps_look cI cZ cJ cQ a_0 a_0inSome a_0inAll a_0list a_0listowner a_0left a_0listcells a_0listeveryFirst a_0listeveryLast a_0listeveryCells a_0listfirst a_0listlast numbers_0 open_0 roundsDone_0 r3.2.1 r3.2.2 count_0list owner_0list left_0 cells_0list) → va_S A s.heap H locs → W p l e ({ frames := 1, cells := 0, slots := 0, locals := 21 } : Room) s m [.ref a_0].toArray below meth c H locs 0 0 QQ (F0 m 30 ls []) := by
    intro H locs ls hl hP hD hS
    refine lv_iconst (v := 0) hx hb dX8_look_30 (by decide) ?_
    refine lv_istore_n (lv' := [(1, .int (0 : Int32)), (0, .ref a_0)]) hx hb dX8_look_31 rfl hl (by decide) rfl (fun ls hl => ?_)
    obtain ⟨r14, h_r14, hf⟩ := hf_bind hf
    have hE_2 : ∀ (H : Heap) (locs : List Loc) (ls : Array Slot), lv_has ls 3 [(0, .ref a_0)] → va_P (dC, dI) vwCl (wl_fSteps_look cI cZ cJ cQ a_0 a_0inSome a_0inAll a_0list a_0listowner a_0left a_0listcells a_0listeveryFirst a_0listeveryLast a_0listeveryCells a_0listfirst a_0listlast numbers_0 open_0 roundsDone_0 r14.2.1 r14.2.2 count_0list owner_0list left_0 cells_0list) H → va_D A (wl_fSteps_look cI cZ cJ cQ a_0 a_0inSome a_0inAll a_0list a_0listowner a_0left a_0listcells a_0listeveryFirst a_0listeveryLast a_0listeveryCells a_0listfirst a_0listlast numbers_0 open_0 roundsDone_0 r14.2.1 r14.2.2 count_0list owner_0list left_0 cells_0list) → va_S A s.heap H locs → W p l e ({ frames := 1, cells := 0, slots := 0, locals := 21 } : Room) s m [.ref a_0].toArray below meth c H locs 0 0 QQ (F0 m 104 ls []) := by
      intro H locs ls hl hP hD hS
      refine lv_iconst (v := 0) hx hb dX8_look_104 (by decide) ?_
      refine lv_istore_n (lv' := [(1, .int (0 : Int32)), (0, .ref a_0)]) hx hb dX8_look_105 rfl hl (by decide) rfl (fun ls hl => ?_)
      obtain ⟨r18, h_r18, hf⟩ := hf_bind hf
      have hE_3 : ∀ (H : Heap) (locs : List Loc) (ls : Array Slot), lv_has ls 3 [] → va_P (dC, dI) vwCl (wl_fSteps_look cI cZ cJ cQ a_0 a_0inSome a_0inAll a_0list a_0listowner a_0left a_0listcells a_0listeveryFirst a_0listeveryLast a_0listeveryCells a_0listfirst a_0listlast numbers_0 open_0 roundsDone_0 r14.2.1 r18.2 count_0list owner_0list left_0 cells_0list) H → va_D A (wl_fSteps_look cI cZ cJ cQ a_0 a_0inSome a_0inAll a_0list a_0listowner a_0left a_0listcells a_0listeveryFirst a_0listeveryLast a_0listeveryCells a_0listfirst a_0listlast numbers_0 open_0 roundsDone_0 r14.2.1 r18.2 count_0list owner_0list left_0 cells_0list) → va_S A s.heap H locs → W p l e ({ frames := 1, cells := 0, slots := 0, locals := 21 } : Room) s m [.ref a_0].toArray below meth c H locs 0 0 QQ (F0 m 133 ls []) := by
        intro H locs ls hl hP hD hS
        obtain rfl := Option.some.inj hf
        exact hret _ _ _ _ hP hD hS dX8_look_133
      have hL_4 : ∀ (N : Nat) (l1_5 : Int32) (inAll_0_6 : Nat → Int64), fSteps_look_L106 F r14.2.1 N l1_5 inAll_0_6 = some r18 → ∀ (H : Heap) (locs : List Loc) (ls : Array Slot), lv_has ls 3 [(0, .ref a_0), (1, .int l1_5)] → va_P (dC, dI) vwCl (wl_fSteps_look cI cZ cJ cQ a_0 a_0inSome a_0inAll a_0list a_0listowner a_0left a_0listcells a_0listeveryFirst a_0listeveryLast a_0listeveryCells a_0listfirst a_0listlast numbers_0 open_0 roundsDone_0 r14.2.1 inAll_0_6 count_0list owner_0list left_0 cells_0list) H → va_D A (wl_fSteps_look cI cZ cJ cQ a_0 a_0inSome a_0inAll a_0list a_0listowner a_0left a_0listcells a_0listeveryFirst a_0listeveryLast a_0listeveryCells a_0listfirst a_0listlast numbers_0 open_0 roundsDone_0 r14.2.1 inAll_0_6 count_0list owner_0list left_0 cells_0list) → va_S A s.heap H locs → W p l e ({ frames := 1, cells := 0, slots := 0, locals := 21 } : Room) s m [.ref a_0].toArray below meth c H locs 0 0 QQ (F0 m 106 ls []) := by
        intro N
        induction N with
        | zero => intro l1_5 inAll_0_6 hf; exact nomatch (show none = some _ from hf)
        | succ N ih =>
          intro l1_5 inAll_0_6 hf H locs ls hl hP hD hS
          rw [fSteps_look_L106] at hf
          refine lv_iload_n hx hb dX8_look_106 rfl (lv_at hl 1 rfl) ?_
          refine lv_bipush (v := 42) hx hb dX8_look_107 (by decide) ?_
          refine lv_icmp_ge (tgt := 133) hx hb dX8_look_109 (by decide) (fun cc => ?_) (fun cc => ?_)
          · replace hf := hf_pos cc hf
            obtain rfl := Option.some.inj hf
            exact hE_3 _ _ _ (lv_sub hl [] rfl) hP hD hS
          · replace hf := hf_neg cc hf
            refine lv_aload_n hx hb dX8_look_112 rfl (lv_at hl 0 rfl) ?_
            refine va_get (D := (dC, dI)) (ci := 7) (C := RX8) (T := TX8) (N := 7) hx hb hts hiX8 hown hK hP 0 rfl rfl 3 (by decide) (hts (.fieldLink RX8 23 "PaddockFields$Steps" "inAll" "[J") (List.mem_cons_of_mem _ (List.mem_append_left _ (List.mem_append_left _ (List.mem_of_getElem? (i := 1) rfl))))) (fun _ h9 => h9) rfl dX8_look_113 ?_
            refine lv_iload_n hx hb dX8_look_116 rfl (lv_at hl 1 rfl) ?_
            refine lv_dup2_11 hx hb dX8_look_117 rfl rfl ?_
            obtain ⟨v15, h_v15, hf⟩ := hf_bind hf
            refine wh_ldJ (D := (dC, dI)) hx hb hK hP 2 2 rfl rfl h_v15 dX8_look_118 ?_
            refine lv_aload_n hx hb dX8_look_119 rfl (lv_at hl 0 rfl) ?_
            refine va_get (D := (dC, dI)) (ci := 7) (C := RX8) (T := TX8) (N := 7) hx hb hts hiX8 hown hK hP 0 rfl rfl 2 (by decide) (hts (.fieldLink RX8 19 "PaddockFields$Steps" "inSome" "[J") (List.mem_cons_of_mem _ (List.mem_append_left _ (List.mem_append_left _ (List.mem_of_getElem? (i := 0) rfl))))) (fun _ h9 => h9) rfl dX8_look_120 ?_
            refine lv_iload_n hx hb dX8_look_123 rfl (lv_at hl 1 rfl) ?_
            obtain ⟨v16, h_v16, hf⟩ := hf_bind hf
            refine wh_ldJ (D := (dC, dI)) hx hb hK hP 1 2 rfl rfl h_v16 dX8_look_124 ?_
            refine lv_land hx hb dX8_look_125 ?_
            obtain ⟨w17, h_w17, hf⟩ := hf_bind hf
            refine wh_stJ (D := (dC, dI)) (ws' := (wl_fSteps_look cI cZ cJ cQ a_0 a_0inSome a_0inAll a_0list a_0listowner a_0left a_0listcells a_0listeveryFirst a_0listeveryLast a_0listeveryCells a_0listfirst a_0listlast numbers_0 open_0 roundsDone_0 r14.2.1 w17 count_0list owner_0list left_0 cells_0list)) hx hb hK hP hD hS 2 2 rfl rfl rfl h_w17 dX8_look_126 (fun H locs hP hD hS => ?_)
            refine lv_iinc (v := (l1_5 + (1 : Int32))) (lv' := [(1, .int (l1_5 + (1 : Int32))), (0, .ref a_0)]) hx hb dX8_look_127 hl (k := 1) rfl rfl (by decide) rfl (fun ls hl => ?_)
            refine lv_goto (tgt := 106) hx hb dX8_look_130 (by decide) ?_
            exact ih _ _ hf _ _ _ (lv_sub hl [1, 0] rfl) hP hD hS
      exact hL_4 _ _ _ h_r18 _ _ _ (lv_sub hl [1, 0] rfl) hP hD hS
    have hL_7 : ∀ (N : Nat) (l1_8 : Int32) (inSome_0_9 : Nat → Int64) (inAll_0_10 : Nat → Int64), fSteps_look_L32 F count_0list owner_0list left_0 cells_0list N l1_8 inSome_0_9 inAll_0_10 = some r14 → ∀ (H : Heap) (locs : List Loc) (ls : Array Slot), lv_has ls 3 [(0, .ref a_0), (1, .int l1_8)] → va_P (dC, dI) vwCl (wl_fSteps_look cI cZ cJ cQ a_0 a_0inSome a_0inAll a_0list a_0listowner a_0left a_0listcells a_0listeveryFirst a_0listeveryLast a_0listeveryCells a_0listfirst a_0listlast numbers_0 open_0 roundsDone_0 inSome_0_9 inAll_0_10 count_0list owner_0list left_0 cells_0list) H → va_D A (wl_fSteps_look cI cZ cJ cQ a_0 a_0inSome a_0inAll a_0list a_0listowner a_0left a_0listcells a_0listeveryFirst a_0listeveryLast a_0listeveryCells a_0listfirst a_0listlast numbers_0 open_0 roundsDone_0 inSome_0_9 inAll_0_10 count_0list owner_0list left_0 cells_0list) → va_S A s.heap H locs → W p l e ({ frames := 1, cells := 0, slots := 0, locals := 21 } : Room) s m [.ref a_0].toArray below meth c H locs 0 0 QQ (F0 m 32 ls []) := by
      intro N
      induction N with
      | zero => intro l1_8 inSome_0_9 inAll_0_10 hf; exact nomatch (show none = some _ from hf)
      | succ N ih =>
        intro l1_8 inSome_0_9 inAll_0_10 hf H locs ls hl hP hD hS
        rw [fSteps_look_L32] at hf
        refine lv_iload_n hx hb dX8_look_32 rfl (lv_at hl 1 rfl) ?_
        refine lv_sipush (v := 588) hx hb dX8_look_33 (by decide) ?_
        refine lv_icmp_ge (tgt := 104) hx hb dX8_look_36 (by decide) (fun cc => ?_) (fun cc => ?_)
        · replace hf := hf_pos cc hf
          obtain rfl := Option.some.inj hf
          exact hE_2 _ _ _ (lv_sub hl [0] rfl) hP hD hS
        · replace hf := hf_neg cc hf
          refine lv_aload_n hx hb dX8_look_39 rfl (lv_at hl 0 rfl) ?_
          refine va_get (D := (dC, dI)) (ci := 7) (C := RX8) (T := TX8) (N := 7) hx hb hts hiX8 hown hK hP 0 rfl rfl 0 (by decide) (hts (.fieldLink RX8 9 "PaddockFields$Steps" "list" "LPaddockFields$Rectangles;") (List.mem_cons_of_mem _ (List.mem_append_left _ (List.mem_append_left _ (List.mem_of_getElem? (i := 3) rfl))))) (fun _ h9 => h9) rfl dX8_look_40 ?_
          refine lv_iload_n hx hb dX8_look_43 rfl (lv_at hl 1 rfl) ?_
          obtain ⟨s4, h_s4, hf⟩ := hf_bind hf
          refine wh_calli (D := (dC, dI)) (ws' := (wl_fSteps_look cI cZ cJ cQ a_0 a_0inSome a_0inAll a_0list a_0listowner a_0left a_0listcells a_0listeveryFirst a_0listeveryLast a_0listeveryCells a_0listfirst a_0listlast numbers_0 open_0 roundsDone_0 inSome_0_9 inAll_0_10 count_0list owner_0list left_0 cells_0list)) (va_runV (As := [.int l1_8]) (rest := []) ⟨hx, hb, hml, hown, hts⟩ (c_fRectangles_ownerAt l dC dI cI cZ cJ cQ a_0list a_0listowner a_0listeveryFirst a_0listeveryLast a_0listeveryCells a_0listfirst a_0listlast a_0listcells _ h_s4) (cwV 1 hts gX8_look_X7_ownerAt rfl rfl rfl (by decide +kernel) ⟨Nat.le_of_ble_eq_true rfl, Nat.le_of_ble_eq_true rfl⟩) (wh_preV (C := RX7) (T := TX7) (N := 8) hK hN hP hD [3, 4] rfl rfl 6 0 rfl rfl) rfl rfl hl.1 rfl (lv_room (Nat.le_of_ble_eq_true rfl)) dX8_look_44 ⟨Nat.le_refl _, Nat.le_refl _⟩) hP hD hS hA [3, 4] [0, 1, 2, 5, 6] [0, 1, 2, 5, 6, 3, 4] rfl rfl rfl rfl (fun H locs hP hD hS => ?_)
          refine lv_istore_n (lv' := [(2, .int s4), (0, .ref a_0), (1, .int l1_8)]) hx hb dX8_look_47 rfl hl (by decide) rfl (fun ls hl => ?_)
          refine lv_aload_n hx hb dX8_look_48 rfl (lv_at hl 1 rfl) ?_
          refine va_get (D := (dC, dI)) (ci := 7) (C := RX8) (T := TX8) (N := 7) hx hb hts hiX8 hown hK hP 0 rfl rfl 1 (by decide) (hts (.fieldLink RX8 15 "PaddockFields$Steps" "left" "[Z") (List.mem_cons_of_mem _ (List.mem_append_left _ (List.mem_append_left _ (List.mem_of_getElem? (i := 4) rfl))))) (fun _ h9 => h9) rfl dX8_look_49 ?_
          refine lv_iload_n hx hb dX8_look_52 rfl (lv_at hl 2 rfl) ?_
          obtain ⟨v5, h_v5, hf⟩ := hf_bind hf
          refine wh_ldZ (D := (dC, dI)) hx hb hK hP 5 1 rfl rfl h_v5 dX8_look_53 ?_
          obtain ⟨j13, h_j13, hf⟩ := hf_bind hf
          have hJ_11 : ∀ (H : Heap) (locs : List Loc) (ls : Array Slot), lv_has ls 3 [(0, .ref a_0), (1, .int l1_8)] → va_P (dC, dI) vwCl (wl_fSteps_look cI cZ cJ cQ a_0 a_0inSome a_0inAll a_0list a_0listowner a_0left a_0listcells a_0listeveryFirst a_0listeveryLast a_0listeveryCells a_0listfirst a_0listlast numbers_0 open_0 roundsDone_0 j13.1 j13.2 count_0list owner_0list left_0 cells_0list) H → va_D A (wl_fSteps_look cI cZ cJ cQ a_0 a_0inSome a_0inAll a_0list a_0listowner a_0left a_0listcells a_0listeveryFirst a_0listeveryLast a_0listeveryCells a_0listfirst a_0listlast numbers_0 open_0 roundsDone_0 j13.1 j13.2 count_0list owner_0list left_0 cells_0list) → va_S A s.heap H locs → W p l e ({ frames := 1, cells := 0, slots := 0, locals := 21 } : Room) s m [.ref a_0].toArray below meth c H locs 0 0 QQ (F0 m 98 ls []) := by
            intro H locs ls hl hP hD hS
            refine lv_iinc (v := (l1_8 + (1 : Int32))) (lv' := [(1, .int (l1_8 + (1 : Int32))), (0, .ref a_0)]) hx hb dX8_look_98 hl (k := 1) rfl rfl (by decide) rfl (fun ls hl => ?_)
            refine lv_goto (tgt := 32) hx hb dX8_look_101 (by decide) ?_
            exact ih _ _ _ hf _ _ _ (lv_sub hl [1, 0] rfl) hP hD hS
          clear hf
          have hf := h_j13
          clear h_j13
          refine lv_if_eq (tgt := 98) hx hb dX8_look_54 (by decide) (fun cc => ?_) (fun cc => ?_)
          · replace hf := hf_pos cc hf
            obtain rfl := Option.some.inj hf
            exact hJ_11 _ _ _ (lv_sub hl [1, 2] rfl) hP hD hS
          · replace hf := hf_neg cc hf
            refine lv_iload_n hx hb dX8_look_57 rfl (lv_at hl 0 rfl) ?_
            obtain ⟨s6, h_s6, hf⟩ := hf_bind hf
            refine wh_calli (D := (dC, dI)) (ws' := (wl_fSteps_look cI cZ cJ cQ a_0 a_0inSome a_0inAll a_0list a_0listowner a_0left a_0listcells a_0listeveryFirst a_0listeveryLast a_0listeveryCells a_0listfirst a_0listlast numbers_0 open_0 roundsDone_0 inSome_0_9 inAll_0_10 count_0list owner_0list left_0 cells_0list)) (va_runSN (As := [.int s4]) (rest := []) ⟨hx, hb, hml, hown, hts⟩ (c_fX_isCell l dC dI cI cZ cJ cQ _ h_s6) ⟨va_cnB 1 hts gX8_look_X9_isCell_n78 rfl rfl rfl (hN (RX8, 78, yX9_isCell) (List.mem_of_getElem? (i := 4) rfl)) (hts (.initialized RX9) (List.mem_cons_of_mem _ (List.mem_append_left _ (List.mem_append_left _ (List.mem_of_getElem? (i := 13) rfl))))) (by decide +kernel) ⟨Nat.le_of_ble_eq_true rfl, Nat.le_of_ble_eq_true rfl⟩, (hts (.static yX9_isCell) (List.mem_cons_of_mem _ (List.mem_append_left _ (List.mem_append_left _ (List.mem_of_getElem? (i := 12) rfl))))), trivial⟩ (wh_preS hK hN hP hD [] rfl rfl) rfl rfl hl.1 rfl (lv_room (Nat.le_of_ble_eq_true rfl)) dX8_look_58 ⟨Nat.le_refl _, Nat.le_refl _⟩) hP hD hS hA [] [0, 1, 2, 3, 4, 5, 6] [0, 1, 2, 3, 4, 5, 6] rfl rfl rfl rfl (fun H locs hP hD hS => ?_)
            refine lv_if_eq (tgt := 98) hx hb dX8_look_61 (by decide) (fun cc => ?_) (fun cc => ?_)
            · replace hf := hf_pos cc hf
              obtain rfl := Option.some.inj hf
              exact hJ_11 _ _ _ (lv_sub hl [1, 2] rfl) hP hD hS
            · replace hf := hf_neg cc hf
              refine lv_aload_n hx hb dX8_look_64 rfl (lv_at hl 1 rfl) ?_
              refine va_get (D := (dC, dI)) (ci := 7) (C := RX8) (T := TX8) (N := 7) hx hb hts hiX8 hown hK hP 0 rfl rfl 2 (by decide) (hts (.fieldLink RX8 19 "PaddockFields$Steps" "inSome" "[J") (List.mem_cons_of_mem _ (List.mem_append_left _ (List.mem_append_left _ (List.mem_of_getElem? (i := 0) rfl))))) (fun _ h9 => h9) rfl dX8_look_65 ?_
              refine lv_iload_n hx hb dX8_look_68 rfl (lv_at hl 0 rfl) ?_
              refine lv_dup2_11 hx hb dX8_look_69 rfl rfl ?_
              obtain ⟨v7, h_v7, hf⟩ := hf_bind hf
              refine wh_ldJ (D := (dC, dI)) hx hb hK hP 1 2 rfl rfl h_v7 dX8_look_70 ?_
              refine lv_aload_n hx hb dX8_look_71 rfl (lv_at hl 1 rfl) ?_
              refine va_get (D := (dC, dI)) (ci := 7) (C := RX8) (T := TX8) (N := 7) hx hb hts hiX8 hown hK hP 0 rfl rfl 0 (by decide) (hts (.fieldLink RX8 9 "PaddockFields$Steps" "list" "LPaddockFields$Rectangles;") (List.mem_cons_of_mem _ (List.mem_append_left _ (List.mem_append_left _ (List.mem_of_getElem? (i := 3) rfl))))) (fun _ h9 => h9) rfl dX8_look_72 ?_
              refine lv_iload_n hx hb dX8_look_75 rfl (lv_at hl 2 rfl) ?_
              obtain ⟨s8, h_s8, hf⟩ := hf_bind hf
              refine wh_calll (D := (dC, dI)) (ws' := (wl_fSteps_look cI cZ cJ cQ a_0 a_0inSome a_0inAll a_0list a_0listowner a_0left a_0listcells a_0listeveryFirst a_0listeveryLast a_0listeveryCells a_0listfirst a_0listlast numbers_0 open_0 roundsDone_0 inSome_0_9 inAll_0_10 count_0list owner_0list left_0 cells_0list)) (va_runV (As := [.int l1_8]) (rest := [.long v7, .int s4, .ref a_0inSome]) ⟨hx, hb, hml, hown, hts⟩ (c_fRectangles_cellsAt l dC dI cI cZ cJ cQ a_0list a_0listcells a_0listeveryFirst a_0listeveryLast a_0listeveryCells a_0listfirst a_0listlast a_0listowner _ h_s8) (cwV 1 hts gX8_look_X7_cellsAt rfl rfl rfl (by decide +kernel) ⟨Nat.le_of_ble_eq_true rfl, Nat.le_of_ble_eq_true rfl⟩) (wh_preV (C := RX7) (T := TX7) (N := 8) hK hN hP hD [3, 6] rfl rfl 6 0 rfl rfl) rfl rfl hl.1 rfl (lv_room (Nat.le_of_ble_eq_true rfl)) dX8_look_76 ⟨Nat.le_refl _, Nat.le_refl _⟩) hP hD hS hA [3, 6] [0, 1, 2, 4, 5] [0, 1, 2, 5, 3, 4, 6] rfl rfl rfl rfl (fun H locs hP hD hS => ?_)
              refine lv_lor hx hb dX8_look_79 ?_
              obtain ⟨w9, h_w9, hf⟩ := hf_bind hf
              refine wh_stJ (D := (dC, dI)) (ws' := (wl_fSteps_look cI cZ cJ cQ a_0 a_0inSome a_0inAll a_0list a_0listowner a_0left a_0listcells a_0listeveryFirst a_0listeveryLast a_0listeveryCells a_0listfirst a_0listlast numbers_0 open_0 roundsDone_0 w9 inAll_0_10 count_0list owner_0list left_0 cells_0list)) hx hb hK hP hD hS 1 2 rfl rfl rfl h_w9 dX8_look_80 (fun H locs hP hD hS => ?_)
              refine lv_aload_n hx hb dX8_look_81 rfl (lv_at hl 1 rfl) ?_
              refine va_get (D := (dC, dI)) (ci := 7) (C := RX8) (T := TX8) (N := 7) hx hb hts hiX8 hown hK hP 0 rfl rfl 3 (by decide) (hts (.fieldLink RX8 23 "PaddockFields$Steps" "inAll" "[J") (List.mem_cons_of_mem _ (List.mem_append_left _ (List.mem_append_left _ (List.mem_of_getElem? (i := 1) rfl))))) (fun _ h9 => h9) rfl dX8_look_82 ?_
              refine lv_iload_n hx hb dX8_look_85 rfl (lv_at hl 0 rfl) ?_
              refine lv_dup2_11 hx hb dX8_look_86 rfl rfl ?_
              obtain ⟨v10, h_v10, hf⟩ := hf_bind hf
              refine wh_ldJ (D := (dC, dI)) hx hb hK hP 2 2 rfl rfl h_v10 dX8_look_87 ?_
              refine lv_aload_n hx hb dX8_look_88 rfl (lv_at hl 1 rfl) ?_
              refine va_get (D := (dC, dI)) (ci := 7) (C := RX8) (T := TX8) (N := 7) hx hb hts hiX8 hown hK hP 0 rfl rfl 0 (by decide) (hts (.fieldLink RX8 9 "PaddockFields$Steps" "list" "LPaddockFields$Rectangles;") (List.mem_cons_of_mem _ (List.mem_append_left _ (List.mem_append_left _ (List.mem_of_getElem? (i := 3) rfl))))) (fun _ h9 => h9) rfl dX8_look_89 ?_
              refine lv_iload_n hx hb dX8_look_92 rfl (lv_at hl 2 rfl) ?_
              obtain ⟨s11, h_s11, hf⟩ := hf_bind hf
              refine wh_calll (D := (dC, dI)) (ws' := (wl_fSteps_look cI cZ cJ cQ a_0 a_0inSome a_0inAll a_0list a_0listowner a_0left a_0listcells a_0listeveryFirst a_0listeveryLast a_0listeveryCells a_0listfirst a_0listlast numbers_0 open_0 roundsDone_0 w9 inAll_0_10 count_0list owner_0list left_0 cells_0list)) (va_runV (As := [.int l1_8]) (rest := [.long v10, .int s4, .ref a_0inAll]) ⟨hx, hb, hml, hown, hts⟩ (c_fRectangles_cellsAt l dC dI cI cZ cJ cQ a_0list a_0listcells a_0listeveryFirst a_0listeveryLast a_0listeveryCells a_0listfirst a_0listlast a_0listowner _ h_s11) (cwV 1 hts gX8_look_X7_cellsAt rfl rfl rfl (by decide +kernel) ⟨Nat.le_of_ble_eq_true rfl, Nat.le_of_ble_eq_true rfl⟩) (wh_preV (C := RX7) (T := TX7) (N := 8) hK hN hP hD [3, 6] rfl rfl 6 0 rfl rfl) rfl rfl hl.1 rfl (lv_room (Nat.le_of_ble_eq_true rfl)) dX8_look_93 ⟨Nat.le_refl _, Nat.le_refl _⟩) hP hD hS hA [3, 6] [0, 1, 2, 4, 5] [0, 1, 2, 5, 3, 4, 6] rfl rfl rfl rfl (fun H locs hP hD hS => ?_)
              refine lv_land hx hb dX8_look_96 ?_
              obtain ⟨w12, h_w12, hf⟩ := hf_bind hf
              refine wh_stJ (D := (dC, dI)) (ws' := (wl_fSteps_look cI cZ cJ cQ a_0 a_0inSome a_0inAll a_0list a_0listowner a_0left a_0listcells a_0listeveryFirst a_0listeveryLast a_0listeveryCells a_0listfirst a_0listlast numbers_0 open_0 roundsDone_0 w9 w12 count_0list owner_0list left_0 cells_0list)) hx hb hK hP hD hS 2 2 rfl rfl rfl h_w12 dX8_look_97 (fun H locs hP hD hS => ?_)
              obtain rfl := Option.some.inj hf
              exact hJ_11 _ _ _ (lv_sub hl [1, 2] rfl) hP hD hS
    exact hL_7 _ _ _ _ h_r14 _ _ _ (lv_sub hl [1, 0] rfl) hP hD hS
  have hL_12 : ∀ (N : Nat) (l1_13 : Int32) (inSome_0_14 : Nat → Int64) (inAll_0_15 : Nat → Int64), fSteps_look_L2 F N l1_13 inSome_0_14 inAll_0_15 = some r3 → ∀ (H : Heap) (locs : List Loc) (ls : Array Slot), lv_has ls 3 [(0, .ref a_0), (1, .int l1_13)] → va_P (dC, dI) vwCl (wl_fSteps_look cI cZ cJ cQ a_0 a_0inSome a_0inAll a_0list a_0listowner a_0left a_0listcells a_0listeveryFirst a_0listeveryLast a_0listeveryCells a_0listfirst a_0listlast numbers_0 open_0 roundsDone_0 inSome_0_14 inAll_0_15 count_0list owner_0list left_0 cells_0list) H → va_D A (wl_fSteps_look cI cZ cJ cQ a_0 a_0inSome a_0inAll a_0list a_0listowner a_0left a_0listcells a_0listeveryFirst a_0listeveryLast a_0listeveryCells a_0listfirst a_0listlast numbers_0 open_0 roundsDone_0 inSome_0_14 inAll_0_15 count_0list owner_0list left_0 cells_0list) → va_S A s.heap H locs → W p l e ({ frames := 1, cells := 0, slots := 0, locals := 21 } : Room) s m [.ref a_0].toArray below meth c H locs 0 0 QQ (F0 m 2 ls []) := by
    intro N
    induction N with
    | zero => intro l1_13 inSome_0_14 inAll_0_15 hf; exact nomatch (show none = some _ from hf)
    | succ N ih =>
      intro l1_13 inSome_0_14 inAll_0_15 hf H locs ls hl hP hD hS
      rw [fSteps_look_L2] at hf
      refine lv_iload_n hx hb dX8_look_2 rfl (lv_at hl 1 rfl) ?_
      refine lv_bipush (v := 42) hx hb dX8_look_3 (by decide) ?_
      refine lv_icmp_ge (tgt := 30) hx hb dX8_look_5 (by decide) (fun cc => ?_) (fun cc => ?_)
      · replace hf := hf_pos cc hf
        obtain rfl := Option.some.inj hf
        exact hE_1 _ _ _ (lv_sub hl [0] rfl) hP hD hS
      · replace hf := hf_neg cc hf
        refine lv_aload_n hx hb dX8_look_8 rfl (lv_at hl 0 rfl) ?_
        refine va_get (D := (dC, dI)) (ci := 7) (C := RX8) (T := TX8) (N := 7) hx hb hts hiX8 hown hK hP 0 rfl rfl 2 (by decide) (hts (.fieldLink RX8 19 "PaddockFields$Steps" "inSome" "[J") (List.mem_cons_of_mem _ (List.mem_append_left _ (List.mem_append_left _ (List.mem_of_getElem? (i := 0) rfl))))) (fun _ h9 => h9) rfl dX8_look_9 ?_
        refine lv_iload_n hx hb dX8_look_12 rfl (lv_at hl 1 rfl) ?_
        refine lv_lconst (v := 0) hx hb dX8_look_13 (by decide) ?_
        obtain ⟨w1, h_w1, hf⟩ := hf_bind hf
        refine wh_stJ (D := (dC, dI)) (ws' := (wl_fSteps_look cI cZ cJ cQ a_0 a_0inSome a_0inAll a_0list a_0listowner a_0left a_0listcells a_0listeveryFirst a_0listeveryLast a_0listeveryCells a_0listfirst a_0listlast numbers_0 open_0 roundsDone_0 w1 inAll_0_15 count_0list owner_0list left_0 cells_0list)) hx hb hK hP hD hS 1 2 rfl rfl rfl h_w1 dX8_look_14 (fun H locs hP hD hS => ?_)
        refine lv_aload_n hx hb dX8_look_15 rfl (lv_at hl 0 rfl) ?_
        refine va_get (D := (dC, dI)) (ci := 7) (C := RX8) (T := TX8) (N := 7) hx hb hts hiX8 hown hK hP 0 rfl rfl 3 (by decide) (hts (.fieldLink RX8 23 "PaddockFields$Steps" "inAll" "[J") (List.mem_cons_of_mem _ (List.mem_append_left _ (List.mem_append_left _ (List.mem_of_getElem? (i := 1) rfl))))) (fun _ h9 => h9) rfl dX8_look_16 ?_
        refine lv_iload_n hx hb dX8_look_19 rfl (lv_at hl 1 rfl) ?_
        refine lv_ldc2 hx hb hown (hts (.constantLong RX8 43 (4398046511103)) (List.mem_cons_of_mem _ (List.mem_append_left _ (List.mem_append_left _ (List.mem_of_getElem? (i := 2) rfl))))) dX8_look_20 ?_
        obtain ⟨w2, h_w2, hf⟩ := hf_bind hf
        refine wh_stJ (D := (dC, dI)) (ws' := (wl_fSteps_look cI cZ cJ cQ a_0 a_0inSome a_0inAll a_0list a_0listowner a_0left a_0listcells a_0listeveryFirst a_0listeveryLast a_0listeveryCells a_0listfirst a_0listlast numbers_0 open_0 roundsDone_0 w1 w2 count_0list owner_0list left_0 cells_0list)) hx hb hK hP hD hS 2 2 rfl rfl rfl h_w2 dX8_look_23 (fun H locs hP hD hS => ?_)
        refine lv_iinc (v := (l1_13 + (1 : Int32))) (lv' := [(1, .int (l1_13 + (1 : Int32))), (0, .ref a_0)]) hx hb dX8_look_24 hl (k := 1) rfl rfl (by decide) rfl (fun ls hl => ?_)
        refine lv_goto (tgt := 2) hx hb dX8_look_27 (by decide) ?_
        exact ih _ _ _ hf _ _ _ (lv_sub hl [1, 0] rfl) hP hD hS
  exact hL_12 _ _ _ _ h_r3 _ _ _ (lv_sub hl [1, 0] rfl) hP hD hS
set_option maxHeartbeats 4000000 in
set_option maxRecDepth 100000 in
theorem c_fSteps_inJustOne (l : Launch) (dC : Nat → ClassId) (dI : Nat → Nat → Nat) (cI cZ cJ cQ : ClassId) (a_0 : Nat) (sz : Nat) {F : Nat} {arr_0 : Nat → Int64} {out : Int64} (hf : fSteps_inJustOne F arr_0 = some out) : Met l yX8_inJustOne wsX8_inJustOne ({ frames := 0, cells := 0, slots := 0, locals := 0 } : Room) (va_Pc [.ref a_0] (wlP (dC, dI) (wlT cI cZ cJ cQ) (wl_fSteps_inJustOne cI cZ cJ cQ a_0 arr_0) sz)) (va_Ql (fun (v : Int64) (_ : Unit) => v = out) (wlQ (dC, dI) (va_A (wl_fSteps_inJustOne cI cZ cJ cQ a_0 arr_0) sz) (wl_fSteps_inJustOne cI cZ cJ cQ a_0 arr_0)) (va_A (wl_fSteps_inJustOne cI cZ cJ cQ a_0 arr_0) sz)) 0 0 (va_A (wl_fSteps_inJustOne cI cZ cJ cQ a_0 arr_0) sz) := by
  refine wh_ofWl (lv := [(0, .ref a_0)]) RX8 (by decide) rfl rfl (Nat.le_of_ble_eq_true rfl) rfl ?_
  intro p e s m below meth c A QQ hx hb hml hown hts hP hK hN hD hA hret ls hl
  have hS : va_S A s.heap s.heap [] := va_S.rf
  unfold fSteps_inJustOne at hf
  refine lv_lconst (v := 0) hx hb dX8_inJustOne_0 (by decide) ?_
  refine lv_lstore_n (lv' := [(1, .long (0 : Int64)), (0, .ref a_0)]) hx hb dX8_inJustOne_1 rfl hl (by decide) rfl (fun ls hl => ?_)
  refine lv_lconst (v := 0) hx hb dX8_inJustOne_2 (by decide) ?_
  refine lv_lstore_n (lv' := [(3, .long (0 : Int64)), (1, .long (0 : Int64)), (0, .ref a_0)]) hx hb dX8_inJustOne_3 rfl hl (by decide) rfl (fun ls hl => ?_)
  refine lv_iconst (v := 0) hx hb dX8_inJustOne_4 (by decide) ?_
  refine lv_istore (lv' := [(5, .int (0 : Int32)), (3, .long (0 : Int64)), (1, .long (0 : Int64)), (0, .ref a_0)]) hx hb dX8_inJustOne_5 hl (by decide) rfl (fun ls hl => ?_)
  obtain ⟨r3, h_r3, hf⟩ := hf_bind hf
  have hE_1 : ∀ (H : Heap) (locs : List Loc) (ls : Array Slot), lv_has ls 6 [(1, .long r3.1), (3, .long r3.2.1)] → va_P (dC, dI) vwCl (wl_fSteps_inJustOne cI cZ cJ cQ a_0 arr_0) H → va_D A (wl_fSteps_inJustOne cI cZ cJ cQ a_0 arr_0) → va_S A s.heap H locs → W p l e ({ frames := 0, cells := 0, slots := 0, locals := 0 } : Room) s m [.ref a_0].toArray below meth c H locs 0 0 QQ (F0 m 36 ls []) := by
    intro H locs ls hl hP hD hS
    refine lv_lload_n hx hb dX8_inJustOne_36 rfl (lv_at hl 0 rfl) ?_
    refine lv_lload_n hx hb dX8_inJustOne_37 rfl (lv_at hl 1 rfl) ?_
    refine lv_ldc2 hx hb hown (hts (.constantLong RX8 51 (-1)) (List.mem_cons_of_mem _ (List.mem_of_getElem? (i := 0) rfl))) dX8_inJustOne_38 ?_
    refine lv_lxor hx hb dX8_inJustOne_41 ?_
    refine lv_land hx hb dX8_inJustOne_42 ?_
    obtain rfl := Option.some.inj hf
    exact hret _ _ _ _ hP hD hS dX8_inJustOne_43
  have hL_2 : ∀ (N : Nat) (l1_3 : Int64) (l3_4 : Int64) (l5_5 : Int32), fSteps_inJustOne_L7 F arr_0 N l1_3 l3_4 l5_5 = some r3 → ∀ (H : Heap) (locs : List Loc) (ls : Array Slot), lv_has ls 6 [(0, .ref a_0), (1, .long l1_3), (3, .long l3_4), (5, .int l5_5)] → va_P (dC, dI) vwCl (wl_fSteps_inJustOne cI cZ cJ cQ a_0 arr_0) H → va_D A (wl_fSteps_inJustOne cI cZ cJ cQ a_0 arr_0) → va_S A s.heap H locs → W p l e ({ frames := 0, cells := 0, slots := 0, locals := 0 } : Room) s m [.ref a_0].toArray below meth c H locs 0 0 QQ (F0 m 7 ls []) := by
    intro N
    induction N with
    | zero => intro l1_3 l3_4 l5_5 hf; exact nomatch (show none = some _ from hf)
    | succ N ih =>
      intro l1_3 l3_4 l5_5 hf H locs ls hl hP hD hS
      rw [fSteps_inJustOne_L7] at hf
      refine lv_iload hx hb dX8_inJustOne_7 (lv_at hl 3 rfl) ?_
      refine lv_aload_n hx hb dX8_inJustOne_9 rfl (lv_at hl 0 rfl) ?_
      refine va_alen (v := 42) hx hb hK hP 0 2 rfl rfl rfl dX8_inJustOne_10 ?_
      refine lv_icmp_ge (tgt := 36) hx hb dX8_inJustOne_11 (by decide) (fun cc => ?_) (fun cc => ?_)
      · replace hf := hf_pos cc hf
        obtain rfl := Option.some.inj hf
        exact hE_1 _ _ _ (lv_sub hl [1, 2] rfl) hP hD hS
      · replace hf := hf_neg cc hf
        refine lv_lload_n hx hb dX8_inJustOne_14 rfl (lv_at hl 2 rfl) ?_
        refine lv_lload_n hx hb dX8_inJustOne_15 rfl (lv_at hl 1 rfl) ?_
        refine lv_aload_n hx hb dX8_inJustOne_16 rfl (lv_at hl 0 rfl) ?_
        refine lv_iload hx hb dX8_inJustOne_17 (lv_at hl 3 rfl) ?_
        obtain ⟨v1, h_v1, hf⟩ := hf_bind hf
        refine wh_ldJ (D := (dC, dI)) hx hb hK hP 0 2 rfl rfl h_v1 dX8_inJustOne_19 ?_
        refine lv_land hx hb dX8_inJustOne_20 ?_
        refine lv_lor hx hb dX8_inJustOne_21 ?_
        refine lv_lstore_n (lv' := [(3, .long (l3_4 ||| (l1_3 &&& v1))), (0, .ref a_0), (1, .long l1_3), (5, .int l5_5)]) hx hb dX8_inJustOne_22 rfl hl (by decide) rfl (fun ls hl => ?_)
        refine lv_lload_n hx hb dX8_inJustOne_23 rfl (lv_at hl 2 rfl) ?_
        refine lv_aload_n hx hb dX8_inJustOne_24 rfl (lv_at hl 1 rfl) ?_
        refine lv_iload hx hb dX8_inJustOne_25 (lv_at hl 3 rfl) ?_
        obtain ⟨v2, h_v2, hf⟩ := hf_bind hf
        refine wh_ldJ (D := (dC, dI)) hx hb hK hP 0 2 rfl rfl h_v2 dX8_inJustOne_27 ?_
        refine lv_lor hx hb dX8_inJustOne_28 ?_
        refine lv_lstore_n (lv' := [(1, .long (l1_3 ||| v2)), (3, .long (l3_4 ||| (l1_3 &&& v1))), (0, .ref a_0), (5, .int l5_5)]) hx hb dX8_inJustOne_29 rfl hl (by decide) rfl (fun ls hl => ?_)
        refine lv_iinc (v := (l5_5 + (1 : Int32))) (lv' := [(5, .int (l5_5 + (1 : Int32))), (1, .long (l1_3 ||| v2)), (3, .long (l3_4 ||| (l1_3 &&& v1))), (0, .ref a_0)]) hx hb dX8_inJustOne_30 hl (k := 3) rfl rfl (by decide) rfl (fun ls hl => ?_)
        refine lv_goto (tgt := 7) hx hb dX8_inJustOne_33 (by decide) ?_
        exact ih _ _ _ hf _ _ _ (lv_sub hl [3, 1, 2, 0] rfl) hP hD hS
  exact hL_2 _ _ _ _ h_r3 _ _ _ (lv_sub hl [3, 2, 1, 0] rfl) hP hD hS
set_option maxHeartbeats 4000000 in
set_option maxRecDepth 100000 in
theorem c_fSteps_inAny (l : Launch) (dC : Nat → ClassId) (dI : Nat → Nat → Nat) (cI cZ cJ cQ : ClassId) (a_0 : Nat) (sz : Nat) {F : Nat} {arr_0 : Nat → Int64} {out : Int64} (hf : fSteps_inAny F arr_0 = some out) : Met l yX8_inAny wsX8_inAny ({ frames := 0, cells := 0, slots := 0, locals := 0 } : Room) (va_Pc [.ref a_0] (wlP (dC, dI) (wlT cI cZ cJ cQ) (wl_fSteps_inAny cI cZ cJ cQ a_0 arr_0) sz)) (va_Ql (fun (v : Int64) (_ : Unit) => v = out) (wlQ (dC, dI) (va_A (wl_fSteps_inAny cI cZ cJ cQ a_0 arr_0) sz) (wl_fSteps_inAny cI cZ cJ cQ a_0 arr_0)) (va_A (wl_fSteps_inAny cI cZ cJ cQ a_0 arr_0) sz)) 0 0 (va_A (wl_fSteps_inAny cI cZ cJ cQ a_0 arr_0) sz) := by
  refine wh_ofWl (lv := [(0, .ref a_0)]) RX8 (by decide) rfl rfl (Nat.le_of_ble_eq_true rfl) rfl ?_
  intro p e s m below meth c A QQ hx hb hml hown hts hP hK hN hD hA hret ls hl
  have hS : va_S A s.heap s.heap [] := va_S.rf
  unfold fSteps_inAny at hf
  refine lv_lconst (v := 0) hx hb dX8_inAny_0 (by decide) ?_
  refine lv_lstore_n (lv' := [(1, .long (0 : Int64)), (0, .ref a_0)]) hx hb dX8_inAny_1 rfl hl (by decide) rfl (fun ls hl => ?_)
  refine lv_iconst (v := 0) hx hb dX8_inAny_2 (by decide) ?_
  refine lv_istore_n (lv' := [(3, .int (0 : Int32)), (1, .long (0 : Int64)), (0, .ref a_0)]) hx hb dX8_inAny_3 rfl hl (by decide) rfl (fun ls hl => ?_)
  obtain ⟨r2, h_r2, hf⟩ := hf_bind hf
  have hE_1 : ∀ (H : Heap) (locs : List Loc) (ls : Array Slot), lv_has ls 4 [(1, .long r2.1)] → va_P (dC, dI) vwCl (wl_fSteps_inAny cI cZ cJ cQ a_0 arr_0) H → va_D A (wl_fSteps_inAny cI cZ cJ cQ a_0 arr_0) → va_S A s.heap H locs → W p l e ({ frames := 0, cells := 0, slots := 0, locals := 0 } : Room) s m [.ref a_0].toArray below meth c H locs 0 0 QQ (F0 m 22 ls []) := by
    intro H locs ls hl hP hD hS
    refine lv_lload_n hx hb dX8_inAny_22 rfl (lv_at hl 0 rfl) ?_
    obtain rfl := Option.some.inj hf
    exact hret _ _ _ _ hP hD hS dX8_inAny_23
  have hL_2 : ∀ (N : Nat) (l1_3 : Int64) (l3_4 : Int32), fSteps_inAny_L4 F arr_0 N l1_3 l3_4 = some r2 → ∀ (H : Heap) (locs : List Loc) (ls : Array Slot), lv_has ls 4 [(0, .ref a_0), (1, .long l1_3), (3, .int l3_4)] → va_P (dC, dI) vwCl (wl_fSteps_inAny cI cZ cJ cQ a_0 arr_0) H → va_D A (wl_fSteps_inAny cI cZ cJ cQ a_0 arr_0) → va_S A s.heap H locs → W p l e ({ frames := 0, cells := 0, slots := 0, locals := 0 } : Room) s m [.ref a_0].toArray below meth c H locs 0 0 QQ (F0 m 4 ls []) := by
    intro N
    induction N with
    | zero => intro l1_3 l3_4 hf; exact nomatch (show none = some _ from hf)
    | succ N ih =>
      intro l1_3 l3_4 hf H locs ls hl hP hD hS
      rw [fSteps_inAny_L4] at hf
      refine lv_iload_n hx hb dX8_inAny_4 rfl (lv_at hl 2 rfl) ?_
      refine lv_aload_n hx hb dX8_inAny_5 rfl (lv_at hl 0 rfl) ?_
      refine va_alen (v := 42) hx hb hK hP 0 2 rfl rfl rfl dX8_inAny_6 ?_
      refine lv_icmp_ge (tgt := 22) hx hb dX8_inAny_7 (by decide) (fun cc => ?_) (fun cc => ?_)
      · replace hf := hf_pos cc hf
        obtain rfl := Option.some.inj hf
        exact hE_1 _ _ _ (lv_sub hl [1] rfl) hP hD hS
      · replace hf := hf_neg cc hf
        refine lv_lload_n hx hb dX8_inAny_10 rfl (lv_at hl 1 rfl) ?_
        refine lv_aload_n hx hb dX8_inAny_11 rfl (lv_at hl 0 rfl) ?_
        refine lv_iload_n hx hb dX8_inAny_12 rfl (lv_at hl 2 rfl) ?_
        obtain ⟨v1, h_v1, hf⟩ := hf_bind hf
        refine wh_ldJ (D := (dC, dI)) hx hb hK hP 0 2 rfl rfl h_v1 dX8_inAny_13 ?_
        refine lv_lor hx hb dX8_inAny_14 ?_
        refine lv_lstore_n (lv' := [(1, .long (l1_3 ||| v1)), (0, .ref a_0), (3, .int l3_4)]) hx hb dX8_inAny_15 rfl hl (by decide) rfl (fun ls hl => ?_)
        refine lv_iinc (v := (l3_4 + (1 : Int32))) (lv' := [(3, .int (l3_4 + (1 : Int32))), (1, .long (l1_3 ||| v1)), (0, .ref a_0)]) hx hb dX8_inAny_16 hl (k := 2) rfl rfl (by decide) rfl (fun ls hl => ?_)
        refine lv_goto (tgt := 4) hx hb dX8_inAny_19 (by decide) ?_
        exact ih _ _ hf _ _ _ (lv_sub hl [2, 1, 0] rfl) hP hD hS
  exact hL_2 _ _ _ h_r2 _ _ _ (lv_sub hl [2, 1, 0] rfl) hP hD hS
set_option maxHeartbeats 4000000 in
set_option maxRecDepth 100000 in
theorem c_fSteps_ruleOut (l : Launch) (dC : Nat → ClassId) (dI : Nat → Nat → Nat) (cI cZ cJ cQ : ClassId) (a_0 a_0inSome a_0inAll a_0list a_0listowner a_0left a_0listcells a_0listeveryFirst a_0listeveryLast a_0listeveryCells a_0listfirst a_0listlast : Nat) (numbers_0 : Int64) (open_0 : Int64) (roundsDone_0 : Int32) (sz : Nat) {F : Nat} {inSome_0 : Nat → Int64} {inAll_0 : Nat → Int64} {count_0list : Int32} {owner_0list : Nat → Int32} {left_0 : Nat → Int32} {cells_0list : Nat → Int64} {out : Int32 × (Nat → Int64) × (Nat → Int64) × (Nat → Int32)} (hf : fSteps_ruleOut F inSome_0 inAll_0 count_0list owner_0list left_0 cells_0list = some out) : Met l yX8_ruleOut wsX8_ruleOut ({ frames := 2, cells := 0, slots := 0, locals := 43 } : Room) (va_Pc [.ref a_0] (wlP (dC, dI) (wlT cI cZ cJ cQ) (wl_fSteps_ruleOut cI cZ cJ cQ a_0 a_0inSome a_0inAll a_0list a_0listowner a_0left a_0listcells a_0listeveryFirst a_0listeveryLast a_0listeveryCells a_0listfirst a_0listlast numbers_0 open_0 roundsDone_0 inSome_0 inAll_0 count_0list owner_0list left_0 cells_0list) sz)) (va_Qi (fun (v : Int32) (_ : Unit) => v = out.1) (wlQ (dC, dI) (va_A (wl_fSteps_ruleOut cI cZ cJ cQ a_0 a_0inSome a_0inAll a_0list a_0listowner a_0left a_0listcells a_0listeveryFirst a_0listeveryLast a_0listeveryCells a_0listfirst a_0listlast numbers_0 open_0 roundsDone_0 inSome_0 inAll_0 count_0list owner_0list left_0 cells_0list) sz) (wl_fSteps_ruleOut cI cZ cJ cQ a_0 a_0inSome a_0inAll a_0list a_0listowner a_0left a_0listcells a_0listeveryFirst a_0listeveryLast a_0listeveryCells a_0listfirst a_0listlast numbers_0 open_0 roundsDone_0 out.2.1 out.2.2.1 count_0list owner_0list out.2.2.2 cells_0list)) (va_A (wl_fSteps_ruleOut cI cZ cJ cQ a_0 a_0inSome a_0inAll a_0list a_0listowner a_0left a_0listcells a_0listeveryFirst a_0listeveryLast a_0listeveryCells a_0listfirst a_0listlast numbers_0 open_0 roundsDone_0 inSome_0 inAll_0 count_0list owner_0list left_0 cells_0list) sz)) 0 0 (va_A (wl_fSteps_ruleOut cI cZ cJ cQ a_0 a_0inSome a_0inAll a_0list a_0listowner a_0left a_0listcells a_0listeveryFirst a_0listeveryLast a_0listeveryCells a_0listfirst a_0listlast numbers_0 open_0 roundsDone_0 inSome_0 inAll_0 count_0list owner_0list left_0 cells_0list) sz) := by
  refine wh_ofWz (lv := [(0, .ref a_0)]) RX8 (by decide) rfl rfl (Nat.le_of_ble_eq_true rfl) rfl ?_
  intro p e s m below meth c A QQ hx hb hml hown hts hP hK hN hD hA hret ls hl
  have hS : va_S A s.heap s.heap [] := va_S.rf
  have hiX8 : ∀ w ∈ wsX80, w ∈ wsX8_ruleOut := (fun _ h => List.mem_cons_of_mem _ (List.mem_append_left _ (List.mem_append_right _ (h))))
  unfold fSteps_ruleOut at hf
  refine lv_aload_n hx hb dX8_ruleOut_0 rfl (lv_at hl 0 rfl) ?_
  obtain ⟨s1, h_s1, hf⟩ := hf_bind hf
  refine wh_callv (D := (dC, dI)) (ws' := (wl_fSteps_ruleOut cI cZ cJ cQ a_0 a_0inSome a_0inAll a_0list a_0listowner a_0left a_0listcells a_0listeveryFirst a_0listeveryLast a_0listeveryCells a_0listfirst a_0listlast numbers_0 open_0 roundsDone_0 s1.1 s1.2 count_0list owner_0list left_0 cells_0list)) (va_runV (As := []) (rest := []) ⟨hx, hb, hml, hown, hts⟩ (c_fSteps_look l dC dI cI cZ cJ cQ a_0 a_0inSome a_0inAll a_0list a_0listowner a_0left a_0listcells a_0listeveryFirst a_0listeveryLast a_0listeveryCells a_0listfirst a_0listlast numbers_0 open_0 roundsDone_0 _ h_s1) (cwV 0 hts gX8_ruleOut_X8_look rfl rfl rfl (by decide +kernel) ⟨Nat.le_of_ble_eq_true rfl, Nat.le_of_ble_eq_true rfl⟩) (wh_preV (C := RX8) (T := TX8) (N := 7) hK hN hP hD [0, 1, 2, 3, 4, 5, 6] rfl rfl 7 0 rfl rfl) rfl rfl hl.1 rfl (lv_room (Nat.le_of_ble_eq_true rfl)) dX8_ruleOut_1 ⟨Nat.le_refl _, Nat.le_refl _⟩) hP hD hS hA [0, 1, 2, 3, 4, 5, 6] [] [0, 1, 2, 3, 4, 5, 6] rfl rfl rfl rfl (fun H locs hP hD hS => ?_)
  refine lv_aload_n hx hb dX8_ruleOut_4 rfl (lv_at hl 0 rfl) ?_
  refine va_get (D := (dC, dI)) (ci := 7) (C := RX8) (T := TX8) (N := 7) hx hb hts hiX8 hown hK hP 0 rfl rfl 2 (by decide) (hts (.fieldLink RX8 19 "PaddockFields$Steps" "inSome" "[J") (List.mem_cons_of_mem _ (List.mem_append_left _ (List.mem_append_left _ (List.mem_append_left _ (List.mem_of_getElem? (i := 0) rfl)))))) (fun _ h9 => h9) rfl dX8_ruleOut_5 ?_
  obtain ⟨s2, h_s2, hf⟩ := hf_bind hf
  refine wh_calll (D := (dC, dI)) (ws' := (wl_fSteps_ruleOut cI cZ cJ cQ a_0 a_0inSome a_0inAll a_0list a_0listowner a_0left a_0listcells a_0listeveryFirst a_0listeveryLast a_0listeveryCells a_0listfirst a_0listlast numbers_0 open_0 roundsDone_0 s1.1 s1.2 count_0list owner_0list left_0 cells_0list)) (va_runS (As := [.ref a_0inSome]) (rest := []) ⟨hx, hb, hml, hown, hts⟩ (c_fSteps_inJustOne l dC dI cI cZ cJ cQ a_0inSome _ h_s2) (va_cwS 1 hts gX8_ruleOut_X8_inJustOne rfl rfl rfl (by decide +kernel) ⟨Nat.le_of_ble_eq_true rfl, Nat.le_of_ble_eq_true rfl⟩) (wh_preS hK hN hP hD [1] rfl rfl) rfl rfl hl.1 rfl (lv_room (Nat.le_of_ble_eq_true rfl)) dX8_ruleOut_8 ⟨Nat.le_refl _, Nat.le_refl _⟩) hP hD hS hA [1] [0, 2, 3, 4, 5, 6] [0, 6, 1, 2, 3, 4, 5] rfl rfl rfl rfl (fun H locs hP hD hS => ?_)
  refine lv_lstore_n (lv' := [(1, .long s2), (0, .ref a_0)]) hx hb dX8_ruleOut_11 rfl hl (by decide) rfl (fun ls hl => ?_)
  refine lv_aload_n hx hb dX8_ruleOut_12 rfl (lv_at hl 1 rfl) ?_
  refine va_get (D := (dC, dI)) (ci := 7) (C := RX8) (T := TX8) (N := 7) hx hb hts hiX8 hown hK hP 0 rfl rfl 3 (by decide) (hts (.fieldLink RX8 23 "PaddockFields$Steps" "inAll" "[J") (List.mem_cons_of_mem _ (List.mem_append_left _ (List.mem_append_left _ (List.mem_append_left _ (List.mem_of_getElem? (i := 1) rfl)))))) (fun _ h9 => h9) rfl dX8_ruleOut_13 ?_
  obtain ⟨s3, h_s3, hf⟩ := hf_bind hf
  refine wh_calll (D := (dC, dI)) (ws' := (wl_fSteps_ruleOut cI cZ cJ cQ a_0 a_0inSome a_0inAll a_0list a_0listowner a_0left a_0listcells a_0listeveryFirst a_0listeveryLast a_0listeveryCells a_0listfirst a_0listlast numbers_0 open_0 roundsDone_0 s1.1 s1.2 count_0list owner_0list left_0 cells_0list)) (va_runS (As := [.ref a_0inAll]) (rest := []) ⟨hx, hb, hml, hown, hts⟩ (c_fSteps_inJustOne l dC dI cI cZ cJ cQ a_0inAll _ h_s3) (va_cwS 1 hts gX8_ruleOut_X8_inJustOne rfl rfl rfl (by decide +kernel) ⟨Nat.le_of_ble_eq_true rfl, Nat.le_of_ble_eq_true rfl⟩) (wh_preS hK hN hP hD [2] rfl rfl) rfl rfl hl.1 rfl (lv_room (Nat.le_of_ble_eq_true rfl)) dX8_ruleOut_16 ⟨Nat.le_refl _, Nat.le_refl _⟩) hP hD hS hA [2] [0, 1, 3, 4, 5, 6] [0, 1, 6, 2, 3, 4, 5] rfl rfl rfl rfl (fun H locs hP hD hS => ?_)
  refine lv_lstore_n (lv' := [(3, .long s3), (1, .long s2), (0, .ref a_0)]) hx hb dX8_ruleOut_19 rfl hl (by decide) rfl (fun ls hl => ?_)
  refine lv_aload_n hx hb dX8_ruleOut_20 rfl (lv_at hl 2 rfl) ?_
  refine va_get (D := (dC, dI)) (ci := 7) (C := RX8) (T := TX8) (N := 7) hx hb hts hiX8 hown hK hP 0 rfl rfl 3 (by decide) (hts (.fieldLink RX8 23 "PaddockFields$Steps" "inAll" "[J") (List.mem_cons_of_mem _ (List.mem_append_left _ (List.mem_append_left _ (List.mem_append_left _ (List.mem_of_getElem? (i := 1) rfl)))))) (fun _ h9 => h9) rfl dX8_ruleOut_21 ?_
  obtain ⟨s4, h_s4, hf⟩ := hf_bind hf
  refine wh_calll (D := (dC, dI)) (ws' := (wl_fSteps_ruleOut cI cZ cJ cQ a_0 a_0inSome a_0inAll a_0list a_0listowner a_0left a_0listcells a_0listeveryFirst a_0listeveryLast a_0listeveryCells a_0listfirst a_0listlast numbers_0 open_0 roundsDone_0 s1.1 s1.2 count_0list owner_0list left_0 cells_0list)) (va_runS (As := [.ref a_0inAll]) (rest := []) ⟨hx, hb, hml, hown, hts⟩ (c_fSteps_inAny l dC dI cI cZ cJ cQ a_0inAll _ h_s4) (va_cwS 1 hts gX8_ruleOut_X8_inAny rfl rfl rfl (by decide +kernel) ⟨Nat.le_of_ble_eq_true rfl, Nat.le_of_ble_eq_true rfl⟩) (wh_preS hK hN hP hD [2] rfl rfl) rfl rfl hl.1 rfl (lv_room (Nat.le_of_ble_eq_true rfl)) dX8_ruleOut_24 ⟨Nat.le_refl _, Nat.le_refl _⟩) hP hD hS hA [2] [0, 1, 3, 4, 5, 6] [0, 1, 6, 2, 3, 4, 5] rfl rfl rfl rfl (fun H locs hP hD hS => ?_)
  refine lv_lstore (lv' := [(5, .long s4), (3, .long s3), (1, .long s2), (0, .ref a_0)]) hx hb dX8_ruleOut_27 hl (by decide) rfl (fun ls hl => ?_)
  refine lv_iconst (v := 0) hx hb dX8_ruleOut_29 (by decide) ?_
  refine lv_istore (lv' := [(7, .int (0 : Int32)), (5, .long s4), (3, .long s3), (1, .long s2), (0, .ref a_0)]) hx hb dX8_ruleOut_30 hl (by decide) rfl (fun ls hl => ?_)
  refine lv_iconst (v := 0) hx hb dX8_ruleOut_32 (by decide) ?_
  refine lv_istore (lv' := [(8, .int (0 : Int32)), (7, .int (0 : Int32)), (5, .long s4), (3, .long s3), (1, .long s2), (0, .ref a_0)]) hx hb dX8_ruleOut_33 hl (by decide) rfl (fun ls hl => ?_)
  obtain ⟨r15, h_r15, hf⟩ := hf_bind hf
  have hE_1 : ∀ (H : Heap) (locs : List Loc) (ls : Array Slot), lv_has ls 14 [(7, .int r15.1)] → va_P (dC, dI) vwCl (wl_fSteps_ruleOut cI cZ cJ cQ a_0 a_0inSome a_0inAll a_0list a_0listowner a_0left a_0listcells a_0listeveryFirst a_0listeveryLast a_0listeveryCells a_0listfirst a_0listlast numbers_0 open_0 roundsDone_0 s1.1 s1.2 count_0list owner_0list r15.2.2 cells_0list) H → va_D A (wl_fSteps_ruleOut cI cZ cJ cQ a_0 a_0inSome a_0inAll a_0list a_0listowner a_0left a_0listcells a_0listeveryFirst a_0listeveryLast a_0listeveryCells a_0listfirst a_0listlast numbers_0 open_0 roundsDone_0 s1.1 s1.2 count_0list owner_0list r15.2.2 cells_0list) → va_S A s.heap H locs → W p l e ({ frames := 2, cells := 0, slots := 0, locals := 43 } : Room) s m [.ref a_0].toArray below meth c H locs 0 0 QQ (F0 m 156 ls []) := by
    intro H locs ls hl hP hD hS
    refine lv_iload hx hb dX8_ruleOut_156 (lv_at hl 0 rfl) ?_
    obtain ⟨z16, h_z16, hf⟩ := hf_bind hf
    obtain ⟨rfl, h_n⟩ := o_z_spec h_z16
    obtain rfl := Option.some.inj hf
    exact hret _ _ _ _ h_n hP hD hS dX8_ruleOut_158
  have hL_2 : ∀ (N : Nat) (l7_3 : Int32) (l8_4 : Int32) (left_0_5 : Nat → Int32), fSteps_ruleOut_L35 F s2 s3 s4 s1.1 s1.2 count_0list owner_0list cells_0list N l7_3 l8_4 left_0_5 = some r15 → ∀ (H : Heap) (locs : List Loc) (ls : Array Slot), lv_has ls 14 [(0, .ref a_0), (1, .long s2), (3, .long s3), (5, .long s4), (7, .int l7_3), (8, .int l8_4)] → va_P (dC, dI) vwCl (wl_fSteps_ruleOut cI cZ cJ cQ a_0 a_0inSome a_0inAll a_0list a_0listowner a_0left a_0listcells a_0listeveryFirst a_0listeveryLast a_0listeveryCells a_0listfirst a_0listlast numbers_0 open_0 roundsDone_0 s1.1 s1.2 count_0list owner_0list left_0_5 cells_0list) H → va_D A (wl_fSteps_ruleOut cI cZ cJ cQ a_0 a_0inSome a_0inAll a_0list a_0listowner a_0left a_0listcells a_0listeveryFirst a_0listeveryLast a_0listeveryCells a_0listfirst a_0listlast numbers_0 open_0 roundsDone_0 s1.1 s1.2 count_0list owner_0list left_0_5 cells_0list) → va_S A s.heap H locs → W p l e ({ frames := 2, cells := 0, slots := 0, locals := 43 } : Room) s m [.ref a_0].toArray below meth c H locs 0 0 QQ (F0 m 35 ls []) := by
    intro N
    induction N with
    | zero => intro l7_3 l8_4 left_0_5 hf; exact nomatch (show none = some _ from hf)
    | succ N ih =>
      intro l7_3 l8_4 left_0_5 hf H locs ls hl hP hD hS
      rw [fSteps_ruleOut_L35] at hf
      refine lv_iload hx hb dX8_ruleOut_35 (lv_at hl 5 rfl) ?_
      refine lv_sipush (v := 588) hx hb dX8_ruleOut_37 (by decide) ?_
      refine lv_icmp_ge (tgt := 156) hx hb dX8_ruleOut_40 (by decide) (fun cc => ?_) (fun cc => ?_)
      · replace hf := hf_pos cc hf
        obtain rfl := Option.some.inj hf
        exact hE_1 _ _ _ (lv_sub hl [4] rfl) hP hD hS
      · replace hf := hf_neg cc hf
        refine lv_aload_n hx hb dX8_ruleOut_43 rfl (lv_at hl 0 rfl) ?_
        refine va_get (D := (dC, dI)) (ci := 7) (C := RX8) (T := TX8) (N := 7) hx hb hts hiX8 hown hK hP 0 rfl rfl 0 (by decide) (hts (.fieldLink RX8 9 "PaddockFields$Steps" "list" "LPaddockFields$Rectangles;") (List.mem_cons_of_mem _ (List.mem_append_left _ (List.mem_append_left _ (List.mem_append_left _ (List.mem_of_getElem? (i := 2) rfl)))))) (fun _ h9 => h9) rfl dX8_ruleOut_44 ?_
        refine lv_iload hx hb dX8_ruleOut_47 (lv_at hl 5 rfl) ?_
        obtain ⟨s5, h_s5, hf⟩ := hf_bind hf
        refine wh_calli (D := (dC, dI)) (ws' := (wl_fSteps_ruleOut cI cZ cJ cQ a_0 a_0inSome a_0inAll a_0list a_0listowner a_0left a_0listcells a_0listeveryFirst a_0listeveryLast a_0listeveryCells a_0listfirst a_0listlast numbers_0 open_0 roundsDone_0 s1.1 s1.2 count_0list owner_0list left_0_5 cells_0list)) (va_runV (As := [.int l8_4]) (rest := []) ⟨hx, hb, hml, hown, hts⟩ (c_fRectangles_ownerAt l dC dI cI cZ cJ cQ a_0list a_0listowner a_0listeveryFirst a_0listeveryLast a_0listeveryCells a_0listfirst a_0listlast a_0listcells _ h_s5) (cwV 1 hts gX8_ruleOut_X7_ownerAt rfl rfl rfl (by decide +kernel) ⟨Nat.le_of_ble_eq_true rfl, Nat.le_of_ble_eq_true rfl⟩) (wh_preV (C := RX7) (T := TX7) (N := 8) hK hN hP hD [3, 4] rfl rfl 6 0 rfl rfl) rfl rfl hl.1 rfl (lv_room (Nat.le_of_ble_eq_true rfl)) dX8_ruleOut_49 ⟨Nat.le_refl _, Nat.le_refl _⟩) hP hD hS hA [3, 4] [0, 1, 2, 5, 6] [0, 1, 2, 5, 6, 3, 4] rfl rfl rfl rfl (fun H locs hP hD hS => ?_)
        refine lv_istore (lv' := [(9, .int s5), (0, .ref a_0), (1, .long s2), (3, .long s3), (5, .long s4), (7, .int l7_3), (8, .int l8_4)]) hx hb dX8_ruleOut_52 hl (by decide) rfl (fun ls hl => ?_)
        refine lv_aload_n hx hb dX8_ruleOut_54 rfl (lv_at hl 1 rfl) ?_
        refine va_get (D := (dC, dI)) (ci := 7) (C := RX8) (T := TX8) (N := 7) hx hb hts hiX8 hown hK hP 0 rfl rfl 1 (by decide) (hts (.fieldLink RX8 15 "PaddockFields$Steps" "left" "[Z") (List.mem_cons_of_mem _ (List.mem_append_left _ (List.mem_append_left _ (List.mem_append_left _ (List.mem_of_getElem? (i := 3) rfl)))))) (fun _ h9 => h9) rfl dX8_ruleOut_55 ?_
        refine lv_iload hx hb dX8_ruleOut_58 (lv_at hl 6 rfl) ?_
        obtain ⟨v6, h_v6, hf⟩ := hf_bind hf
        refine wh_ldZ (D := (dC, dI)) hx hb hK hP 5 1 rfl rfl h_v6 dX8_ruleOut_60 ?_
        obtain ⟨j14, h_j14, hf⟩ := hf_bind hf
        have hJ_6 : ∀ (H : Heap) (locs : List Loc) (ls : Array Slot), lv_has ls 14 [(0, .ref a_0), (1, .long s2), (3, .long s3), (5, .long s4), (7, .int j14.1), (8, .int l8_4)] → va_P (dC, dI) vwCl (wl_fSteps_ruleOut cI cZ cJ cQ a_0 a_0inSome a_0inAll a_0list a_0listowner a_0left a_0listcells a_0listeveryFirst a_0listeveryLast a_0listeveryCells a_0listfirst a_0listlast numbers_0 open_0 roundsDone_0 s1.1 s1.2 count_0list owner_0list j14.2 cells_0list) H → va_D A (wl_fSteps_ruleOut cI cZ cJ cQ a_0 a_0inSome a_0inAll a_0list a_0listowner a_0left a_0listcells a_0listeveryFirst a_0listeveryLast a_0listeveryCells a_0listfirst a_0listlast numbers_0 open_0 roundsDone_0 s1.1 s1.2 count_0list owner_0list j14.2 cells_0list) → va_S A s.heap H locs → W p l e ({ frames := 2, cells := 0, slots := 0, locals := 43 } : Room) s m [.ref a_0].toArray below meth c H locs 0 0 QQ (F0 m 150 ls []) := by
          intro H locs ls hl hP hD hS
          refine lv_iinc (v := (l8_4 + (1 : Int32))) (lv' := [(8, .int (l8_4 + (1 : Int32))), (0, .ref a_0), (1, .long s2), (3, .long s3), (5, .long s4), (7, .int j14.1)]) hx hb dX8_ruleOut_150 hl (k := 5) rfl rfl (by decide) rfl (fun ls hl => ?_)
          refine lv_goto (tgt := 35) hx hb dX8_ruleOut_153 (by decide) ?_
          exact ih _ _ _ hf _ _ _ (lv_sub hl [1, 2, 3, 4, 5, 0] rfl) hP hD hS
        clear hf
        have hf := h_j14
        clear h_j14
        refine lv_if_eq (tgt := 150) hx hb dX8_ruleOut_61 (by decide) (fun cc => ?_) (fun cc => ?_)
        · replace hf := hf_pos cc hf
          obtain rfl := Option.some.inj hf
          exact hJ_6 _ _ _ (lv_sub hl [1, 2, 3, 4, 5, 6] rfl) hP hD hS
        · replace hf := hf_neg cc hf
          refine lv_iload hx hb dX8_ruleOut_64 (lv_at hl 0 rfl) ?_
          obtain ⟨s7, h_s7, hf⟩ := hf_bind hf
          refine wh_calli (D := (dC, dI)) (ws' := (wl_fSteps_ruleOut cI cZ cJ cQ a_0 a_0inSome a_0inAll a_0list a_0listowner a_0left a_0listcells a_0listeveryFirst a_0listeveryLast a_0listeveryCells a_0listfirst a_0listlast numbers_0 open_0 roundsDone_0 s1.1 s1.2 count_0list owner_0list left_0_5 cells_0list)) (va_runSN (As := [.int s5]) (rest := []) ⟨hx, hb, hml, hown, hts⟩ (c_fX_isCell l dC dI cI cZ cJ cQ _ h_s7) ⟨va_cnB 1 hts gX8_ruleOut_X9_isCell_n78 rfl rfl rfl (hN (RX8, 78, yX9_isCell) (List.mem_of_getElem? (i := 4) rfl)) (hts (.initialized RX9) (List.mem_cons_of_mem _ (List.mem_append_left _ (List.mem_append_left _ (List.mem_append_left _ (List.mem_of_getElem? (i := 19) rfl)))))) (by decide +kernel) ⟨Nat.le_of_ble_eq_true rfl, Nat.le_of_ble_eq_true rfl⟩, (hts (.static yX9_isCell) (List.mem_cons_of_mem _ (List.mem_append_left _ (List.mem_append_left _ (List.mem_append_left _ (List.mem_of_getElem? (i := 18) rfl)))))), trivial⟩ (wh_preS hK hN hP hD [] rfl rfl) rfl rfl hl.1 rfl (lv_room (Nat.le_of_ble_eq_true rfl)) dX8_ruleOut_66 ⟨Nat.le_refl _, Nat.le_refl _⟩) hP hD hS hA [] [0, 1, 2, 3, 4, 5, 6] [0, 1, 2, 3, 4, 5, 6] rfl rfl rfl rfl (fun H locs hP hD hS => ?_)
          refine lv_if_eq (tgt := 150) hx hb dX8_ruleOut_69 (by decide) (fun cc => ?_) (fun cc => ?_)
          · replace hf := hf_pos cc hf
            obtain rfl := Option.some.inj hf
            exact hJ_6 _ _ _ (lv_sub hl [1, 2, 3, 4, 5, 6] rfl) hP hD hS
          · replace hf := hf_neg cc hf
            refine lv_lload_n hx hb dX8_ruleOut_72 rfl (lv_at hl 2 rfl) ?_
            refine lv_aload_n hx hb dX8_ruleOut_73 rfl (lv_at hl 1 rfl) ?_
            refine va_get (D := (dC, dI)) (ci := 7) (C := RX8) (T := TX8) (N := 7) hx hb hts hiX8 hown hK hP 0 rfl rfl 2 (by decide) (hts (.fieldLink RX8 19 "PaddockFields$Steps" "inSome" "[J") (List.mem_cons_of_mem _ (List.mem_append_left _ (List.mem_append_left _ (List.mem_append_left _ (List.mem_of_getElem? (i := 0) rfl)))))) (fun _ h9 => h9) rfl dX8_ruleOut_74 ?_
            refine lv_iload hx hb dX8_ruleOut_77 (lv_at hl 0 rfl) ?_
            obtain ⟨v8, h_v8, hf⟩ := hf_bind hf
            refine wh_ldJ (D := (dC, dI)) hx hb hK hP 1 2 rfl rfl h_v8 dX8_ruleOut_79 ?_
            refine lv_land hx hb dX8_ruleOut_80 ?_
            refine lv_aload_n hx hb dX8_ruleOut_81 rfl (lv_at hl 1 rfl) ?_
            refine va_get (D := (dC, dI)) (ci := 7) (C := RX8) (T := TX8) (N := 7) hx hb hts hiX8 hown hK hP 0 rfl rfl 0 (by decide) (hts (.fieldLink RX8 9 "PaddockFields$Steps" "list" "LPaddockFields$Rectangles;") (List.mem_cons_of_mem _ (List.mem_append_left _ (List.mem_append_left _ (List.mem_append_left _ (List.mem_of_getElem? (i := 2) rfl)))))) (fun _ h9 => h9) rfl dX8_ruleOut_82 ?_
            refine lv_iload hx hb dX8_ruleOut_85 (lv_at hl 6 rfl) ?_
            obtain ⟨s9, h_s9, hf⟩ := hf_bind hf
            refine wh_calll (D := (dC, dI)) (ws' := (wl_fSteps_ruleOut cI cZ cJ cQ a_0 a_0inSome a_0inAll a_0list a_0listowner a_0left a_0listcells a_0listeveryFirst a_0listeveryLast a_0listeveryCells a_0listfirst a_0listlast numbers_0 open_0 roundsDone_0 s1.1 s1.2 count_0list owner_0list left_0_5 cells_0list)) (va_runV (As := [.int l8_4]) (rest := [.long (s2 &&& v8)]) ⟨hx, hb, hml, hown, hts⟩ (c_fRectangles_cellsAt l dC dI cI cZ cJ cQ a_0list a_0listcells a_0listeveryFirst a_0listeveryLast a_0listeveryCells a_0listfirst a_0listlast a_0listowner _ h_s9) (cwV 1 hts gX8_ruleOut_X7_cellsAt rfl rfl rfl (by decide +kernel) ⟨Nat.le_of_ble_eq_true rfl, Nat.le_of_ble_eq_true rfl⟩) (wh_preV (C := RX7) (T := TX7) (N := 8) hK hN hP hD [3, 6] rfl rfl 6 0 rfl rfl) rfl rfl hl.1 rfl (lv_room (Nat.le_of_ble_eq_true rfl)) dX8_ruleOut_87 ⟨Nat.le_refl _, Nat.le_refl _⟩) hP hD hS hA [3, 6] [0, 1, 2, 4, 5] [0, 1, 2, 5, 3, 4, 6] rfl rfl rfl rfl (fun H locs hP hD hS => ?_)
            refine lv_ldc2 hx hb hown (hts (.constantLong RX8 51 (-1)) (List.mem_cons_of_mem _ (List.mem_append_left _ (List.mem_append_left _ (List.mem_append_left _ (List.mem_of_getElem? (i := 4) rfl)))))) dX8_ruleOut_90 ?_
            refine lv_lxor hx hb dX8_ruleOut_93 ?_
            refine lv_land hx hb dX8_ruleOut_94 ?_
            refine lv_lstore (lv' := [(10, .long ((s2 &&& v8) &&& (s9 ^^^ (-1 : Int64)))), (9, .int s5), (0, .ref a_0), (1, .long s2), (3, .long s3), (5, .long s4), (7, .int l7_3), (8, .int l8_4)]) hx hb dX8_ruleOut_95 hl (by decide) rfl (fun ls hl => ?_)
            refine lv_lload hx hb dX8_ruleOut_97 (lv_at hl 5 rfl) ?_
            refine lv_lload_n hx hb dX8_ruleOut_99 rfl (lv_at hl 4 rfl) ?_
            refine lv_aload_n hx hb dX8_ruleOut_100 rfl (lv_at hl 2 rfl) ?_
            refine va_get (D := (dC, dI)) (ci := 7) (C := RX8) (T := TX8) (N := 7) hx hb hts hiX8 hown hK hP 0 rfl rfl 3 (by decide) (hts (.fieldLink RX8 23 "PaddockFields$Steps" "inAll" "[J") (List.mem_cons_of_mem _ (List.mem_append_left _ (List.mem_append_left _ (List.mem_append_left _ (List.mem_of_getElem? (i := 1) rfl)))))) (fun _ h9 => h9) rfl dX8_ruleOut_101 ?_
            refine lv_iload hx hb dX8_ruleOut_104 (lv_at hl 1 rfl) ?_
            obtain ⟨v10, h_v10, hf⟩ := hf_bind hf
            refine wh_ldJ (D := (dC, dI)) hx hb hK hP 2 2 rfl rfl h_v10 dX8_ruleOut_106 ?_
            refine lv_land hx hb dX8_ruleOut_107 ?_
            refine lv_ldc2 hx hb hown (hts (.constantLong RX8 51 (-1)) (List.mem_cons_of_mem _ (List.mem_append_left _ (List.mem_append_left _ (List.mem_append_left _ (List.mem_of_getElem? (i := 4) rfl)))))) dX8_ruleOut_108 ?_
            refine lv_lxor hx hb dX8_ruleOut_111 ?_
            refine lv_land hx hb dX8_ruleOut_112 ?_
            refine lv_lstore (lv' := [(12, .long (s4 &&& ((s3 &&& v10) ^^^ (-1 : Int64)))), (10, .long ((s2 &&& v8) &&& (s9 ^^^ (-1 : Int64)))), (9, .int s5), (0, .ref a_0), (1, .long s2), (3, .long s3), (5, .long s4), (7, .int l7_3), (8, .int l8_4)]) hx hb dX8_ruleOut_113 hl (by decide) rfl (fun ls hl => ?_)
            refine lv_lload hx hb dX8_ruleOut_115 (lv_at hl 1 rfl) ?_
            refine lv_lconst (v := 0) hx hb dX8_ruleOut_117 (by decide) ?_
            refine W.lcmp hx hb dX8_ruleOut_118 ?_
            refine lv_if_ne (tgt := 139) hx hb dX8_ruleOut_119 (by decide) (fun cc => ?_) (fun cc => ?_)
            · replace hf := hf_pos (mt (lg_cmp_eq _ _).mpr cc) hf
              refine lv_aload_n hx hb dX8_ruleOut_139 rfl (lv_at hl 3 rfl) ?_
              refine va_get (D := (dC, dI)) (ci := 7) (C := RX8) (T := TX8) (N := 7) hx hb hts hiX8 hown hK hP 0 rfl rfl 1 (by decide) (hts (.fieldLink RX8 15 "PaddockFields$Steps" "left" "[Z") (List.mem_cons_of_mem _ (List.mem_append_left _ (List.mem_append_left _ (List.mem_append_left _ (List.mem_of_getElem? (i := 3) rfl)))))) (fun _ h9 => h9) rfl dX8_ruleOut_140 ?_
              refine lv_iload hx hb dX8_ruleOut_143 (lv_at hl 8 rfl) ?_
              refine lv_iconst (v := 0) hx hb dX8_ruleOut_145 (by decide) ?_
              obtain ⟨w11, h_w11, hf⟩ := hf_bind hf
              refine wh_stZ (D := (dC, dI)) (ws' := (wl_fSteps_ruleOut cI cZ cJ cQ a_0 a_0inSome a_0inAll a_0list a_0listowner a_0left a_0listcells a_0listeveryFirst a_0listeveryLast a_0listeveryCells a_0listfirst a_0listlast numbers_0 open_0 roundsDone_0 s1.1 s1.2 count_0list owner_0list w11 cells_0list)) hx hb hK hP hD hS 5 1 rfl rfl rfl h_w11 dX8_ruleOut_146 (fun H locs hP hD hS => ?_)
              refine lv_iconst (v := 1) hx hb dX8_ruleOut_147 (by decide) ?_
              refine lv_istore (lv' := [(7, .int (1 : Int32)), (12, .long (s4 &&& ((s3 &&& v10) ^^^ (-1 : Int64)))), (10, .long ((s2 &&& v8) &&& (s9 ^^^ (-1 : Int64)))), (9, .int s5), (0, .ref a_0), (1, .long s2), (3, .long s3), (5, .long s4), (8, .int l8_4)]) hx hb dX8_ruleOut_148 hl (by decide) rfl (fun ls hl => ?_)
              obtain rfl := Option.some.inj hf
              exact hJ_6 _ _ _ (lv_sub hl [4, 5, 6, 7, 0, 8] rfl) hP hD hS
            · replace hf := hf_neg (not_not_intro ((lg_cmp_eq _ _).mp cc)) hf
              refine lv_lload hx hb dX8_ruleOut_122 (lv_at hl 0 rfl) ?_
              refine lv_aload_n hx hb dX8_ruleOut_124 rfl (lv_at hl 3 rfl) ?_
              refine va_get (D := (dC, dI)) (ci := 7) (C := RX8) (T := TX8) (N := 7) hx hb hts hiX8 hown hK hP 0 rfl rfl 0 (by decide) (hts (.fieldLink RX8 9 "PaddockFields$Steps" "list" "LPaddockFields$Rectangles;") (List.mem_cons_of_mem _ (List.mem_append_left _ (List.mem_append_left _ (List.mem_append_left _ (List.mem_of_getElem? (i := 2) rfl)))))) (fun _ h9 => h9) rfl dX8_ruleOut_125 ?_
              refine lv_iload hx hb dX8_ruleOut_128 (lv_at hl 8 rfl) ?_
              obtain ⟨s12, h_s12, hf⟩ := hf_bind hf
              refine wh_calll (D := (dC, dI)) (ws' := (wl_fSteps_ruleOut cI cZ cJ cQ a_0 a_0inSome a_0inAll a_0list a_0listowner a_0left a_0listcells a_0listeveryFirst a_0listeveryLast a_0listeveryCells a_0listfirst a_0listlast numbers_0 open_0 roundsDone_0 s1.1 s1.2 count_0list owner_0list left_0_5 cells_0list)) (va_runV (As := [.int l8_4]) (rest := [.long (s4 &&& ((s3 &&& v10) ^^^ (-1 : Int64)))]) ⟨hx, hb, hml, hown, hts⟩ (c_fRectangles_cellsAt l dC dI cI cZ cJ cQ a_0list a_0listcells a_0listeveryFirst a_0listeveryLast a_0listeveryCells a_0listfirst a_0listlast a_0listowner _ h_s12) (cwV 1 hts gX8_ruleOut_X7_cellsAt rfl rfl rfl (by decide +kernel) ⟨Nat.le_of_ble_eq_true rfl, Nat.le_of_ble_eq_true rfl⟩) (wh_preV (C := RX7) (T := TX7) (N := 8) hK hN hP hD [3, 6] rfl rfl 6 0 rfl rfl) rfl rfl hl.1 rfl (lv_room (Nat.le_of_ble_eq_true rfl)) dX8_ruleOut_130 ⟨Nat.le_refl _, Nat.le_refl _⟩) hP hD hS hA [3, 6] [0, 1, 2, 4, 5] [0, 1, 2, 5, 3, 4, 6] rfl rfl rfl rfl (fun H locs hP hD hS => ?_)
              refine lv_land hx hb dX8_ruleOut_133 ?_
              refine lv_lconst (v := 0) hx hb dX8_ruleOut_134 (by decide) ?_
              refine W.lcmp hx hb dX8_ruleOut_135 ?_
              refine lv_if_eq (tgt := 150) hx hb dX8_ruleOut_136 (by decide) (fun cc => ?_) (fun cc => ?_)
              · replace hf := hf_pos ((lg_cmp_eq _ _).mp cc) hf
                obtain rfl := Option.some.inj hf
                exact hJ_6 _ _ _ (lv_sub hl [3, 4, 5, 6, 7, 8] rfl) hP hD hS
              · replace hf := hf_neg (mt (lg_cmp_eq _ _).mpr cc) hf
                refine lv_aload_n hx hb dX8_ruleOut_139 rfl (lv_at hl 3 rfl) ?_
                refine va_get (D := (dC, dI)) (ci := 7) (C := RX8) (T := TX8) (N := 7) hx hb hts hiX8 hown hK hP 0 rfl rfl 1 (by decide) (hts (.fieldLink RX8 15 "PaddockFields$Steps" "left" "[Z") (List.mem_cons_of_mem _ (List.mem_append_left _ (List.mem_append_left _ (List.mem_append_left _ (List.mem_of_getElem? (i := 3) rfl)))))) (fun _ h9 => h9) rfl dX8_ruleOut_140 ?_
                refine lv_iload hx hb dX8_ruleOut_143 (lv_at hl 8 rfl) ?_
                refine lv_iconst (v := 0) hx hb dX8_ruleOut_145 (by decide) ?_
                obtain ⟨w13, h_w13, hf⟩ := hf_bind hf
                refine wh_stZ (D := (dC, dI)) (ws' := (wl_fSteps_ruleOut cI cZ cJ cQ a_0 a_0inSome a_0inAll a_0list a_0listowner a_0left a_0listcells a_0listeveryFirst a_0listeveryLast a_0listeveryCells a_0listfirst a_0listlast numbers_0 open_0 roundsDone_0 s1.1 s1.2 count_0list owner_0list w13 cells_0list)) hx hb hK hP hD hS 5 1 rfl rfl rfl h_w13 dX8_ruleOut_146 (fun H locs hP hD hS => ?_)
                refine lv_iconst (v := 1) hx hb dX8_ruleOut_147 (by decide) ?_
                refine lv_istore (lv' := [(7, .int (1 : Int32)), (12, .long (s4 &&& ((s3 &&& v10) ^^^ (-1 : Int64)))), (10, .long ((s2 &&& v8) &&& (s9 ^^^ (-1 : Int64)))), (9, .int s5), (0, .ref a_0), (1, .long s2), (3, .long s3), (5, .long s4), (8, .int l8_4)]) hx hb dX8_ruleOut_148 hl (by decide) rfl (fun ls hl => ?_)
                obtain rfl := Option.some.inj hf
                exact hJ_6 _ _ _ (lv_sub hl [4, 5, 6, 7, 0, 8] rfl) hP hD hS
  exact hL_2 _ _ _ _ h_r15 _ _ _ (lv_sub hl [5, 4, 3, 2, 1, 0] rfl) hP hD hS
set_option maxHeartbeats 4000000 in
set_option maxRecDepth 100000 in
theorem c_fSteps_run (l : Launch) (dC : Nat → ClassId) (dI : Nat → Nat → Nat) (cI cZ cJ cQ : ClassId) (a_0 a_1 a_1inField a_1number a_0list a_0listeveryCells a_0listeveryFirst a_0listfirst a_0listeveryLast a_0listlast a_0listcells a_0listowner a_0left a_0inSome a_0inAll a_1first a_1last : Nat) (sz : Nat) {F : Nat} {inField_1 : Nat → Int32} {number_1 : Nat → Int32} {count_0list : Int32} {everyCells_0list : Nat → Int64} {everyFirst_0list : Nat → Int32} {first_0list : Nat → Int32} {everyLast_0list : Nat → Int32} {last_0list : Nat → Int32} {cells_0list : Nat → Int64} {owner_0list : Nat → Int32} {open_0 : Int64} {numbers_0 : Int64} {left_0 : Nat → Int32} {roundsDone_0 : Int32} {inSome_0 : Nat → Int64} {inAll_0 : Nat → Int64} {out : Int32 × (Nat → Int32) × (Nat → Int32) × (Nat → Int64) × (Nat → Int32) × Int64 × Int64 × (Nat → Int32) × Int32 × (Nat → Int64) × (Nat → Int64)} (hf : fSteps_run F inField_1 number_1 count_0list everyCells_0list everyFirst_0list first_0list everyLast_0list last_0list cells_0list owner_0list open_0 numbers_0 left_0 roundsDone_0 inSome_0 inAll_0 = some out) : Met l yX8_run wsX8_run ({ frames := 3, cells := 0, slots := 0, locals := 76 } : Room) (va_Pc [.ref a_0, .ref a_1] (wlP (dC, dI) (wlT cI cZ cJ cQ) (wl_fSteps_run cI cZ cJ cQ a_0 a_1 a_1inField a_1number a_0list a_0listeveryCells a_0listeveryFirst a_0listfirst a_0listeveryLast a_0listlast a_0listcells a_0listowner a_0left a_0inSome a_0inAll a_1first a_1last numbers_0 open_0 roundsDone_0 inField_1 number_1 count_0list everyCells_0list everyFirst_0list first_0list everyLast_0list last_0list cells_0list owner_0list left_0 inSome_0 inAll_0) sz)) (va_Qv (fun (_ : Unit) => True) (wlQ (dC, dI) (va_A (wl_fSteps_run cI cZ cJ cQ a_0 a_1 a_1inField a_1number a_0list a_0listeveryCells a_0listeveryFirst a_0listfirst a_0listeveryLast a_0listlast a_0listcells a_0listowner a_0left a_0inSome a_0inAll a_1first a_1last numbers_0 open_0 roundsDone_0 inField_1 number_1 count_0list everyCells_0list everyFirst_0list first_0list everyLast_0list last_0list cells_0list owner_0list left_0 inSome_0 inAll_0) sz) (wl_fSteps_run cI cZ cJ cQ a_0 a_1 a_1inField a_1number a_0list a_0listeveryCells a_0listeveryFirst a_0listfirst a_0listeveryLast a_0listlast a_0listcells a_0listowner a_0left a_0inSome a_0inAll a_1first a_1last out.2.2.2.2.2.2.1 out.2.2.2.2.2.1 out.2.2.2.2.2.2.2.2.1 inField_1 number_1 out.1 everyCells_0list everyFirst_0list out.2.1 everyLast_0list out.2.2.1 out.2.2.2.1 out.2.2.2.2.1 out.2.2.2.2.2.2.2.1 out.2.2.2.2.2.2.2.2.2.1 out.2.2.2.2.2.2.2.2.2.2)) (va_A (wl_fSteps_run cI cZ cJ cQ a_0 a_1 a_1inField a_1number a_0list a_0listeveryCells a_0listeveryFirst a_0listfirst a_0listeveryLast a_0listlast a_0listcells a_0listowner a_0left a_0inSome a_0inAll a_1first a_1last numbers_0 open_0 roundsDone_0 inField_1 number_1 count_0list everyCells_0list everyFirst_0list first_0list everyLast_0list last_0list cells_0list owner_0list left_0 inSome_0 inAll_0) sz)) 0 0 (va_A (wl_fSteps_run cI cZ cJ cQ a_0 a_1 a_1inField a_1number a_0list a_0listeveryCells a_0listeveryFirst a_0listfirst a_0listeveryLast a_0listlast a_0listcells a_0listowner a_0left a_0inSome a_0inAll a_1first a_1last numbers_0 open_0 roundsDone_0 inField_1 number_1 count_0list everyCells_0list everyFirst_0list first_0list everyLast_0list last_0list cells_0list owner_0list left_0 inSome_0 inAll_0) sz) := by
  refine wh_ofWv (lv := [(0, .ref a_0), (1, .ref a_1)]) RX8 (by decide) rfl rfl (Nat.le_of_ble_eq_true rfl) rfl ?_
  intro p e s m below meth c A QQ hx hb hml hown hts hP hK hN hD hA hret ls hl
  have hS : va_S A s.heap s.heap [] := va_S.rf
  have hiX8 : ∀ w ∈ wsX80, w ∈ wsX8_run := (fun _ h => List.mem_cons_of_mem _ (List.mem_append_left _ (List.mem_append_left _ (List.mem_append_right _ (h)))))
  unfold fSteps_run at hf
  refine lv_aload_n hx hb dX8_run_0 rfl (lv_at hl 0 rfl) ?_
  refine va_get (D := (dC, dI)) (ci := 7) (C := RX8) (T := TX8) (N := 7) hx hb hts hiX8 hown hK hP 0 rfl rfl 0 (by decide) (hts (.fieldLink RX8 9 "PaddockFields$Steps" "list" "LPaddockFields$Rectangles;") (List.mem_cons_of_mem _ (List.mem_append_left _ (List.mem_append_left _ (List.mem_append_left _ (List.mem_append_left _ (List.mem_of_getElem? (i := 0) rfl))))))) (fun _ h9 => h9) rfl dX8_run_1 ?_
  refine lv_aload_n hx hb dX8_run_4 rfl (lv_at hl 1 rfl) ?_
  obtain ⟨s1, h_s1, hf⟩ := hf_bind hf
  refine wh_callv (D := (dC, dI)) (ws' := (wl_fSteps_run cI cZ cJ cQ a_0 a_1 a_1inField a_1number a_0list a_0listeveryCells a_0listeveryFirst a_0listfirst a_0listeveryLast a_0listlast a_0listcells a_0listowner a_0left a_0inSome a_0inAll a_1first a_1last numbers_0 open_0 roundsDone_0 inField_1 number_1 s1.1 everyCells_0list everyFirst_0list s1.2.1 everyLast_0list s1.2.2.1 s1.2.2.2.1 s1.2.2.2.2 left_0 inSome_0 inAll_0)) (va_runV (As := [.ref a_1]) (rest := []) ⟨hx, hb, hml, hown, hts⟩ (c_fRectangles_find l dC dI cI cZ cJ cQ a_1 a_1inField a_1number a_0list a_0listeveryCells a_0listeveryFirst a_0listfirst a_0listeveryLast a_0listlast a_0listcells a_0listowner a_1first a_1last _ h_s1) (cwV 1 hts gX8_run_X7_find rfl rfl rfl (by decide +kernel) ⟨Nat.le_of_ble_eq_true rfl, Nat.le_of_ble_eq_true rfl⟩) (wh_preV (C := RX7) (T := TX7) (N := 8) hK hN hP hD [1, 2, 3, 4, 5, 6, 7, 8, 9, 10, 11] rfl rfl 6 3 rfl rfl) rfl rfl hl.1 rfl (lv_room (Nat.le_of_ble_eq_true rfl)) dX8_run_5 ⟨Nat.le_refl _, Nat.le_refl _⟩) hP hD hS hA [1, 2, 3, 4, 5, 6, 7, 8, 9, 10, 11] [0, 12, 13, 14] [0, 4, 5, 6, 7, 8, 9, 10, 11, 12, 13, 14, 1, 2, 3] rfl rfl rfl rfl (fun H locs hP hD hS => ?_)
  refine lv_aload_n hx hb dX8_run_8 rfl (lv_at hl 0 rfl) ?_
  refine lv_ldc2 hx hb hown (hts (.constantLong RX8 43 (4398046511103)) (List.mem_cons_of_mem _ (List.mem_append_left _ (List.mem_append_left _ (List.mem_append_left _ (List.mem_append_left _ (List.mem_of_getElem? (i := 1) rfl))))))) dX8_run_9 ?_
  refine lv_aload_n hx hb dX8_run_12 rfl (lv_at hl 1 rfl) ?_
  obtain ⟨s2, h_s2, hf⟩ := hf_bind hf
  refine wh_calll (D := (dC, dI)) (ws' := (wl_fSteps_run cI cZ cJ cQ a_0 a_1 a_1inField a_1number a_0list a_0listeveryCells a_0listeveryFirst a_0listfirst a_0listeveryLast a_0listlast a_0listcells a_0listowner a_0left a_0inSome a_0inAll a_1first a_1last numbers_0 open_0 roundsDone_0 inField_1 number_1 s1.1 everyCells_0list everyFirst_0list s1.2.1 everyLast_0list s1.2.2.1 s1.2.2.2.1 s1.2.2.2.2 left_0 inSome_0 inAll_0)) (va_runV (As := []) (rest := [.long (4398046511103 : Int64), .ref a_0]) ⟨hx, hb, hml, hown, hts⟩ (c_fBoard_cellsInFields l dC dI cI cZ cJ cQ a_1 a_1inField a_1number a_1first a_1last _ h_s2) (cwV 0 hts gX8_run_X0_cellsInFields rfl rfl rfl (by decide +kernel) ⟨Nat.le_of_ble_eq_true rfl, Nat.le_of_ble_eq_true rfl⟩) (wh_preV (C := RX0) (T := TX0) (N := 4) hK hN hP hD [1, 2] rfl rfl 0 0 rfl rfl) rfl rfl hl.1 rfl (lv_room (Nat.le_of_ble_eq_true rfl)) dX8_run_13 ⟨Nat.le_refl _, Nat.le_refl _⟩) hP hD hS hA [1, 2] [0, 3, 4, 5, 6, 7, 8, 9, 10, 11, 12, 13, 14] [0, 13, 14, 1, 2, 3, 4, 5, 6, 7, 8, 9, 10, 11, 12] rfl rfl rfl rfl (fun H locs hP hD hS => ?_)
  refine lv_ldc2 hx hb hown (hts (.constantLong RX8 51 (-1)) (List.mem_cons_of_mem _ (List.mem_append_left _ (List.mem_append_left _ (List.mem_append_left _ (List.mem_append_left _ (List.mem_of_getElem? (i := 2) rfl))))))) dX8_run_16 ?_
  refine lv_lxor hx hb dX8_run_19 ?_
  refine lv_land hx hb dX8_run_20 ?_
  refine wh_put (D := (dC, dI)) (ci := 7) (C := RX8) (T := TX8) (N := 7) (ty := .long) (v := .long ((4398046511103 : Int64) &&& (s2 ^^^ (-1 : Int64)))) (ws' := (wl_fSteps_run cI cZ cJ cQ a_0 a_1 a_1inField a_1number a_0list a_0listeveryCells a_0listeveryFirst a_0listfirst a_0listeveryLast a_0listlast a_0listcells a_0listowner a_0left a_0inSome a_0inAll a_1first a_1last numbers_0 ((4398046511103 : Int64) &&& (s2 ^^^ (-1 : Int64))) roundsDone_0 inField_1 number_1 s1.1 everyCells_0list everyFirst_0list s1.2.1 everyLast_0list s1.2.2.1 s1.2.2.2.1 s1.2.2.2.2 left_0 inSome_0 inAll_0)) hx hb hts hiX8 tyX8 tyX8_ok nmX8 hown hK hP hD hS 0 rfl rfl 5 (by decide) (hts (.fieldLink RX8 30 "PaddockFields$Steps" "open" "J") (List.mem_cons_of_mem _ (List.mem_append_left _ (List.mem_append_left _ (List.mem_append_left _ (List.mem_append_left _ (List.mem_of_getElem? (i := 3) rfl))))))) (fun _ h9 => h9) rfl rfl rfl rfl (Nat.le_of_ble_eq_true rfl) rfl dX8_run_21 (fun H locs hP hD hS => ?_)
  refine lv_aload_n hx hb dX8_run_24 rfl (lv_at hl 0 rfl) ?_
  refine lv_aload_n hx hb dX8_run_25 rfl (lv_at hl 1 rfl) ?_
  obtain ⟨s3, h_s3, hf⟩ := hf_bind hf
  refine wh_calll (D := (dC, dI)) (ws' := (wl_fSteps_run cI cZ cJ cQ a_0 a_1 a_1inField a_1number a_0list a_0listeveryCells a_0listeveryFirst a_0listfirst a_0listeveryLast a_0listlast a_0listcells a_0listowner a_0left a_0inSome a_0inAll a_1first a_1last numbers_0 ((4398046511103 : Int64) &&& (s2 ^^^ (-1 : Int64))) roundsDone_0 inField_1 number_1 s1.1 everyCells_0list everyFirst_0list s1.2.1 everyLast_0list s1.2.2.1 s1.2.2.2.1 s1.2.2.2.2 left_0 inSome_0 inAll_0)) (va_runV (As := []) (rest := [.ref a_0]) ⟨hx, hb, hml, hown, hts⟩ (c_fBoard_openNumbers l dC dI cI cZ cJ cQ a_1 a_1number a_1inField a_1first a_1last _ h_s3) (cwV 0 hts gX8_run_X0_openNumbers rfl rfl rfl (by decide +kernel) ⟨Nat.le_of_ble_eq_true rfl, Nat.le_of_ble_eq_true rfl⟩) (wh_preV (C := RX0) (T := TX0) (N := 4) hK hN hP hD [1, 3, 2] rfl rfl 0 0 rfl rfl) rfl rfl hl.1 rfl (lv_room (Nat.le_of_ble_eq_true rfl)) dX8_run_26 ⟨Nat.le_refl _, Nat.le_refl _⟩) hP hD hS hA [1, 3, 2] [0, 4, 5, 6, 7, 8, 9, 10, 11, 12, 13, 14] [0, 12, 14, 13, 1, 2, 3, 4, 5, 6, 7, 8, 9, 10, 11] rfl rfl rfl rfl (fun H locs hP hD hS => ?_)
  refine wh_put (D := (dC, dI)) (ci := 7) (C := RX8) (T := TX8) (N := 7) (ty := .long) (v := .long s3) (ws' := (wl_fSteps_run cI cZ cJ cQ a_0 a_1 a_1inField a_1number a_0list a_0listeveryCells a_0listeveryFirst a_0listfirst a_0listeveryLast a_0listlast a_0listcells a_0listowner a_0left a_0inSome a_0inAll a_1first a_1last s3 ((4398046511103 : Int64) &&& (s2 ^^^ (-1 : Int64))) roundsDone_0 inField_1 number_1 s1.1 everyCells_0list everyFirst_0list s1.2.1 everyLast_0list s1.2.2.1 s1.2.2.2.1 s1.2.2.2.2 left_0 inSome_0 inAll_0)) hx hb hts hiX8 tyX8 tyX8_ok nmX8 hown hK hP hD hS 0 rfl rfl 4 (by decide) (hts (.fieldLink RX8 26 "PaddockFields$Steps" "numbers" "J") (List.mem_cons_of_mem _ (List.mem_append_left _ (List.mem_append_left _ (List.mem_append_left _ (List.mem_append_left _ (List.mem_of_getElem? (i := 4) rfl))))))) (fun _ h9 => h9) rfl rfl rfl rfl (Nat.le_of_ble_eq_true rfl) rfl dX8_run_29 (fun H locs hP hD hS => ?_)
  refine lv_iconst (v := 0) hx hb dX8_run_32 (by decide) ?_
  refine lv_istore_n (lv' := [(2, .int (0 : Int32)), (0, .ref a_0), (1, .ref a_1)]) hx hb dX8_run_33 rfl hl (by decide) rfl (fun ls hl => ?_)
  obtain ⟨r7, h_r7, hf⟩ := hf_bind hf
  have hE_1 : ∀ (H : Heap) (locs : List Loc) (ls : Array Slot), lv_has ls 3 [(0, .ref a_0)] → va_P (dC, dI) vwCl (wl_fSteps_run cI cZ cJ cQ a_0 a_1 a_1inField a_1number a_0list a_0listeveryCells a_0listeveryFirst a_0listfirst a_0listeveryLast a_0listlast a_0listcells a_0listowner a_0left a_0inSome a_0inAll a_1first a_1last s3 ((4398046511103 : Int64) &&& (s2 ^^^ (-1 : Int64))) roundsDone_0 inField_1 number_1 s1.1 everyCells_0list everyFirst_0list s1.2.1 everyLast_0list s1.2.2.1 s1.2.2.2.1 s1.2.2.2.2 r7.2 inSome_0 inAll_0) H → va_D A (wl_fSteps_run cI cZ cJ cQ a_0 a_1 a_1inField a_1number a_0list a_0listeveryCells a_0listeveryFirst a_0listfirst a_0listeveryLast a_0listlast a_0listcells a_0listowner a_0left a_0inSome a_0inAll a_1first a_1last s3 ((4398046511103 : Int64) &&& (s2 ^^^ (-1 : Int64))) roundsDone_0 inField_1 number_1 s1.1 everyCells_0list everyFirst_0list s1.2.1 everyLast_0list s1.2.2.1 s1.2.2.2.1 s1.2.2.2.2 r7.2 inSome_0 inAll_0) → va_S A s.heap H locs → W p l e ({ frames := 3, cells := 0, slots := 0, locals := 76 } : Room) s m [.ref a_0, .ref a_1].toArray below meth c H locs 0 0 QQ (F0 m 69 ls []) := by
    intro H locs ls hl hP hD hS
    refine lv_aload_n hx hb dX8_run_69 rfl (lv_at hl 0 rfl) ?_
    refine lv_iconst (v := 0) hx hb dX8_run_70 (by decide) ?_
    refine wh_put (D := (dC, dI)) (ci := 7) (C := RX8) (T := TX8) (N := 7) (ty := .int) (v := .int (0 : Int32)) (ws' := (wl_fSteps_run cI cZ cJ cQ a_0 a_1 a_1inField a_1number a_0list a_0listeveryCells a_0listeveryFirst a_0listfirst a_0listeveryLast a_0listlast a_0listcells a_0listowner a_0left a_0inSome a_0inAll a_1first a_1last s3 ((4398046511103 : Int64) &&& (s2 ^^^ (-1 : Int64))) (0 : Int32) inField_1 number_1 s1.1 everyCells_0list everyFirst_0list s1.2.1 everyLast_0list s1.2.2.1 s1.2.2.2.1 s1.2.2.2.2 r7.2 inSome_0 inAll_0)) hx hb hts hiX8 tyX8 tyX8_ok nmX8 hown hK hP hD hS 0 rfl rfl 6 (by decide) (hts (.fieldLink RX8 33 "PaddockFields$Steps" "roundsDone" "I") (List.mem_cons_of_mem _ (List.mem_append_left _ (List.mem_append_left _ (List.mem_append_left _ (List.mem_append_left _ (List.mem_of_getElem? (i := 6) rfl))))))) (fun _ h9 => h9) rfl rfl rfl rfl (Nat.le_of_ble_eq_true rfl) rfl dX8_run_71 (fun H locs hP hD hS => ?_)
    obtain ⟨r9, h_r9, hf⟩ := hf_bind hf
    have hE_2 : ∀ (H : Heap) (locs : List Loc) (ls : Array Slot), lv_has ls 3 [] → va_P (dC, dI) vwCl (wl_fSteps_run cI cZ cJ cQ a_0 a_1 a_1inField a_1number a_0list a_0listeveryCells a_0listeveryFirst a_0listfirst a_0listeveryLast a_0listlast a_0listcells a_0listowner a_0left a_0inSome a_0inAll a_1first a_1last s3 ((4398046511103 : Int64) &&& (s2 ^^^ (-1 : Int64))) r9.2.2.2 inField_1 number_1 s1.1 everyCells_0list everyFirst_0list s1.2.1 everyLast_0list s1.2.2.1 s1.2.2.2.1 s1.2.2.2.2 r9.2.2.1 r9.1 r9.2.1) H → va_D A (wl_fSteps_run cI cZ cJ cQ a_0 a_1 a_1inField a_1number a_0list a_0listeveryCells a_0listeveryFirst a_0listfirst a_0listeveryLast a_0listlast a_0listcells a_0listowner a_0left a_0inSome a_0inAll a_1first a_1last s3 ((4398046511103 : Int64) &&& (s2 ^^^ (-1 : Int64))) r9.2.2.2 inField_1 number_1 s1.1 everyCells_0list everyFirst_0list s1.2.1 everyLast_0list s1.2.2.1 s1.2.2.2.1 s1.2.2.2.2 r9.2.2.1 r9.1 r9.2.1) → va_S A s.heap H locs → W p l e ({ frames := 3, cells := 0, slots := 0, locals := 76 } : Room) s m [.ref a_0, .ref a_1].toArray below meth c H locs 0 0 QQ (F0 m 104 ls []) := by
      intro H locs ls hl hP hD hS
      obtain rfl := Option.some.inj hf
      exact hret _ _ _ _ hP hD hS dX8_run_104
    have hL_3 : ∀ (N : Nat) (inSome_0_4 : Nat → Int64) (inAll_0_5 : Nat → Int64) (left_0_6 : Nat → Int32) (roundsDone_0_7 : Int32), fSteps_run_L74 F s1.1 s1.2.2.2.1 s1.2.2.2.2 N inSome_0_4 inAll_0_5 left_0_6 roundsDone_0_7 = some r9 → ∀ (H : Heap) (locs : List Loc) (ls : Array Slot), lv_has ls 3 [(0, .ref a_0)] → va_P (dC, dI) vwCl (wl_fSteps_run cI cZ cJ cQ a_0 a_1 a_1inField a_1number a_0list a_0listeveryCells a_0listeveryFirst a_0listfirst a_0listeveryLast a_0listlast a_0listcells a_0listowner a_0left a_0inSome a_0inAll a_1first a_1last s3 ((4398046511103 : Int64) &&& (s2 ^^^ (-1 : Int64))) roundsDone_0_7 inField_1 number_1 s1.1 everyCells_0list everyFirst_0list s1.2.1 everyLast_0list s1.2.2.1 s1.2.2.2.1 s1.2.2.2.2 left_0_6 inSome_0_4 inAll_0_5) H → va_D A (wl_fSteps_run cI cZ cJ cQ a_0 a_1 a_1inField a_1number a_0list a_0listeveryCells a_0listeveryFirst a_0listfirst a_0listeveryLast a_0listlast a_0listcells a_0listowner a_0left a_0inSome a_0inAll a_1first a_1last s3 ((4398046511103 : Int64) &&& (s2 ^^^ (-1 : Int64))) roundsDone_0_7 inField_1 number_1 s1.1 everyCells_0list everyFirst_0list s1.2.1 everyLast_0list s1.2.2.1 s1.2.2.2.1 s1.2.2.2.2 left_0_6 inSome_0_4 inAll_0_5) → va_S A s.heap H locs → W p l e ({ frames := 3, cells := 0, slots := 0, locals := 76 } : Room) s m [.ref a_0, .ref a_1].toArray below meth c H locs 0 0 QQ (F0 m 74 ls []) := by
      intro N
      induction N with
      | zero => intro inSome_0_4 inAll_0_5 left_0_6 roundsDone_0_7 hf; exact nomatch (show none = some _ from hf)
      | succ N ih =>
        intro inSome_0_4 inAll_0_5 left_0_6 roundsDone_0_7 hf H locs ls hl hP hD hS
        rw [fSteps_run_L74] at hf
        refine lv_aload_n hx hb dX8_run_74 rfl (lv_at hl 0 rfl) ?_
        refine va_get (D := (dC, dI)) (ci := 7) (C := RX8) (T := TX8) (N := 7) hx hb hts hiX8 hown hK hP 0 rfl rfl 6 (by decide) (hts (.fieldLink RX8 33 "PaddockFields$Steps" "roundsDone" "I") (List.mem_cons_of_mem _ (List.mem_append_left _ (List.mem_append_left _ (List.mem_append_left _ (List.mem_append_left _ (List.mem_of_getElem? (i := 6) rfl))))))) (fun _ h9 => h9) rfl dX8_run_75 ?_
        refine lv_sipush (v := 588) hx hb dX8_run_78 (by decide) ?_
        refine lv_icmp_gt (tgt := 104) hx hb dX8_run_81 (by decide) (fun cc => ?_) (fun cc => ?_)
        · replace hf := hf_pos cc hf
          obtain rfl := Option.some.inj hf
          exact hE_2 _ _ _ (lv_sub hl [] rfl) hP hD hS
        · replace hf := hf_neg cc hf
          refine lv_aload_n hx hb dX8_run_84 rfl (lv_at hl 0 rfl) ?_
          obtain ⟨s8, h_s8, hf⟩ := hf_bind hf
          refine wh_calli (D := (dC, dI)) (ws' := (wl_fSteps_run cI cZ cJ cQ a_0 a_1 a_1inField a_1number a_0list a_0listeveryCells a_0listeveryFirst a_0listfirst a_0listeveryLast a_0listlast a_0listcells a_0listowner a_0left a_0inSome a_0inAll a_1first a_1last s3 ((4398046511103 : Int64) &&& (s2 ^^^ (-1 : Int64))) roundsDone_0_7 inField_1 number_1 s1.1 everyCells_0list everyFirst_0list s1.2.1 everyLast_0list s1.2.2.1 s1.2.2.2.1 s1.2.2.2.2 s8.2.2.2 s8.2.1 s8.2.2.1)) (va_runV (As := []) (rest := []) ⟨hx, hb, hml, hown, hts⟩ (c_fSteps_ruleOut l dC dI cI cZ cJ cQ a_0 a_0inSome a_0inAll a_0list a_0listowner a_0left a_0listcells a_0listeveryFirst a_0listeveryLast a_0listeveryCells a_0listfirst a_0listlast s3 ((4398046511103 : Int64) &&& (s2 ^^^ (-1 : Int64))) roundsDone_0_7 _ h_s8) (cwV 0 hts gX8_run_X8_ruleOut rfl rfl rfl (by decide +kernel) ⟨Nat.le_of_ble_eq_true rfl, Nat.le_of_ble_eq_true rfl⟩) (wh_preV (C := RX8) (T := TX8) (N := 7) hK hN hP hD [0, 13, 14, 4, 11, 12, 10] rfl rfl 7 0 rfl rfl) rfl rfl hl.1 rfl (lv_room (Nat.le_of_ble_eq_true rfl)) dX8_run_85 ⟨Nat.le_refl _, Nat.le_refl _⟩) hP hD hS hA [0, 13, 14, 4, 11, 12, 10] [1, 2, 3, 5, 6, 7, 8, 9] [8, 0, 1, 2, 11, 3, 4, 5, 6, 7, 14, 12, 13, 9, 10] rfl rfl rfl rfl (fun H locs hP hD hS => ?_)
          refine lv_if_eq (tgt := 104) hx hb dX8_run_88 (by decide) (fun cc => ?_) (fun cc => ?_)
          · replace hf := hf_pos cc hf
            obtain rfl := Option.some.inj hf
            exact hE_2 _ _ _ (lv_sub hl [] rfl) hP hD hS
          · replace hf := hf_neg cc hf
            refine lv_aload_n hx hb dX8_run_91 rfl (lv_at hl 0 rfl) ?_
            refine lv_dup hx hb dX8_run_92 rfl ?_
            refine va_get (D := (dC, dI)) (ci := 7) (C := RX8) (T := TX8) (N := 7) hx hb hts hiX8 hown hK hP 0 rfl rfl 6 (by decide) (hts (.fieldLink RX8 33 "PaddockFields$Steps" "roundsDone" "I") (List.mem_cons_of_mem _ (List.mem_append_left _ (List.mem_append_left _ (List.mem_append_left _ (List.mem_append_left _ (List.mem_of_getElem? (i := 6) rfl))))))) (fun _ h9 => h9) rfl dX8_run_93 ?_
            refine lv_iconst (v := 1) hx hb dX8_run_96 (by decide) ?_
            refine lv_iadd hx hb dX8_run_97 ?_
            refine wh_put (D := (dC, dI)) (ci := 7) (C := RX8) (T := TX8) (N := 7) (ty := .int) (v := .int (roundsDone_0_7 + (1 : Int32))) (ws' := (wl_fSteps_run cI cZ cJ cQ a_0 a_1 a_1inField a_1number a_0list a_0listeveryCells a_0listeveryFirst a_0listfirst a_0listeveryLast a_0listlast a_0listcells a_0listowner a_0left a_0inSome a_0inAll a_1first a_1last s3 ((4398046511103 : Int64) &&& (s2 ^^^ (-1 : Int64))) (roundsDone_0_7 + (1 : Int32)) inField_1 number_1 s1.1 everyCells_0list everyFirst_0list s1.2.1 everyLast_0list s1.2.2.1 s1.2.2.2.1 s1.2.2.2.2 s8.2.2.2 s8.2.1 s8.2.2.1)) hx hb hts hiX8 tyX8 tyX8_ok nmX8 hown hK hP hD hS 0 rfl rfl 6 (by decide) (hts (.fieldLink RX8 33 "PaddockFields$Steps" "roundsDone" "I") (List.mem_cons_of_mem _ (List.mem_append_left _ (List.mem_append_left _ (List.mem_append_left _ (List.mem_append_left _ (List.mem_of_getElem? (i := 6) rfl))))))) (fun _ h9 => h9) rfl rfl rfl rfl (Nat.le_of_ble_eq_true rfl) rfl dX8_run_98 (fun H locs hP hD hS => ?_)
            refine lv_goto (tgt := 74) hx hb dX8_run_101 (by decide) ?_
            exact ih _ _ _ _ hf _ _ _ (lv_sub hl [0] rfl) hP hD hS
    exact hL_3 _ _ _ _ _ h_r9 _ _ _ (lv_sub hl [0] rfl) hP hD hS
  have hL_8 : ∀ (N : Nat) (l2_9 : Int32) (left_0_10 : Nat → Int32), fSteps_run_L34 F s1.1 N l2_9 left_0_10 = some r7 → ∀ (H : Heap) (locs : List Loc) (ls : Array Slot), lv_has ls 3 [(0, .ref a_0), (2, .int l2_9)] → va_P (dC, dI) vwCl (wl_fSteps_run cI cZ cJ cQ a_0 a_1 a_1inField a_1number a_0list a_0listeveryCells a_0listeveryFirst a_0listfirst a_0listeveryLast a_0listlast a_0listcells a_0listowner a_0left a_0inSome a_0inAll a_1first a_1last s3 ((4398046511103 : Int64) &&& (s2 ^^^ (-1 : Int64))) roundsDone_0 inField_1 number_1 s1.1 everyCells_0list everyFirst_0list s1.2.1 everyLast_0list s1.2.2.1 s1.2.2.2.1 s1.2.2.2.2 left_0_10 inSome_0 inAll_0) H → va_D A (wl_fSteps_run cI cZ cJ cQ a_0 a_1 a_1inField a_1number a_0list a_0listeveryCells a_0listeveryFirst a_0listfirst a_0listeveryLast a_0listlast a_0listcells a_0listowner a_0left a_0inSome a_0inAll a_1first a_1last s3 ((4398046511103 : Int64) &&& (s2 ^^^ (-1 : Int64))) roundsDone_0 inField_1 number_1 s1.1 everyCells_0list everyFirst_0list s1.2.1 everyLast_0list s1.2.2.1 s1.2.2.2.1 s1.2.2.2.2 left_0_10 inSome_0 inAll_0) → va_S A s.heap H locs → W p l e ({ frames := 3, cells := 0, slots := 0, locals := 76 } : Room) s m [.ref a_0, .ref a_1].toArray below meth c H locs 0 0 QQ (F0 m 34 ls []) := by
    intro N
    induction N with
    | zero => intro l2_9 left_0_10 hf; exact nomatch (show none = some _ from hf)
    | succ N ih =>
      intro l2_9 left_0_10 hf H locs ls hl hP hD hS
      rw [fSteps_run_L34] at hf
      refine lv_iload_n hx hb dX8_run_34 rfl (lv_at hl 1 rfl) ?_
      refine lv_sipush (v := 588) hx hb dX8_run_35 (by decide) ?_
      refine lv_icmp_ge (tgt := 69) hx hb dX8_run_38 (by decide) (fun cc => ?_) (fun cc => ?_)
      · replace hf := hf_pos cc hf
        obtain rfl := Option.some.inj hf
        exact hE_1 _ _ _ (lv_sub hl [0] rfl) hP hD hS
      · replace hf := hf_neg cc hf
        refine lv_aload_n hx hb dX8_run_41 rfl (lv_at hl 0 rfl) ?_
        refine va_get (D := (dC, dI)) (ci := 7) (C := RX8) (T := TX8) (N := 7) hx hb hts hiX8 hown hK hP 0 rfl rfl 1 (by decide) (hts (.fieldLink RX8 15 "PaddockFields$Steps" "left" "[Z") (List.mem_cons_of_mem _ (List.mem_append_left _ (List.mem_append_left _ (List.mem_append_left _ (List.mem_append_left _ (List.mem_of_getElem? (i := 5) rfl))))))) (fun _ h9 => h9) rfl dX8_run_42 ?_
        refine lv_iload_n hx hb dX8_run_45 rfl (lv_at hl 1 rfl) ?_
        refine lv_iload_n hx hb dX8_run_46 rfl (lv_at hl 1 rfl) ?_
        refine lv_aload_n hx hb dX8_run_47 rfl (lv_at hl 0 rfl) ?_
        refine va_get (D := (dC, dI)) (ci := 7) (C := RX8) (T := TX8) (N := 7) hx hb hts hiX8 hown hK hP 0 rfl rfl 0 (by decide) (hts (.fieldLink RX8 9 "PaddockFields$Steps" "list" "LPaddockFields$Rectangles;") (List.mem_cons_of_mem _ (List.mem_append_left _ (List.mem_append_left _ (List.mem_append_left _ (List.mem_append_left _ (List.mem_of_getElem? (i := 0) rfl))))))) (fun _ h9 => h9) rfl dX8_run_48 ?_
        obtain ⟨s4, h_s4, hf⟩ := hf_bind hf
        refine wh_calli (D := (dC, dI)) (ws' := (wl_fSteps_run cI cZ cJ cQ a_0 a_1 a_1inField a_1number a_0list a_0listeveryCells a_0listeveryFirst a_0listfirst a_0listeveryLast a_0listlast a_0listcells a_0listowner a_0left a_0inSome a_0inAll a_1first a_1last s3 ((4398046511103 : Int64) &&& (s2 ^^^ (-1 : Int64))) roundsDone_0 inField_1 number_1 s1.1 everyCells_0list everyFirst_0list s1.2.1 everyLast_0list s1.2.2.1 s1.2.2.2.1 s1.2.2.2.2 left_0_10 inSome_0 inAll_0)) (va_runV (As := []) (rest := [.int l2_9, .int l2_9, .ref a_0left]) ⟨hx, hb, hml, hown, hts⟩ (c_fRectangles_size l dC dI cI cZ cJ cQ a_0list a_0listeveryFirst a_0listeveryLast a_0listeveryCells a_0listfirst a_0listlast a_0listcells a_0listowner _ h_s4) (cwV 0 hts gX8_run_X7_size rfl rfl rfl (by decide +kernel) ⟨Nat.le_of_ble_eq_true rfl, Nat.le_of_ble_eq_true rfl⟩) (wh_preV (C := RX7) (T := TX7) (N := 8) hK hN hP hD [4] rfl rfl 6 0 rfl rfl) rfl rfl hl.1 rfl (lv_room (Nat.le_of_ble_eq_true rfl)) dX8_run_51 ⟨Nat.le_refl _, Nat.le_refl _⟩) hP hD hS hA [4] [0, 1, 2, 3, 5, 6, 7, 8, 9, 10, 11, 12, 13, 14] [0, 1, 2, 3, 14, 4, 5, 6, 7, 8, 9, 10, 11, 12, 13] rfl rfl rfl rfl (fun H locs hP hD hS => ?_)
        obtain ⟨j5, h_j5, hf⟩ := hf_bind hf
        have hJ_11 : ∀ (H : Heap) (locs : List Loc) (ls : Array Slot), lv_has ls 3 [(0, .ref a_0), (2, .int l2_9)] → va_P (dC, dI) vwCl (wl_fSteps_run cI cZ cJ cQ a_0 a_1 a_1inField a_1number a_0list a_0listeveryCells a_0listeveryFirst a_0listfirst a_0listeveryLast a_0listlast a_0listcells a_0listowner a_0left a_0inSome a_0inAll a_1first a_1last s3 ((4398046511103 : Int64) &&& (s2 ^^^ (-1 : Int64))) roundsDone_0 inField_1 number_1 s1.1 everyCells_0list everyFirst_0list s1.2.1 everyLast_0list s1.2.2.1 s1.2.2.2.1 s1.2.2.2.2 left_0_10 inSome_0 inAll_0) H → va_D A (wl_fSteps_run cI cZ cJ cQ a_0 a_1 a_1inField a_1number a_0list a_0listeveryCells a_0listeveryFirst a_0listfirst a_0listeveryLast a_0listlast a_0listcells a_0listowner a_0left a_0inSome a_0inAll a_1first a_1last s3 ((4398046511103 : Int64) &&& (s2 ^^^ (-1 : Int64))) roundsDone_0 inField_1 number_1 s1.1 everyCells_0list everyFirst_0list s1.2.1 everyLast_0list s1.2.2.1 s1.2.2.2.1 s1.2.2.2.2 left_0_10 inSome_0 inAll_0) → va_S A s.heap H locs → W p l e ({ frames := 3, cells := 0, slots := 0, locals := 76 } : Room) s m [.ref a_0, .ref a_1].toArray below meth c H locs 0 0 QQ (F0 m 62 ls [.int j5, .int l2_9, .ref a_0left]) := by
          intro H locs ls hl hP hD hS
          obtain ⟨w6, h_w6, hf⟩ := hf_bind hf
          refine wh_stZ (D := (dC, dI)) (ws' := (wl_fSteps_run cI cZ cJ cQ a_0 a_1 a_1inField a_1number a_0list a_0listeveryCells a_0listeveryFirst a_0listfirst a_0listeveryLast a_0listlast a_0listcells a_0listowner a_0left a_0inSome a_0inAll a_1first a_1last s3 ((4398046511103 : Int64) &&& (s2 ^^^ (-1 : Int64))) roundsDone_0 inField_1 number_1 s1.1 everyCells_0list everyFirst_0list s1.2.1 everyLast_0list s1.2.2.1 s1.2.2.2.1 s1.2.2.2.2 w6 inSome_0 inAll_0)) hx hb hK hP hD hS 12 1 rfl rfl rfl h_w6 dX8_run_62 (fun H locs hP hD hS => ?_)
          refine lv_iinc (v := (l2_9 + (1 : Int32))) (lv' := [(2, .int (l2_9 + (1 : Int32))), (0, .ref a_0)]) hx hb dX8_run_63 hl (k := 1) rfl rfl (by decide) rfl (fun ls hl => ?_)
          refine lv_goto (tgt := 34) hx hb dX8_run_66 (by decide) ?_
          exact ih _ _ hf _ _ _ (lv_sub hl [1, 0] rfl) hP hD hS
        clear hf
        have hf := h_j5
        clear h_j5
        refine lv_icmp_ge (tgt := 61) hx hb dX8_run_54 (by decide) (fun cc => ?_) (fun cc => ?_)
        · replace hf := hf_pos cc hf
          refine lv_iconst (v := 0) hx hb dX8_run_61 (by decide) ?_
          obtain rfl := Option.some.inj hf
          exact hJ_11 _ _ _ (lv_sub hl [0, 1] rfl) hP hD hS
        · replace hf := hf_neg cc hf
          refine lv_iconst (v := 1) hx hb dX8_run_57 (by decide) ?_
          refine lv_goto (tgt := 62) hx hb dX8_run_58 (by decide) ?_
          obtain rfl := Option.some.inj hf
          exact hJ_11 _ _ _ (lv_sub hl [0, 1] rfl) hP hD hS
  exact hL_8 _ _ _ h_r7 _ _ _ (lv_sub hl [1, 0] rfl) hP hD hS
set_option maxHeartbeats 4000000 in
set_option maxRecDepth 100000 in
theorem c_fSteps_endsInContradiction (l : Launch) (dC : Nat → ClassId) (dI : Nat → Nat → Nat) (cI cZ cJ cQ : ClassId) (a_0 a_0inSome a_0list a_0left a_0inAll : Nat) (roundsDone_0 : Int32) (sz : Nat) {F : Nat} {inSome_0 : Nat → Int64} {open_0 : Int64} {numbers_0 : Int64} {out : Int32} (hf : fSteps_endsInContradiction F inSome_0 open_0 numbers_0 = some out) : Met l yX8_endsInContradiction wsX8_endsInContradiction ({ frames := 2, cells := 0, slots := 0, locals := 42 } : Room) (va_Pc [.ref a_0] (wlP (dC, dI) (wlT cI cZ cJ cQ) (wl_fSteps_endsInContradiction cI cZ cJ cQ a_0 a_0inSome a_0list a_0left a_0inAll numbers_0 open_0 roundsDone_0 inSome_0) sz)) (va_Qi (fun (v : Int32) (_ : Unit) => v = out) (wlQ (dC, dI) (va_A (wl_fSteps_endsInContradiction cI cZ cJ cQ a_0 a_0inSome a_0list a_0left a_0inAll numbers_0 open_0 roundsDone_0 inSome_0) sz) (wl_fSteps_endsInContradiction cI cZ cJ cQ a_0 a_0inSome a_0list a_0left a_0inAll numbers_0 open_0 roundsDone_0 inSome_0)) (va_A (wl_fSteps_endsInContradiction cI cZ cJ cQ a_0 a_0inSome a_0list a_0left a_0inAll numbers_0 open_0 roundsDone_0 inSome_0) sz)) 0 0 (va_A (wl_fSteps_endsInContradiction cI cZ cJ cQ a_0 a_0inSome a_0list a_0left a_0inAll numbers_0 open_0 roundsDone_0 inSome_0) sz) := by
  refine wh_ofWz (lv := [(0, .ref a_0)]) RX8 (by decide) rfl rfl (Nat.le_of_ble_eq_true rfl) rfl ?_
  intro p e s m below meth c A QQ hx hb hml hown hts hP hK hN hD hA hret ls hl
  have hS : va_S A s.heap s.heap [] := va_S.rf
  have hiX8 : ∀ w ∈ wsX80, w ∈ wsX8_endsInContradiction := (fun _ h => List.mem_cons_of_mem _ (List.mem_append_right _ (h)))
  unfold fSteps_endsInContradiction at hf
  refine lv_iconst (v := 0) hx hb dX8_endsInContradiction_0 (by decide) ?_
  refine lv_istore_n (lv' := [(1, .int (0 : Int32)), (0, .ref a_0)]) hx hb dX8_endsInContradiction_1 rfl hl (by decide) rfl (fun ls hl => ?_)
  have hL_1 : ∀ (N : Nat) (l1_2 : Int32), fSteps_endsInContradiction_L2 F inSome_0 open_0 numbers_0 N l1_2 = some out → ∀ (H : Heap) (locs : List Loc) (ls : Array Slot), lv_has ls 2 [(0, .ref a_0), (1, .int l1_2)] → va_P (dC, dI) vwCl (wl_fSteps_endsInContradiction cI cZ cJ cQ a_0 a_0inSome a_0list a_0left a_0inAll numbers_0 open_0 roundsDone_0 inSome_0) H → va_D A (wl_fSteps_endsInContradiction cI cZ cJ cQ a_0 a_0inSome a_0list a_0left a_0inAll numbers_0 open_0 roundsDone_0 inSome_0) → va_S A s.heap H locs → W p l e ({ frames := 2, cells := 0, slots := 0, locals := 42 } : Room) s m [.ref a_0].toArray below meth c H locs 0 0 QQ (F0 m 2 ls []) := by
    intro N
    induction N with
    | zero => intro l1_2 hf; exact nomatch (show none = some _ from hf)
    | succ N ih =>
      intro l1_2 hf H locs ls hl hP hD hS
      rw [fSteps_endsInContradiction_L2] at hf
      refine lv_iload_n hx hb dX8_endsInContradiction_2 rfl (lv_at hl 1 rfl) ?_
      refine lv_bipush (v := 42) hx hb dX8_endsInContradiction_3 (by decide) ?_
      refine lv_icmp_ge (tgt := 38) hx hb dX8_endsInContradiction_5 (by decide) (fun cc => ?_) (fun cc => ?_)
      · replace hf := hf_pos cc hf
        refine lv_aload_n hx hb dX8_endsInContradiction_38 rfl (lv_at hl 0 rfl) ?_
        refine va_get (D := (dC, dI)) (ci := 7) (C := RX8) (T := TX8) (N := 7) hx hb hts hiX8 hown hK hP 0 rfl rfl 2 (by decide) (hts (.fieldLink RX8 19 "PaddockFields$Steps" "inSome" "[J") (List.mem_cons_of_mem _ (List.mem_append_left _ (List.mem_of_getElem? (i := 1) rfl)))) (fun _ h9 => h9) rfl dX8_endsInContradiction_39 ?_
        obtain ⟨s1, h_s1, hf⟩ := hf_bind hf
        refine wh_calll (D := (dC, dI)) (ws' := (wl_fSteps_endsInContradiction cI cZ cJ cQ a_0 a_0inSome a_0list a_0left a_0inAll numbers_0 open_0 roundsDone_0 inSome_0)) (va_runS (As := [.ref a_0inSome]) (rest := []) ⟨hx, hb, hml, hown, hts⟩ (c_fSteps_inAny l dC dI cI cZ cJ cQ a_0inSome _ h_s1) (va_cwS 1 hts gX8_endsInContradiction_X8_inAny rfl rfl rfl (by decide +kernel) ⟨Nat.le_of_ble_eq_true rfl, Nat.le_of_ble_eq_true rfl⟩) (wh_preS hK hN hP hD [1] rfl rfl) rfl rfl hl.1 rfl (lv_room (Nat.le_of_ble_eq_true rfl)) dX8_endsInContradiction_42 ⟨Nat.le_refl _, Nat.le_refl _⟩) hP hD hS hA [1] [0] [0, 1] rfl rfl rfl rfl (fun H locs hP hD hS => ?_)
        refine lv_aload_n hx hb dX8_endsInContradiction_45 rfl (lv_at hl 0 rfl) ?_
        refine va_get (D := (dC, dI)) (ci := 7) (C := RX8) (T := TX8) (N := 7) hx hb hts hiX8 hown hK hP 0 rfl rfl 5 (by decide) (hts (.fieldLink RX8 30 "PaddockFields$Steps" "open" "J") (List.mem_cons_of_mem _ (List.mem_append_left _ (List.mem_of_getElem? (i := 2) rfl)))) (fun _ h9 => h9) rfl dX8_endsInContradiction_46 ?_
        refine W.lcmp hx hb dX8_endsInContradiction_49 ?_
        refine lv_if_eq (tgt := 57) hx hb dX8_endsInContradiction_50 (by decide) (fun cc => ?_) (fun cc => ?_)
        · replace hf := hf_pos ((lg_cmp_eq _ _).mp cc) hf
          refine lv_iconst (v := 0) hx hb dX8_endsInContradiction_57 (by decide) ?_
          obtain rfl := Option.some.inj hf
          exact hret _ _ _ _ (by decide) hP hD hS dX8_endsInContradiction_58
        · replace hf := hf_neg (mt (lg_cmp_eq _ _).mpr cc) hf
          refine lv_iconst (v := 1) hx hb dX8_endsInContradiction_53 (by decide) ?_
          refine lv_goto (tgt := 58) hx hb dX8_endsInContradiction_54 (by decide) ?_
          obtain rfl := Option.some.inj hf
          exact hret _ _ _ _ (by decide) hP hD hS dX8_endsInContradiction_58
      · replace hf := hf_neg cc hf
        refine lv_aload_n hx hb dX8_endsInContradiction_8 rfl (lv_at hl 0 rfl) ?_
        refine va_get (D := (dC, dI)) (ci := 7) (C := RX8) (T := TX8) (N := 7) hx hb hts hiX8 hown hK hP 0 rfl rfl 4 (by decide) (hts (.fieldLink RX8 26 "PaddockFields$Steps" "numbers" "J") (List.mem_cons_of_mem _ (List.mem_append_left _ (List.mem_of_getElem? (i := 0) rfl)))) (fun _ h9 => h9) rfl dX8_endsInContradiction_9 ?_
        refine lv_iload_n hx hb dX8_endsInContradiction_12 rfl (lv_at hl 1 rfl) ?_
        obtain ⟨s2, h_s2, hf⟩ := hf_bind hf
        refine wh_calli (D := (dC, dI)) (ws' := (wl_fSteps_endsInContradiction cI cZ cJ cQ a_0 a_0inSome a_0list a_0left a_0inAll numbers_0 open_0 roundsDone_0 inSome_0)) (va_runSN (As := [.long numbers_0, .int l1_2]) (rest := []) ⟨hx, hb, hml, hown, hts⟩ (c_fX_has l dC dI cI cZ cJ cQ _ h_s2) ⟨va_cnB 2 hts gX8_endsInContradiction_X9_has_n86 rfl rfl rfl (hN (RX8, 86, yX9_has) (List.mem_of_getElem? (i := 5) rfl)) (hts (.initialized RX9) (List.mem_cons_of_mem _ (List.mem_append_left _ (List.mem_of_getElem? (i := 4) rfl)))) (by decide +kernel) ⟨Nat.le_of_ble_eq_true rfl, Nat.le_of_ble_eq_true rfl⟩, (hts (.static yX9_has) (List.mem_cons_of_mem _ (List.mem_append_left _ (List.mem_of_getElem? (i := 3) rfl)))), trivial⟩ (wh_preS hK hN hP hD [] rfl rfl) rfl rfl hl.1 rfl (lv_room (Nat.le_of_ble_eq_true rfl)) dX8_endsInContradiction_13 ⟨Nat.le_refl _, Nat.le_refl _⟩) hP hD hS hA [] [0, 1] [0, 1] rfl rfl rfl rfl (fun H locs hP hD hS => ?_)
        refine lv_if_eq (tgt := 32) hx hb dX8_endsInContradiction_16 (by decide) (fun cc => ?_) (fun cc => ?_)
        · replace hf := hf_pos cc hf
          refine lv_iinc (v := (l1_2 + (1 : Int32))) (lv' := [(1, .int (l1_2 + (1 : Int32))), (0, .ref a_0)]) hx hb dX8_endsInContradiction_32 hl (k := 1) rfl rfl (by decide) rfl (fun ls hl => ?_)
          refine lv_goto (tgt := 2) hx hb dX8_endsInContradiction_35 (by decide) ?_
          exact ih _ hf _ _ _ (lv_sub hl [1, 0] rfl) hP hD hS
        · replace hf := hf_neg cc hf
          refine lv_aload_n hx hb dX8_endsInContradiction_19 rfl (lv_at hl 0 rfl) ?_
          refine va_get (D := (dC, dI)) (ci := 7) (C := RX8) (T := TX8) (N := 7) hx hb hts hiX8 hown hK hP 0 rfl rfl 2 (by decide) (hts (.fieldLink RX8 19 "PaddockFields$Steps" "inSome" "[J") (List.mem_cons_of_mem _ (List.mem_append_left _ (List.mem_of_getElem? (i := 1) rfl)))) (fun _ h9 => h9) rfl dX8_endsInContradiction_20 ?_
          refine lv_iload_n hx hb dX8_endsInContradiction_23 rfl (lv_at hl 1 rfl) ?_
          obtain ⟨v3, h_v3, hf⟩ := hf_bind hf
          refine wh_ldJ (D := (dC, dI)) hx hb hK hP 1 2 rfl rfl h_v3 dX8_endsInContradiction_24 ?_
          refine lv_lconst (v := 0) hx hb dX8_endsInContradiction_25 (by decide) ?_
          refine W.lcmp hx hb dX8_endsInContradiction_26 ?_
          refine lv_if_ne (tgt := 32) hx hb dX8_endsInContradiction_27 (by decide) (fun cc => ?_) (fun cc => ?_)
          · replace hf := hf_pos (mt (lg_cmp_eq _ _).mpr cc) hf
            refine lv_iinc (v := (l1_2 + (1 : Int32))) (lv' := [(1, .int (l1_2 + (1 : Int32))), (0, .ref a_0)]) hx hb dX8_endsInContradiction_32 hl (k := 1) rfl rfl (by decide) rfl (fun ls hl => ?_)
            refine lv_goto (tgt := 2) hx hb dX8_endsInContradiction_35 (by decide) ?_
            exact ih _ hf _ _ _ (lv_sub hl [1, 0] rfl) hP hD hS
          · replace hf := hf_neg (not_not_intro ((lg_cmp_eq _ _).mp cc)) hf
            refine lv_iconst (v := 1) hx hb dX8_endsInContradiction_30 (by decide) ?_
            obtain rfl := Option.some.inj hf
            exact hret _ _ _ _ (by decide) hP hD hS dX8_endsInContradiction_31
  exact hL_1 _ _ hf _ _ _ (lv_sub hl [1, 0] rfl) hP hD hS
set_option maxHeartbeats 4000000 in
set_option maxRecDepth 100000 in
theorem c_fSteps_countLeftOf (l : Launch) (dC : Nat → ClassId) (dI : Nat → Nat → Nat) (cI cZ cJ cQ : ClassId) (a_0 a_0left a_0list a_0listowner a_0inSome a_0inAll a_0listeveryFirst a_0listeveryLast a_0listeveryCells a_0listfirst a_0listlast a_0listcells : Nat) (numbers_0 : Int64) (open_0 : Int64) (roundsDone_0 : Int32) (sz : Nat) {F : Nat} {x1 : Int32} {left_0 : Nat → Int32} {count_0list : Int32} {owner_0list : Nat → Int32} {out : Int32} (hf : fSteps_countLeftOf F x1 left_0 count_0list owner_0list = some out) : Met l yX8_countLeftOf wsX8_countLeftOf ({ frames := 1, cells := 0, slots := 0, locals := 21 } : Room) (va_Pc [.ref a_0, .int x1] (wlP (dC, dI) (wlT cI cZ cJ cQ) (wl_fSteps_countLeftOf cI cZ cJ cQ a_0 a_0left a_0list a_0listowner a_0inSome a_0inAll a_0listeveryFirst a_0listeveryLast a_0listeveryCells a_0listfirst a_0listlast a_0listcells numbers_0 open_0 roundsDone_0 left_0 count_0list owner_0list) sz)) (va_Qi (fun (v : Int32) (_ : Unit) => v = out) (wlQ (dC, dI) (va_A (wl_fSteps_countLeftOf cI cZ cJ cQ a_0 a_0left a_0list a_0listowner a_0inSome a_0inAll a_0listeveryFirst a_0listeveryLast a_0listeveryCells a_0listfirst a_0listlast a_0listcells numbers_0 open_0 roundsDone_0 left_0 count_0list owner_0list) sz) (wl_fSteps_countLeftOf cI cZ cJ cQ a_0 a_0left a_0list a_0listowner a_0inSome a_0inAll a_0listeveryFirst a_0listeveryLast a_0listeveryCells a_0listfirst a_0listlast a_0listcells numbers_0 open_0 roundsDone_0 left_0 count_0list owner_0list)) (va_A (wl_fSteps_countLeftOf cI cZ cJ cQ a_0 a_0left a_0list a_0listowner a_0inSome a_0inAll a_0listeveryFirst a_0listeveryLast a_0listeveryCells a_0listfirst a_0listlast a_0listcells numbers_0 open_0 roundsDone_0 left_0 count_0list owner_0list) sz)) 0 0 (va_A (wl_fSteps_countLeftOf cI cZ cJ cQ a_0 a_0left a_0list a_0listowner a_0inSome a_0inAll a_0listeveryFirst a_0listeveryLast a_0listeveryCells a_0listfirst a_0listlast a_0listcells numbers_0 open_0 roundsDone_0 left_0 count_0list owner_0list) sz) := by
  refine wh_ofWi (lv := [(0, .ref a_0), (1, .int x1)]) RX8 (by decide) rfl rfl (Nat.le_of_ble_eq_true rfl) rfl ?_
  intro p e s m below meth c A QQ hx hb hml hown hts hP hK hN hD hA hret ls hl
  have hS : va_S A s.heap s.heap [] := va_S.rf
  have hiX8 : ∀ w ∈ wsX80, w ∈ wsX8_countLeftOf := (fun _ h => List.mem_cons_of_mem _ (List.mem_append_left _ (List.mem_append_right _ (h))))
  unfold fSteps_countLeftOf at hf
  refine lv_iconst (v := 0) hx hb dX8_countLeftOf_0 (by decide) ?_
  refine lv_istore_n (lv' := [(2, .int (0 : Int32)), (0, .ref a_0), (1, .int x1)]) hx hb dX8_countLeftOf_1 rfl hl (by decide) rfl (fun ls hl => ?_)
  refine lv_iconst (v := 0) hx hb dX8_countLeftOf_2 (by decide) ?_
  refine lv_istore_n (lv' := [(3, .int (0 : Int32)), (2, .int (0 : Int32)), (0, .ref a_0), (1, .int x1)]) hx hb dX8_countLeftOf_3 rfl hl (by decide) rfl (fun ls hl => ?_)
  obtain ⟨r4, h_r4, hf⟩ := hf_bind hf
  have hE_1 : ∀ (H : Heap) (locs : List Loc) (ls : Array Slot), lv_has ls 4 [(2, .int r4.1)] → va_P (dC, dI) vwCl (wl_fSteps_countLeftOf cI cZ cJ cQ a_0 a_0left a_0list a_0listowner a_0inSome a_0inAll a_0listeveryFirst a_0listeveryLast a_0listeveryCells a_0listfirst a_0listlast a_0listcells numbers_0 open_0 roundsDone_0 left_0 count_0list owner_0list) H → va_D A (wl_fSteps_countLeftOf cI cZ cJ cQ a_0 a_0left a_0list a_0listowner a_0inSome a_0inAll a_0listeveryFirst a_0listeveryLast a_0listeveryCells a_0listfirst a_0listlast a_0listcells numbers_0 open_0 roundsDone_0 left_0 count_0list owner_0list) → va_S A s.heap H locs → W p l e ({ frames := 1, cells := 0, slots := 0, locals := 21 } : Room) s m [.ref a_0, .int x1].toArray below meth c H locs 0 0 QQ (F0 m 46 ls []) := by
    intro H locs ls hl hP hD hS
    refine lv_iload_n hx hb dX8_countLeftOf_46 rfl (lv_at hl 0 rfl) ?_
    obtain rfl := Option.some.inj hf
    exact hret _ _ _ _ hP hD hS dX8_countLeftOf_47
  have hL_2 : ∀ (N : Nat) (l2_3 : Int32) (l3_4 : Int32), fSteps_countLeftOf_L4 F x1 left_0 count_0list owner_0list N l2_3 l3_4 = some r4 → ∀ (H : Heap) (locs : List Loc) (ls : Array Slot), lv_has ls 4 [(0, .ref a_0), (1, .int x1), (2, .int l2_3), (3, .int l3_4)] → va_P (dC, dI) vwCl (wl_fSteps_countLeftOf cI cZ cJ cQ a_0 a_0left a_0list a_0listowner a_0inSome a_0inAll a_0listeveryFirst a_0listeveryLast a_0listeveryCells a_0listfirst a_0listlast a_0listcells numbers_0 open_0 roundsDone_0 left_0 count_0list owner_0list) H → va_D A (wl_fSteps_countLeftOf cI cZ cJ cQ a_0 a_0left a_0list a_0listowner a_0inSome a_0inAll a_0listeveryFirst a_0listeveryLast a_0listeveryCells a_0listfirst a_0listlast a_0listcells numbers_0 open_0 roundsDone_0 left_0 count_0list owner_0list) → va_S A s.heap H locs → W p l e ({ frames := 1, cells := 0, slots := 0, locals := 21 } : Room) s m [.ref a_0, .int x1].toArray below meth c H locs 0 0 QQ (F0 m 4 ls []) := by
    intro N
    induction N with
    | zero => intro l2_3 l3_4 hf; exact nomatch (show none = some _ from hf)
    | succ N ih =>
      intro l2_3 l3_4 hf H locs ls hl hP hD hS
      rw [fSteps_countLeftOf_L4] at hf
      refine lv_iload_n hx hb dX8_countLeftOf_4 rfl (lv_at hl 3 rfl) ?_
      refine lv_sipush (v := 588) hx hb dX8_countLeftOf_5 (by decide) ?_
      refine lv_icmp_ge (tgt := 46) hx hb dX8_countLeftOf_8 (by decide) (fun cc => ?_) (fun cc => ?_)
      · replace hf := hf_pos cc hf
        obtain rfl := Option.some.inj hf
        exact hE_1 _ _ _ (lv_sub hl [2] rfl) hP hD hS
      · replace hf := hf_neg cc hf
        refine lv_iload_n hx hb dX8_countLeftOf_11 rfl (lv_at hl 2 rfl) ?_
        refine lv_aload_n hx hb dX8_countLeftOf_12 rfl (lv_at hl 0 rfl) ?_
        refine va_get (D := (dC, dI)) (ci := 7) (C := RX8) (T := TX8) (N := 7) hx hb hts hiX8 hown hK hP 0 rfl rfl 1 (by decide) (hts (.fieldLink RX8 15 "PaddockFields$Steps" "left" "[Z") (List.mem_cons_of_mem _ (List.mem_append_left _ (List.mem_append_left _ (List.mem_of_getElem? (i := 0) rfl))))) (fun _ h9 => h9) rfl dX8_countLeftOf_13 ?_
        refine lv_iload_n hx hb dX8_countLeftOf_16 rfl (lv_at hl 3 rfl) ?_
        obtain ⟨v1, h_v1, hf⟩ := hf_bind hf
        refine wh_ldZ (D := (dC, dI)) hx hb hK hP 1 1 rfl rfl h_v1 dX8_countLeftOf_17 ?_
        obtain ⟨j3, h_j3, hf⟩ := hf_bind hf
        have hJ_5 : ∀ (H : Heap) (locs : List Loc) (ls : Array Slot), lv_has ls 4 [(0, .ref a_0), (1, .int x1), (3, .int l3_4)] → va_P (dC, dI) vwCl (wl_fSteps_countLeftOf cI cZ cJ cQ a_0 a_0left a_0list a_0listowner a_0inSome a_0inAll a_0listeveryFirst a_0listeveryLast a_0listeveryCells a_0listfirst a_0listlast a_0listcells numbers_0 open_0 roundsDone_0 left_0 count_0list owner_0list) H → va_D A (wl_fSteps_countLeftOf cI cZ cJ cQ a_0 a_0left a_0list a_0listowner a_0inSome a_0inAll a_0listeveryFirst a_0listeveryLast a_0listeveryCells a_0listfirst a_0listlast a_0listcells numbers_0 open_0 roundsDone_0 left_0 count_0list owner_0list) → va_S A s.heap H locs → W p l e ({ frames := 1, cells := 0, slots := 0, locals := 21 } : Room) s m [.ref a_0, .int x1].toArray below meth c H locs 0 0 QQ (F0 m 38 ls [.int j3, .int l2_3]) := by
          intro H locs ls hl hP hD hS
          refine lv_iadd hx hb dX8_countLeftOf_38 ?_
          refine lv_istore_n (lv' := [(2, .int (l2_3 + j3)), (0, .ref a_0), (1, .int x1), (3, .int l3_4)]) hx hb dX8_countLeftOf_39 rfl hl (by decide) rfl (fun ls hl => ?_)
          refine lv_iinc (v := (l3_4 + (1 : Int32))) (lv' := [(3, .int (l3_4 + (1 : Int32))), (2, .int (l2_3 + j3)), (0, .ref a_0), (1, .int x1)]) hx hb dX8_countLeftOf_40 hl (k := 3) rfl rfl (by decide) rfl (fun ls hl => ?_)
          refine lv_goto (tgt := 4) hx hb dX8_countLeftOf_43 (by decide) ?_
          exact ih _ _ hf _ _ _ (lv_sub hl [2, 3, 1, 0] rfl) hP hD hS
        clear hf
        have hf := h_j3
        clear h_j3
        refine lv_if_eq (tgt := 37) hx hb dX8_countLeftOf_18 (by decide) (fun cc => ?_) (fun cc => ?_)
        · replace hf := hf_pos cc hf
          refine lv_iconst (v := 0) hx hb dX8_countLeftOf_37 (by decide) ?_
          obtain rfl := Option.some.inj hf
          exact hJ_5 _ _ _ (lv_sub hl [0, 1, 3] rfl) hP hD hS
        · replace hf := hf_neg cc hf
          refine lv_aload_n hx hb dX8_countLeftOf_21 rfl (lv_at hl 0 rfl) ?_
          refine va_get (D := (dC, dI)) (ci := 7) (C := RX8) (T := TX8) (N := 7) hx hb hts hiX8 hown hK hP 0 rfl rfl 0 (by decide) (hts (.fieldLink RX8 9 "PaddockFields$Steps" "list" "LPaddockFields$Rectangles;") (List.mem_cons_of_mem _ (List.mem_append_left _ (List.mem_append_left _ (List.mem_of_getElem? (i := 1) rfl))))) (fun _ h9 => h9) rfl dX8_countLeftOf_22 ?_
          refine lv_iload_n hx hb dX8_countLeftOf_25 rfl (lv_at hl 3 rfl) ?_
          obtain ⟨s2, h_s2, hf⟩ := hf_bind hf
          refine wh_calli (D := (dC, dI)) (ws' := (wl_fSteps_countLeftOf cI cZ cJ cQ a_0 a_0left a_0list a_0listowner a_0inSome a_0inAll a_0listeveryFirst a_0listeveryLast a_0listeveryCells a_0listfirst a_0listlast a_0listcells numbers_0 open_0 roundsDone_0 left_0 count_0list owner_0list)) (va_runV (As := [.int l3_4]) (rest := [.int l2_3]) ⟨hx, hb, hml, hown, hts⟩ (c_fRectangles_ownerAt l dC dI cI cZ cJ cQ a_0list a_0listowner a_0listeveryFirst a_0listeveryLast a_0listeveryCells a_0listfirst a_0listlast a_0listcells _ h_s2) (cwV 1 hts gX8_countLeftOf_X7_ownerAt rfl rfl rfl (by decide +kernel) ⟨Nat.le_of_ble_eq_true rfl, Nat.le_of_ble_eq_true rfl⟩) (wh_preV (C := RX7) (T := TX7) (N := 8) hK hN hP hD [2, 3] rfl rfl 6 0 rfl rfl) rfl rfl hl.1 rfl (lv_room (Nat.le_of_ble_eq_true rfl)) dX8_countLeftOf_26 ⟨Nat.le_refl _, Nat.le_refl _⟩) hP hD hS hA [2, 3] [0, 1] [0, 1, 2, 3] rfl rfl rfl rfl (fun H locs hP hD hS => ?_)
          refine lv_iload_n hx hb dX8_countLeftOf_29 rfl (lv_at hl 1 rfl) ?_
          refine lv_icmp_ne (tgt := 37) hx hb dX8_countLeftOf_30 (by decide) (fun cc => ?_) (fun cc => ?_)
          · replace hf := hf_pos cc hf
            refine lv_iconst (v := 0) hx hb dX8_countLeftOf_37 (by decide) ?_
            obtain rfl := Option.some.inj hf
            exact hJ_5 _ _ _ (lv_sub hl [0, 1, 3] rfl) hP hD hS
          · replace hf := hf_neg (not_not_intro cc) hf
            refine lv_iconst (v := 1) hx hb dX8_countLeftOf_33 (by decide) ?_
            refine lv_goto (tgt := 38) hx hb dX8_countLeftOf_34 (by decide) ?_
            obtain rfl := Option.some.inj hf
            exact hJ_5 _ _ _ (lv_sub hl [0, 1, 3] rfl) hP hD hS
  exact hL_2 _ _ _ h_r4 _ _ _ (lv_sub hl [2, 3, 1, 0] rfl) hP hD hS
set_option maxHeartbeats 4000000 in
set_option maxRecDepth 100000 in
theorem c_fSteps_countCertain (l : Launch) (dC : Nat → ClassId) (dI : Nat → Nat → Nat) (cI cZ cJ cQ : ClassId) (a_0 a_0left a_0list a_0listowner a_0inSome a_0inAll a_0listeveryFirst a_0listeveryLast a_0listeveryCells a_0listfirst a_0listlast a_0listcells : Nat) (numbers_0 : Int64) (open_0 : Int64) (roundsDone_0 : Int32) (sz : Nat) {F : Nat} {left_0 : Nat → Int32} {count_0list : Int32} {owner_0list : Nat → Int32} {out : Int32} (hf : fSteps_countCertain F left_0 count_0list owner_0list = some out) : Met l yX8_countCertain wsX8_countCertain ({ frames := 2, cells := 0, slots := 0, locals := 44 } : Room) (va_Pc [.ref a_0] (wlP (dC, dI) (wlT cI cZ cJ cQ) (wl_fSteps_countCertain cI cZ cJ cQ a_0 a_0left a_0list a_0listowner a_0inSome a_0inAll a_0listeveryFirst a_0listeveryLast a_0listeveryCells a_0listfirst a_0listlast a_0listcells numbers_0 open_0 roundsDone_0 left_0 count_0list owner_0list) sz)) (va_Qi (fun (v : Int32) (_ : Unit) => v = out) (wlQ (dC, dI) (va_A (wl_fSteps_countCertain cI cZ cJ cQ a_0 a_0left a_0list a_0listowner a_0inSome a_0inAll a_0listeveryFirst a_0listeveryLast a_0listeveryCells a_0listfirst a_0listlast a_0listcells numbers_0 open_0 roundsDone_0 left_0 count_0list owner_0list) sz) (wl_fSteps_countCertain cI cZ cJ cQ a_0 a_0left a_0list a_0listowner a_0inSome a_0inAll a_0listeveryFirst a_0listeveryLast a_0listeveryCells a_0listfirst a_0listlast a_0listcells numbers_0 open_0 roundsDone_0 left_0 count_0list owner_0list)) (va_A (wl_fSteps_countCertain cI cZ cJ cQ a_0 a_0left a_0list a_0listowner a_0inSome a_0inAll a_0listeveryFirst a_0listeveryLast a_0listeveryCells a_0listfirst a_0listlast a_0listcells numbers_0 open_0 roundsDone_0 left_0 count_0list owner_0list) sz)) 0 0 (va_A (wl_fSteps_countCertain cI cZ cJ cQ a_0 a_0left a_0list a_0listowner a_0inSome a_0inAll a_0listeveryFirst a_0listeveryLast a_0listeveryCells a_0listfirst a_0listlast a_0listcells numbers_0 open_0 roundsDone_0 left_0 count_0list owner_0list) sz) := by
  refine wh_ofWi (lv := [(0, .ref a_0)]) RX8 (by decide) rfl rfl (Nat.le_of_ble_eq_true rfl) rfl ?_
  intro p e s m below meth c A QQ hx hb hml hown hts hP hK hN hD hA hret ls hl
  have hS : va_S A s.heap s.heap [] := va_S.rf
  unfold fSteps_countCertain at hf
  refine lv_iconst (v := 0) hx hb dX8_countCertain_0 (by decide) ?_
  refine lv_istore_n (lv' := [(1, .int (0 : Int32)), (0, .ref a_0)]) hx hb dX8_countCertain_1 rfl hl (by decide) rfl (fun ls hl => ?_)
  refine lv_iconst (v := 0) hx hb dX8_countCertain_2 (by decide) ?_
  refine lv_istore_n (lv' := [(2, .int (0 : Int32)), (1, .int (0 : Int32)), (0, .ref a_0)]) hx hb dX8_countCertain_3 rfl hl (by decide) rfl (fun ls hl => ?_)
  obtain ⟨r3, h_r3, hf⟩ := hf_bind hf
  have hE_1 : ∀ (H : Heap) (locs : List Loc) (ls : Array Slot), lv_has ls 3 [(1, .int r3.1)] → va_P (dC, dI) vwCl (wl_fSteps_countCertain cI cZ cJ cQ a_0 a_0left a_0list a_0listowner a_0inSome a_0inAll a_0listeveryFirst a_0listeveryLast a_0listeveryCells a_0listfirst a_0listlast a_0listcells numbers_0 open_0 roundsDone_0 left_0 count_0list owner_0list) H → va_D A (wl_fSteps_countCertain cI cZ cJ cQ a_0 a_0left a_0list a_0listowner a_0inSome a_0inAll a_0listeveryFirst a_0listeveryLast a_0listeveryCells a_0listfirst a_0listlast a_0listcells numbers_0 open_0 roundsDone_0 left_0 count_0list owner_0list) → va_S A s.heap H locs → W p l e ({ frames := 2, cells := 0, slots := 0, locals := 44 } : Room) s m [.ref a_0].toArray below meth c H locs 0 0 QQ (F0 m 33 ls []) := by
    intro H locs ls hl hP hD hS
    refine lv_iload_n hx hb dX8_countCertain_33 rfl (lv_at hl 0 rfl) ?_
    obtain rfl := Option.some.inj hf
    exact hret _ _ _ _ hP hD hS dX8_countCertain_34
  have hL_2 : ∀ (N : Nat) (l1_3 : Int32) (l2_4 : Int32), fSteps_countCertain_L4 F left_0 count_0list owner_0list N l1_3 l2_4 = some r3 → ∀ (H : Heap) (locs : List Loc) (ls : Array Slot), lv_has ls 3 [(0, .ref a_0), (1, .int l1_3), (2, .int l2_4)] → va_P (dC, dI) vwCl (wl_fSteps_countCertain cI cZ cJ cQ a_0 a_0left a_0list a_0listowner a_0inSome a_0inAll a_0listeveryFirst a_0listeveryLast a_0listeveryCells a_0listfirst a_0listlast a_0listcells numbers_0 open_0 roundsDone_0 left_0 count_0list owner_0list) H → va_D A (wl_fSteps_countCertain cI cZ cJ cQ a_0 a_0left a_0list a_0listowner a_0inSome a_0inAll a_0listeveryFirst a_0listeveryLast a_0listeveryCells a_0listfirst a_0listlast a_0listcells numbers_0 open_0 roundsDone_0 left_0 count_0list owner_0list) → va_S A s.heap H locs → W p l e ({ frames := 2, cells := 0, slots := 0, locals := 44 } : Room) s m [.ref a_0].toArray below meth c H locs 0 0 QQ (F0 m 4 ls []) := by
    intro N
    induction N with
    | zero => intro l1_3 l2_4 hf; exact nomatch (show none = some _ from hf)
    | succ N ih =>
      intro l1_3 l2_4 hf H locs ls hl hP hD hS
      rw [fSteps_countCertain_L4] at hf
      refine lv_iload_n hx hb dX8_countCertain_4 rfl (lv_at hl 2 rfl) ?_
      refine lv_bipush (v := 42) hx hb dX8_countCertain_5 (by decide) ?_
      refine lv_icmp_ge (tgt := 33) hx hb dX8_countCertain_7 (by decide) (fun cc => ?_) (fun cc => ?_)
      · replace hf := hf_pos cc hf
        obtain rfl := Option.some.inj hf
        exact hE_1 _ _ _ (lv_sub hl [1] rfl) hP hD hS
      · replace hf := hf_neg cc hf
        refine lv_iload_n hx hb dX8_countCertain_10 rfl (lv_at hl 1 rfl) ?_
        refine lv_aload_n hx hb dX8_countCertain_11 rfl (lv_at hl 0 rfl) ?_
        refine lv_iload_n hx hb dX8_countCertain_12 rfl (lv_at hl 2 rfl) ?_
        obtain ⟨s1, h_s1, hf⟩ := hf_bind hf
        refine wh_calli (D := (dC, dI)) (ws' := (wl_fSteps_countCertain cI cZ cJ cQ a_0 a_0left a_0list a_0listowner a_0inSome a_0inAll a_0listeveryFirst a_0listeveryLast a_0listeveryCells a_0listfirst a_0listlast a_0listcells numbers_0 open_0 roundsDone_0 left_0 count_0list owner_0list)) (va_runV (As := [.int l2_4]) (rest := [.int l1_3]) ⟨hx, hb, hml, hown, hts⟩ (c_fSteps_countLeftOf l dC dI cI cZ cJ cQ a_0 a_0left a_0list a_0listowner a_0inSome a_0inAll a_0listeveryFirst a_0listeveryLast a_0listeveryCells a_0listfirst a_0listlast a_0listcells numbers_0 open_0 roundsDone_0 _ h_s1) (cwV 1 hts gX8_countCertain_X8_countLeftOf rfl rfl rfl (by decide +kernel) ⟨Nat.le_of_ble_eq_true rfl, Nat.le_of_ble_eq_true rfl⟩) (wh_preV (C := RX8) (T := TX8) (N := 7) hK hN hP hD [0, 1, 2, 3] rfl rfl 7 0 rfl rfl) rfl rfl hl.1 rfl (lv_room (Nat.le_of_ble_eq_true rfl)) dX8_countCertain_13 ⟨Nat.le_refl _, Nat.le_refl _⟩) hP hD hS hA [0, 1, 2, 3] [] [0, 1, 2, 3] rfl rfl rfl rfl (fun H locs hP hD hS => ?_)
        refine lv_iconst (v := 1) hx hb dX8_countCertain_16 (by decide) ?_
        obtain ⟨j2, h_j2, hf⟩ := hf_bind hf
        have hJ_5 : ∀ (H : Heap) (locs : List Loc) (ls : Array Slot), lv_has ls 3 [(0, .ref a_0), (2, .int l2_4)] → va_P (dC, dI) vwCl (wl_fSteps_countCertain cI cZ cJ cQ a_0 a_0left a_0list a_0listowner a_0inSome a_0inAll a_0listeveryFirst a_0listeveryLast a_0listeveryCells a_0listfirst a_0listlast a_0listcells numbers_0 open_0 roundsDone_0 left_0 count_0list owner_0list) H → va_D A (wl_fSteps_countCertain cI cZ cJ cQ a_0 a_0left a_0list a_0listowner a_0inSome a_0inAll a_0listeveryFirst a_0listeveryLast a_0listeveryCells a_0listfirst a_0listlast a_0listcells numbers_0 open_0 roundsDone_0 left_0 count_0list owner_0list) → va_S A s.heap H locs → W p l e ({ frames := 2, cells := 0, slots := 0, locals := 44 } : Room) s m [.ref a_0].toArray below meth c H locs 0 0 QQ (F0 m 25 ls [.int j2, .int l1_3]) := by
          intro H locs ls hl hP hD hS
          refine lv_iadd hx hb dX8_countCertain_25 ?_
          refine lv_istore_n (lv' := [(1, .int (l1_3 + j2)), (0, .ref a_0), (2, .int l2_4)]) hx hb dX8_countCertain_26 rfl hl (by decide) rfl (fun ls hl => ?_)
          refine lv_iinc (v := (l2_4 + (1 : Int32))) (lv' := [(2, .int (l2_4 + (1 : Int32))), (1, .int (l1_3 + j2)), (0, .ref a_0)]) hx hb dX8_countCertain_27 hl (k := 2) rfl rfl (by decide) rfl (fun ls hl => ?_)
          refine lv_goto (tgt := 4) hx hb dX8_countCertain_30 (by decide) ?_
          exact ih _ _ hf _ _ _ (lv_sub hl [2, 1, 0] rfl) hP hD hS
        clear hf
        have hf := h_j2
        clear h_j2
        refine lv_icmp_ne (tgt := 24) hx hb dX8_countCertain_17 (by decide) (fun cc => ?_) (fun cc => ?_)
        · replace hf := hf_pos cc hf
          refine lv_iconst (v := 0) hx hb dX8_countCertain_24 (by decide) ?_
          obtain rfl := Option.some.inj hf
          exact hJ_5 _ _ _ (lv_sub hl [0, 2] rfl) hP hD hS
        · replace hf := hf_neg (not_not_intro cc) hf
          refine lv_iconst (v := 1) hx hb dX8_countCertain_20 (by decide) ?_
          refine lv_goto (tgt := 25) hx hb dX8_countCertain_21 (by decide) ?_
          obtain rfl := Option.some.inj hf
          exact hJ_5 _ _ _ (lv_sub hl [0, 2] rfl) hP hD hS
  exact hL_2 _ _ _ h_r3 _ _ _ (lv_sub hl [2, 1, 0] rfl) hP hD hS
set_option maxHeartbeats 4000000 in
set_option maxRecDepth 100000 in
theorem c_fSteps_placeCertain (l : Launch) (dC : Nat → ClassId) (dI : Nat → Nat → Nat) (cI cZ cJ cQ : ClassId) (a_0 a_0left a_0list a_0listowner a_0listfirst a_0listlast a_1 a_1inField a_1first a_1last a_0inSome a_0inAll a_0listeveryFirst a_0listeveryLast a_0listeveryCells a_0listcells a_1number : Nat) (numbers_0 : Int64) (open_0 : Int64) (roundsDone_0 : Int32) (sz : Nat) {F : Nat} {left_0 : Nat → Int32} {count_0list : Int32} {owner_0list : Nat → Int32} {first_0list : Nat → Int32} {last_0list : Nat → Int32} {inField_1 : Nat → Int32} {first_1 : Nat → Int32} {last_1 : Nat → Int32} {out : Int32 × (Nat → Int32) × (Nat → Int32) × (Nat → Int32)} (hf : fSteps_placeCertain F left_0 count_0list owner_0list first_0list last_0list inField_1 first_1 last_1 = some out) : Met l yX8_placeCertain wsX8_placeCertain ({ frames := 2, cells := 0, slots := 0, locals := 46 } : Room) (va_Pc [.ref a_0, .ref a_1] (wlP (dC, dI) (wlT cI cZ cJ cQ) (wl_fSteps_placeCertain cI cZ cJ cQ a_0 a_0left a_0list a_0listowner a_0listfirst a_0listlast a_1 a_1inField a_1first a_1last a_0inSome a_0inAll a_0listeveryFirst a_0listeveryLast a_0listeveryCells a_0listcells a_1number numbers_0 open_0 roundsDone_0 left_0 count_0list owner_0list first_0list last_0list inField_1 first_1 last_1) sz)) (va_Qi (fun (v : Int32) (_ : Unit) => v = out.1) (wlQ (dC, dI) (va_A (wl_fSteps_placeCertain cI cZ cJ cQ a_0 a_0left a_0list a_0listowner a_0listfirst a_0listlast a_1 a_1inField a_1first a_1last a_0inSome a_0inAll a_0listeveryFirst a_0listeveryLast a_0listeveryCells a_0listcells a_1number numbers_0 open_0 roundsDone_0 left_0 count_0list owner_0list first_0list last_0list inField_1 first_1 last_1) sz) (wl_fSteps_placeCertain cI cZ cJ cQ a_0 a_0left a_0list a_0listowner a_0listfirst a_0listlast a_1 a_1inField a_1first a_1last a_0inSome a_0inAll a_0listeveryFirst a_0listeveryLast a_0listeveryCells a_0listcells a_1number numbers_0 open_0 roundsDone_0 left_0 count_0list owner_0list first_0list last_0list out.2.1 out.2.2.1 out.2.2.2)) (va_A (wl_fSteps_placeCertain cI cZ cJ cQ a_0 a_0left a_0list a_0listowner a_0listfirst a_0listlast a_1 a_1inField a_1first a_1last a_0inSome a_0inAll a_0listeveryFirst a_0listeveryLast a_0listeveryCells a_0listcells a_1number numbers_0 open_0 roundsDone_0 left_0 count_0list owner_0list first_0list last_0list inField_1 first_1 last_1) sz)) 0 0 (va_A (wl_fSteps_placeCertain cI cZ cJ cQ a_0 a_0left a_0list a_0listowner a_0listfirst a_0listlast a_1 a_1inField a_1first a_1last a_0inSome a_0inAll a_0listeveryFirst a_0listeveryLast a_0listeveryCells a_0listcells a_1number numbers_0 open_0 roundsDone_0 left_0 count_0list owner_0list first_0list last_0list inField_1 first_1 last_1) sz) := by
  refine wh_ofWi (lv := [(0, .ref a_0), (1, .ref a_1)]) RX8 (by decide) rfl rfl (Nat.le_of_ble_eq_true rfl) rfl ?_
  intro p e s m below meth c A QQ hx hb hml hown hts hP hK hN hD hA hret ls hl
  have hS : va_S A s.heap s.heap [] := va_S.rf
  have hiX8 : ∀ w ∈ wsX80, w ∈ wsX8_placeCertain := (fun _ h => List.mem_cons_of_mem _ (List.mem_append_left _ (List.mem_append_left _ (List.mem_append_right _ (h)))))
  unfold fSteps_placeCertain at hf
  refine lv_iconst (v := 0) hx hb dX8_placeCertain_0 (by decide) ?_
  refine lv_istore_n (lv' := [(2, .int (0 : Int32)), (0, .ref a_0), (1, .ref a_1)]) hx hb dX8_placeCertain_1 rfl hl (by decide) rfl (fun ls hl => ?_)
  refine lv_iconst (v := 0) hx hb dX8_placeCertain_2 (by decide) ?_
  refine lv_istore_n (lv' := [(3, .int (0 : Int32)), (2, .int (0 : Int32)), (0, .ref a_0), (1, .ref a_1)]) hx hb dX8_placeCertain_3 rfl hl (by decide) rfl (fun ls hl => ?_)
  obtain ⟨r8, h_r8, hf⟩ := hf_bind hf
  have hE_1 : ∀ (H : Heap) (locs : List Loc) (ls : Array Slot), lv_has ls 4 [(2, .int r8.1)] → va_P (dC, dI) vwCl (wl_fSteps_placeCertain cI cZ cJ cQ a_0 a_0left a_0list a_0listowner a_0listfirst a_0listlast a_1 a_1inField a_1first a_1last a_0inSome a_0inAll a_0listeveryFirst a_0listeveryLast a_0listeveryCells a_0listcells a_1number numbers_0 open_0 roundsDone_0 left_0 count_0list owner_0list first_0list last_0list r8.2.2.1 r8.2.2.2.1 r8.2.2.2.2) H → va_D A (wl_fSteps_placeCertain cI cZ cJ cQ a_0 a_0left a_0list a_0listowner a_0listfirst a_0listlast a_1 a_1inField a_1first a_1last a_0inSome a_0inAll a_0listeveryFirst a_0listeveryLast a_0listeveryCells a_0listcells a_1number numbers_0 open_0 roundsDone_0 left_0 count_0list owner_0list first_0list last_0list r8.2.2.1 r8.2.2.2.1 r8.2.2.2.2) → va_S A s.heap H locs → W p l e ({ frames := 2, cells := 0, slots := 0, locals := 46 } : Room) s m [.ref a_0, .ref a_1].toArray below meth c H locs 0 0 QQ (F0 m 65 ls []) := by
    intro H locs ls hl hP hD hS
    refine lv_iload_n hx hb dX8_placeCertain_65 rfl (lv_at hl 0 rfl) ?_
    obtain rfl := Option.some.inj hf
    exact hret _ _ _ _ hP hD hS dX8_placeCertain_66
  have hL_2 : ∀ (N : Nat) (l2_3 : Int32) (l3_4 : Int32) (inField_1_5 : Nat → Int32) (first_1_6 : Nat → Int32) (last_1_7 : Nat → Int32), fSteps_placeCertain_L4 F left_0 count_0list owner_0list first_0list last_0list N l2_3 l3_4 inField_1_5 first_1_6 last_1_7 = some r8 → ∀ (H : Heap) (locs : List Loc) (ls : Array Slot), lv_has ls 4 [(0, .ref a_0), (1, .ref a_1), (2, .int l2_3), (3, .int l3_4)] → va_P (dC, dI) vwCl (wl_fSteps_placeCertain cI cZ cJ cQ a_0 a_0left a_0list a_0listowner a_0listfirst a_0listlast a_1 a_1inField a_1first a_1last a_0inSome a_0inAll a_0listeveryFirst a_0listeveryLast a_0listeveryCells a_0listcells a_1number numbers_0 open_0 roundsDone_0 left_0 count_0list owner_0list first_0list last_0list inField_1_5 first_1_6 last_1_7) H → va_D A (wl_fSteps_placeCertain cI cZ cJ cQ a_0 a_0left a_0list a_0listowner a_0listfirst a_0listlast a_1 a_1inField a_1first a_1last a_0inSome a_0inAll a_0listeveryFirst a_0listeveryLast a_0listeveryCells a_0listcells a_1number numbers_0 open_0 roundsDone_0 left_0 count_0list owner_0list first_0list last_0list inField_1_5 first_1_6 last_1_7) → va_S A s.heap H locs → W p l e ({ frames := 2, cells := 0, slots := 0, locals := 46 } : Room) s m [.ref a_0, .ref a_1].toArray below meth c H locs 0 0 QQ (F0 m 4 ls []) := by
    intro N
    induction N with
    | zero => intro l2_3 l3_4 inField_1_5 first_1_6 last_1_7 hf; exact nomatch (show none = some _ from hf)
    | succ N ih =>
      intro l2_3 l3_4 inField_1_5 first_1_6 last_1_7 hf H locs ls hl hP hD hS
      rw [fSteps_placeCertain_L4] at hf
      refine lv_iload_n hx hb dX8_placeCertain_4 rfl (lv_at hl 3 rfl) ?_
      refine lv_sipush (v := 588) hx hb dX8_placeCertain_5 (by decide) ?_
      refine lv_icmp_ge (tgt := 65) hx hb dX8_placeCertain_8 (by decide) (fun cc => ?_) (fun cc => ?_)
      · replace hf := hf_pos cc hf
        obtain rfl := Option.some.inj hf
        exact hE_1 _ _ _ (lv_sub hl [2] rfl) hP hD hS
      · replace hf := hf_neg cc hf
        refine lv_aload_n hx hb dX8_placeCertain_11 rfl (lv_at hl 0 rfl) ?_
        refine va_get (D := (dC, dI)) (ci := 7) (C := RX8) (T := TX8) (N := 7) hx hb hts hiX8 hown hK hP 0 rfl rfl 1 (by decide) (hts (.fieldLink RX8 15 "PaddockFields$Steps" "left" "[Z") (List.mem_cons_of_mem _ (List.mem_append_left _ (List.mem_append_left _ (List.mem_append_left _ (List.mem_append_left _ (List.mem_of_getElem? (i := 0) rfl))))))) (fun _ h9 => h9) rfl dX8_placeCertain_12 ?_
        refine lv_iload_n hx hb dX8_placeCertain_15 rfl (lv_at hl 3 rfl) ?_
        obtain ⟨v1, h_v1, hf⟩ := hf_bind hf
        refine wh_ldZ (D := (dC, dI)) hx hb hK hP 1 1 rfl rfl h_v1 dX8_placeCertain_16 ?_
        obtain ⟨j7, h_j7, hf⟩ := hf_bind hf
        have hJ_8 : ∀ (H : Heap) (locs : List Loc) (ls : Array Slot), lv_has ls 4 [(0, .ref a_0), (1, .ref a_1), (2, .int j7.1), (3, .int l3_4)] → va_P (dC, dI) vwCl (wl_fSteps_placeCertain cI cZ cJ cQ a_0 a_0left a_0list a_0listowner a_0listfirst a_0listlast a_1 a_1inField a_1first a_1last a_0inSome a_0inAll a_0listeveryFirst a_0listeveryLast a_0listeveryCells a_0listcells a_1number numbers_0 open_0 roundsDone_0 left_0 count_0list owner_0list first_0list last_0list j7.2.1 j7.2.2.1 j7.2.2.2) H → va_D A (wl_fSteps_placeCertain cI cZ cJ cQ a_0 a_0left a_0list a_0listowner a_0listfirst a_0listlast a_1 a_1inField a_1first a_1last a_0inSome a_0inAll a_0listeveryFirst a_0listeveryLast a_0listeveryCells a_0listcells a_1number numbers_0 open_0 roundsDone_0 left_0 count_0list owner_0list first_0list last_0list j7.2.1 j7.2.2.1 j7.2.2.2) → va_S A s.heap H locs → W p l e ({ frames := 2, cells := 0, slots := 0, locals := 46 } : Room) s m [.ref a_0, .ref a_1].toArray below meth c H locs 0 0 QQ (F0 m 59 ls []) := by
          intro H locs ls hl hP hD hS
          refine lv_iinc (v := (l3_4 + (1 : Int32))) (lv' := [(3, .int (l3_4 + (1 : Int32))), (0, .ref a_0), (1, .ref a_1), (2, .int j7.1)]) hx hb dX8_placeCertain_59 hl (k := 3) rfl rfl (by decide) rfl (fun ls hl => ?_)
          refine lv_goto (tgt := 4) hx hb dX8_placeCertain_62 (by decide) ?_
          exact ih _ _ _ _ _ hf _ _ _ (lv_sub hl [1, 2, 3, 0] rfl) hP hD hS
        clear hf
        have hf := h_j7
        clear h_j7
        refine lv_if_eq (tgt := 59) hx hb dX8_placeCertain_17 (by decide) (fun cc => ?_) (fun cc => ?_)
        · replace hf := hf_pos cc hf
          obtain rfl := Option.some.inj hf
          exact hJ_8 _ _ _ (lv_sub hl [0, 1, 2, 3] rfl) hP hD hS
        · replace hf := hf_neg cc hf
          refine lv_aload_n hx hb dX8_placeCertain_20 rfl (lv_at hl 0 rfl) ?_
          refine lv_aload_n hx hb dX8_placeCertain_21 rfl (lv_at hl 0 rfl) ?_
          refine va_get (D := (dC, dI)) (ci := 7) (C := RX8) (T := TX8) (N := 7) hx hb hts hiX8 hown hK hP 0 rfl rfl 0 (by decide) (hts (.fieldLink RX8 9 "PaddockFields$Steps" "list" "LPaddockFields$Rectangles;") (List.mem_cons_of_mem _ (List.mem_append_left _ (List.mem_append_left _ (List.mem_append_left _ (List.mem_append_left _ (List.mem_of_getElem? (i := 1) rfl))))))) (fun _ h9 => h9) rfl dX8_placeCertain_22 ?_
          refine lv_iload_n hx hb dX8_placeCertain_25 rfl (lv_at hl 3 rfl) ?_
          obtain ⟨s2, h_s2, hf⟩ := hf_bind hf
          refine wh_calli (D := (dC, dI)) (ws' := (wl_fSteps_placeCertain cI cZ cJ cQ a_0 a_0left a_0list a_0listowner a_0listfirst a_0listlast a_1 a_1inField a_1first a_1last a_0inSome a_0inAll a_0listeveryFirst a_0listeveryLast a_0listeveryCells a_0listcells a_1number numbers_0 open_0 roundsDone_0 left_0 count_0list owner_0list first_0list last_0list inField_1_5 first_1_6 last_1_7)) (va_runV (As := [.int l3_4]) (rest := [.ref a_0]) ⟨hx, hb, hml, hown, hts⟩ (c_fRectangles_ownerAt l dC dI cI cZ cJ cQ a_0list a_0listowner a_0listeveryFirst a_0listeveryLast a_0listeveryCells a_0listfirst a_0listlast a_0listcells _ h_s2) (cwV 1 hts gX8_placeCertain_X7_ownerAt rfl rfl rfl (by decide +kernel) ⟨Nat.le_of_ble_eq_true rfl, Nat.le_of_ble_eq_true rfl⟩) (wh_preV (C := RX7) (T := TX7) (N := 8) hK hN hP hD [2, 3] rfl rfl 6 0 rfl rfl) rfl rfl hl.1 rfl (lv_room (Nat.le_of_ble_eq_true rfl)) dX8_placeCertain_26 ⟨Nat.le_refl _, Nat.le_refl _⟩) hP hD hS hA [2, 3] [0, 1, 4, 5, 6, 7, 8, 9] [0, 1, 8, 9, 2, 3, 4, 5, 6, 7] rfl rfl rfl rfl (fun H locs hP hD hS => ?_)
          obtain ⟨s3, h_s3, hf⟩ := hf_bind hf
          refine wh_calli (D := (dC, dI)) (ws' := (wl_fSteps_placeCertain cI cZ cJ cQ a_0 a_0left a_0list a_0listowner a_0listfirst a_0listlast a_1 a_1inField a_1first a_1last a_0inSome a_0inAll a_0listeveryFirst a_0listeveryLast a_0listeveryCells a_0listcells a_1number numbers_0 open_0 roundsDone_0 left_0 count_0list owner_0list first_0list last_0list inField_1_5 first_1_6 last_1_7)) (va_runV (As := [.int s2]) (rest := []) ⟨hx, hb, hml, hown, hts⟩ (c_fSteps_countLeftOf l dC dI cI cZ cJ cQ a_0 a_0left a_0list a_0listowner a_0inSome a_0inAll a_0listeveryFirst a_0listeveryLast a_0listeveryCells a_0listfirst a_0listlast a_0listcells numbers_0 open_0 roundsDone_0 _ h_s3) (cwV 1 hts gX8_placeCertain_X8_countLeftOf rfl rfl rfl (by decide +kernel) ⟨Nat.le_of_ble_eq_true rfl, Nat.le_of_ble_eq_true rfl⟩) (wh_preV (C := RX8) (T := TX8) (N := 7) hK hN hP hD [0, 1, 2, 3] rfl rfl 7 0 rfl rfl) rfl rfl hl.1 rfl (lv_room (Nat.le_of_ble_eq_true rfl)) dX8_placeCertain_29 ⟨Nat.le_refl _, Nat.le_refl _⟩) hP hD hS hA [0, 1, 2, 3] [4, 5, 6, 7, 8, 9] [6, 7, 8, 9, 0, 1, 2, 3, 4, 5] rfl rfl rfl rfl (fun H locs hP hD hS => ?_)
          refine lv_iconst (v := 1) hx hb dX8_placeCertain_32 (by decide) ?_
          refine lv_icmp_ne (tgt := 59) hx hb dX8_placeCertain_33 (by decide) (fun cc => ?_) (fun cc => ?_)
          · replace hf := hf_pos cc hf
            obtain rfl := Option.some.inj hf
            exact hJ_8 _ _ _ (lv_sub hl [0, 1, 2, 3] rfl) hP hD hS
          · replace hf := hf_neg (not_not_intro cc) hf
            refine lv_aload_n hx hb dX8_placeCertain_36 rfl (lv_at hl 1 rfl) ?_
            refine lv_aload_n hx hb dX8_placeCertain_37 rfl (lv_at hl 0 rfl) ?_
            refine va_get (D := (dC, dI)) (ci := 7) (C := RX8) (T := TX8) (N := 7) hx hb hts hiX8 hown hK hP 0 rfl rfl 0 (by decide) (hts (.fieldLink RX8 9 "PaddockFields$Steps" "list" "LPaddockFields$Rectangles;") (List.mem_cons_of_mem _ (List.mem_append_left _ (List.mem_append_left _ (List.mem_append_left _ (List.mem_append_left _ (List.mem_of_getElem? (i := 1) rfl))))))) (fun _ h9 => h9) rfl dX8_placeCertain_38 ?_
            refine lv_iload_n hx hb dX8_placeCertain_41 rfl (lv_at hl 3 rfl) ?_
            obtain ⟨s4, h_s4, hf⟩ := hf_bind hf
            refine wh_calli (D := (dC, dI)) (ws' := (wl_fSteps_placeCertain cI cZ cJ cQ a_0 a_0left a_0list a_0listowner a_0listfirst a_0listlast a_1 a_1inField a_1first a_1last a_0inSome a_0inAll a_0listeveryFirst a_0listeveryLast a_0listeveryCells a_0listcells a_1number numbers_0 open_0 roundsDone_0 left_0 count_0list owner_0list first_0list last_0list inField_1_5 first_1_6 last_1_7)) (va_runV (As := [.int l3_4]) (rest := [.ref a_1]) ⟨hx, hb, hml, hown, hts⟩ (c_fRectangles_firstAt l dC dI cI cZ cJ cQ a_0list a_0listfirst a_0listeveryFirst a_0listeveryLast a_0listeveryCells a_0listlast a_0listcells a_0listowner _ h_s4) (cwV 1 hts gX8_placeCertain_X7_firstAt rfl rfl rfl (by decide +kernel) ⟨Nat.le_of_ble_eq_true rfl, Nat.le_of_ble_eq_true rfl⟩) (wh_preV (C := RX7) (T := TX7) (N := 8) hK hN hP hD [2, 4] rfl rfl 6 0 rfl rfl) rfl rfl hl.1 rfl (lv_room (Nat.le_of_ble_eq_true rfl)) dX8_placeCertain_42 ⟨Nat.le_refl _, Nat.le_refl _⟩) hP hD hS hA [2, 4] [0, 1, 3, 5, 6, 7, 8, 9] [0, 1, 8, 2, 9, 3, 4, 5, 6, 7] rfl rfl rfl rfl (fun H locs hP hD hS => ?_)
            refine lv_aload_n hx hb dX8_placeCertain_45 rfl (lv_at hl 0 rfl) ?_
            refine va_get (D := (dC, dI)) (ci := 7) (C := RX8) (T := TX8) (N := 7) hx hb hts hiX8 hown hK hP 0 rfl rfl 0 (by decide) (hts (.fieldLink RX8 9 "PaddockFields$Steps" "list" "LPaddockFields$Rectangles;") (List.mem_cons_of_mem _ (List.mem_append_left _ (List.mem_append_left _ (List.mem_append_left _ (List.mem_append_left _ (List.mem_of_getElem? (i := 1) rfl))))))) (fun _ h9 => h9) rfl dX8_placeCertain_46 ?_
            refine lv_iload_n hx hb dX8_placeCertain_49 rfl (lv_at hl 3 rfl) ?_
            obtain ⟨s5, h_s5, hf⟩ := hf_bind hf
            refine wh_calli (D := (dC, dI)) (ws' := (wl_fSteps_placeCertain cI cZ cJ cQ a_0 a_0left a_0list a_0listowner a_0listfirst a_0listlast a_1 a_1inField a_1first a_1last a_0inSome a_0inAll a_0listeveryFirst a_0listeveryLast a_0listeveryCells a_0listcells a_1number numbers_0 open_0 roundsDone_0 left_0 count_0list owner_0list first_0list last_0list inField_1_5 first_1_6 last_1_7)) (va_runV (As := [.int l3_4]) (rest := [.int s4, .ref a_1]) ⟨hx, hb, hml, hown, hts⟩ (c_fRectangles_lastAt l dC dI cI cZ cJ cQ a_0list a_0listlast a_0listeveryFirst a_0listeveryLast a_0listeveryCells a_0listfirst a_0listcells a_0listowner _ h_s5) (cwV 1 hts gX8_placeCertain_X7_lastAt rfl rfl rfl (by decide +kernel) ⟨Nat.le_of_ble_eq_true rfl, Nat.le_of_ble_eq_true rfl⟩) (wh_preV (C := RX7) (T := TX7) (N := 8) hK hN hP hD [2, 5] rfl rfl 6 0 rfl rfl) rfl rfl hl.1 rfl (lv_room (Nat.le_of_ble_eq_true rfl)) dX8_placeCertain_50 ⟨Nat.le_refl _, Nat.le_refl _⟩) hP hD hS hA [2, 5] [0, 1, 3, 4, 6, 7, 8, 9] [0, 1, 8, 2, 3, 9, 4, 5, 6, 7] rfl rfl rfl rfl (fun H locs hP hD hS => ?_)
            obtain ⟨s6, h_s6, hf⟩ := hf_bind hf
            refine wh_callv (D := (dC, dI)) (ws' := (wl_fSteps_placeCertain cI cZ cJ cQ a_0 a_0left a_0list a_0listowner a_0listfirst a_0listlast a_1 a_1inField a_1first a_1last a_0inSome a_0inAll a_0listeveryFirst a_0listeveryLast a_0listeveryCells a_0listcells a_1number numbers_0 open_0 roundsDone_0 left_0 count_0list owner_0list first_0list last_0list s6.1 s6.2.1 s6.2.2)) (va_runV (As := [.int s4, .int s5]) (rest := []) ⟨hx, hb, hml, hown, hts⟩ (c_fBoard_place l dC dI cI cZ cJ cQ a_1 a_1inField a_1first a_1last a_1number _ h_s6) (cwV 2 hts gX8_placeCertain_X0_place rfl rfl rfl (by decide +kernel) ⟨Nat.le_of_ble_eq_true rfl, Nat.le_of_ble_eq_true rfl⟩) (wh_preV (C := RX0) (T := TX0) (N := 4) hK hN hP hD [6, 7, 8, 9] rfl rfl 0 0 rfl rfl) rfl rfl hl.1 rfl (lv_room (Nat.le_of_ble_eq_true rfl)) dX8_placeCertain_53 ⟨Nat.le_refl _, Nat.le_refl _⟩) hP hD hS hA [6, 7, 8, 9] [0, 1, 2, 3, 4, 5] [0, 1, 2, 3, 4, 5, 6, 7, 8, 9] rfl rfl rfl rfl (fun H locs hP hD hS => ?_)
            refine lv_iinc (v := (l2_3 + (1 : Int32))) (lv' := [(2, .int (l2_3 + (1 : Int32))), (0, .ref a_0), (1, .ref a_1), (3, .int l3_4)]) hx hb dX8_placeCertain_56 hl (k := 2) rfl rfl (by decide) rfl (fun ls hl => ?_)
            obtain rfl := Option.some.inj hf
            exact hJ_8 _ _ _ (lv_sub hl [1, 2, 0, 3] rfl) hP hD hS
  exact hL_2 _ _ _ _ _ _ h_r8 _ _ _ (lv_sub hl [2, 3, 1, 0] rfl) hP hD hS
set_option maxHeartbeats 4000000 in
set_option maxRecDepth 100000 in
theorem c_fSteps_firstCertain (l : Launch) (dC : Nat → ClassId) (dI : Nat → Nat → Nat) (cI cZ cJ cQ : ClassId) (a_0 a_0left a_0list a_0listowner a_0inSome a_0inAll a_0listeveryFirst a_0listeveryLast a_0listeveryCells a_0listfirst a_0listlast a_0listcells : Nat) (numbers_0 : Int64) (open_0 : Int64) (roundsDone_0 : Int32) (sz : Nat) {F : Nat} {left_0 : Nat → Int32} {count_0list : Int32} {owner_0list : Nat → Int32} {out : Int32} (hf : fSteps_firstCertain F left_0 count_0list owner_0list = some out) : Met l yX8_firstCertain wsX8_firstCertain ({ frames := 2, cells := 0, slots := 0, locals := 44 } : Room) (va_Pc [.ref a_0] (wlP (dC, dI) (wlT cI cZ cJ cQ) (wl_fSteps_firstCertain cI cZ cJ cQ a_0 a_0left a_0list a_0listowner a_0inSome a_0inAll a_0listeveryFirst a_0listeveryLast a_0listeveryCells a_0listfirst a_0listlast a_0listcells numbers_0 open_0 roundsDone_0 left_0 count_0list owner_0list) sz)) (va_Qi (fun (v : Int32) (_ : Unit) => v = out) (wlQ (dC, dI) (va_A (wl_fSteps_firstCertain cI cZ cJ cQ a_0 a_0left a_0list a_0listowner a_0inSome a_0inAll a_0listeveryFirst a_0listeveryLast a_0listeveryCells a_0listfirst a_0listlast a_0listcells numbers_0 open_0 roundsDone_0 left_0 count_0list owner_0list) sz) (wl_fSteps_firstCertain cI cZ cJ cQ a_0 a_0left a_0list a_0listowner a_0inSome a_0inAll a_0listeveryFirst a_0listeveryLast a_0listeveryCells a_0listfirst a_0listlast a_0listcells numbers_0 open_0 roundsDone_0 left_0 count_0list owner_0list)) (va_A (wl_fSteps_firstCertain cI cZ cJ cQ a_0 a_0left a_0list a_0listowner a_0inSome a_0inAll a_0listeveryFirst a_0listeveryLast a_0listeveryCells a_0listfirst a_0listlast a_0listcells numbers_0 open_0 roundsDone_0 left_0 count_0list owner_0list) sz)) 0 0 (va_A (wl_fSteps_firstCertain cI cZ cJ cQ a_0 a_0left a_0list a_0listowner a_0inSome a_0inAll a_0listeveryFirst a_0listeveryLast a_0listeveryCells a_0listfirst a_0listlast a_0listcells numbers_0 open_0 roundsDone_0 left_0 count_0list owner_0list) sz) := by
  refine wh_ofWi (lv := [(0, .ref a_0)]) RX8 (by decide) rfl rfl (Nat.le_of_ble_eq_true rfl) rfl ?_
  intro p e s m below meth c A QQ hx hb hml hown hts hP hK hN hD hA hret ls hl
  have hS : va_S A s.heap s.heap [] := va_S.rf
  unfold fSteps_firstCertain at hf
  refine lv_iconst (v := 0) hx hb dX8_firstCertain_0 (by decide) ?_
  refine lv_istore_n (lv' := [(1, .int (0 : Int32)), (0, .ref a_0)]) hx hb dX8_firstCertain_1 rfl hl (by decide) rfl (fun ls hl => ?_)
  have hL_1 : ∀ (N : Nat) (l1_2 : Int32), fSteps_firstCertain_L2 F left_0 count_0list owner_0list N l1_2 = some out → ∀ (H : Heap) (locs : List Loc) (ls : Array Slot), lv_has ls 2 [(0, .ref a_0), (1, .int l1_2)] → va_P (dC, dI) vwCl (wl_fSteps_firstCertain cI cZ cJ cQ a_0 a_0left a_0list a_0listowner a_0inSome a_0inAll a_0listeveryFirst a_0listeveryLast a_0listeveryCells a_0listfirst a_0listlast a_0listcells numbers_0 open_0 roundsDone_0 left_0 count_0list owner_0list) H → va_D A (wl_fSteps_firstCertain cI cZ cJ cQ a_0 a_0left a_0list a_0listowner a_0inSome a_0inAll a_0listeveryFirst a_0listeveryLast a_0listeveryCells a_0listfirst a_0listlast a_0listcells numbers_0 open_0 roundsDone_0 left_0 count_0list owner_0list) → va_S A s.heap H locs → W p l e ({ frames := 2, cells := 0, slots := 0, locals := 44 } : Room) s m [.ref a_0].toArray below meth c H locs 0 0 QQ (F0 m 2 ls []) := by
    intro N
    induction N with
    | zero => intro l1_2 hf; exact nomatch (show none = some _ from hf)
    | succ N ih =>
      intro l1_2 hf H locs ls hl hP hD hS
      rw [fSteps_firstCertain_L2] at hf
      refine lv_iload_n hx hb dX8_firstCertain_2 rfl (lv_at hl 1 rfl) ?_
      refine lv_bipush (v := 42) hx hb dX8_firstCertain_3 (by decide) ?_
      refine lv_icmp_ge (tgt := 25) hx hb dX8_firstCertain_5 (by decide) (fun cc => ?_) (fun cc => ?_)
      · replace hf := hf_pos cc hf
        refine lv_bipush (v := 42) hx hb dX8_firstCertain_25 (by decide) ?_
        obtain rfl := Option.some.inj hf
        exact hret _ _ _ _ hP hD hS dX8_firstCertain_27
      · replace hf := hf_neg cc hf
        refine lv_aload_n hx hb dX8_firstCertain_8 rfl (lv_at hl 0 rfl) ?_
        refine lv_iload_n hx hb dX8_firstCertain_9 rfl (lv_at hl 1 rfl) ?_
        obtain ⟨s1, h_s1, hf⟩ := hf_bind hf
        refine wh_calli (D := (dC, dI)) (ws' := (wl_fSteps_firstCertain cI cZ cJ cQ a_0 a_0left a_0list a_0listowner a_0inSome a_0inAll a_0listeveryFirst a_0listeveryLast a_0listeveryCells a_0listfirst a_0listlast a_0listcells numbers_0 open_0 roundsDone_0 left_0 count_0list owner_0list)) (va_runV (As := [.int l1_2]) (rest := []) ⟨hx, hb, hml, hown, hts⟩ (c_fSteps_countLeftOf l dC dI cI cZ cJ cQ a_0 a_0left a_0list a_0listowner a_0inSome a_0inAll a_0listeveryFirst a_0listeveryLast a_0listeveryCells a_0listfirst a_0listlast a_0listcells numbers_0 open_0 roundsDone_0 _ h_s1) (cwV 1 hts gX8_firstCertain_X8_countLeftOf rfl rfl rfl (by decide +kernel) ⟨Nat.le_of_ble_eq_true rfl, Nat.le_of_ble_eq_true rfl⟩) (wh_preV (C := RX8) (T := TX8) (N := 7) hK hN hP hD [0, 1, 2, 3] rfl rfl 7 0 rfl rfl) rfl rfl hl.1 rfl (lv_room (Nat.le_of_ble_eq_true rfl)) dX8_firstCertain_10 ⟨Nat.le_refl _, Nat.le_refl _⟩) hP hD hS hA [0, 1, 2, 3] [] [0, 1, 2, 3] rfl rfl rfl rfl (fun H locs hP hD hS => ?_)
        refine lv_iconst (v := 1) hx hb dX8_firstCertain_13 (by decide) ?_
        refine lv_icmp_ne (tgt := 19) hx hb dX8_firstCertain_14 (by decide) (fun cc => ?_) (fun cc => ?_)
        · replace hf := hf_pos cc hf
          refine lv_iinc (v := (l1_2 + (1 : Int32))) (lv' := [(1, .int (l1_2 + (1 : Int32))), (0, .ref a_0)]) hx hb dX8_firstCertain_19 hl (k := 1) rfl rfl (by decide) rfl (fun ls hl => ?_)
          refine lv_goto (tgt := 2) hx hb dX8_firstCertain_22 (by decide) ?_
          exact ih _ hf _ _ _ (lv_sub hl [1, 0] rfl) hP hD hS
        · replace hf := hf_neg (not_not_intro cc) hf
          refine lv_iload_n hx hb dX8_firstCertain_17 rfl (lv_at hl 1 rfl) ?_
          obtain rfl := Option.some.inj hf
          exact hret _ _ _ _ hP hD hS dX8_firstCertain_18
  exact hL_1 _ _ hf _ _ _ (lv_sub hl [1, 0] rfl) hP hD hS
set_option maxHeartbeats 4000000 in
set_option maxRecDepth 100000 in
theorem c_fRectangles_countOver (l : Launch) (dC : Nat → ClassId) (dI : Nat → Nat → Nat) (cI cZ cJ cQ : ClassId) (a_0 a_0cells a_0everyFirst a_0everyLast a_0everyCells a_0first a_0last a_0owner : Nat) (sz : Nat) {F : Nat} {x1 : Int32} {count_0 : Int32} {cells_0 : Nat → Int64} {out : Int32} (hf : fRectangles_countOver F x1 count_0 cells_0 = some out) : Met l yX7_countOver wsX7_countOver ({ frames := 2, cells := 0, slots := 0, locals := 42 } : Room) (va_Pc [.ref a_0, .int x1] (wlP (dC, dI) (wlT cI cZ cJ cQ) (wl_fRectangles_countOver cI cZ cJ cQ a_0 a_0cells a_0everyFirst a_0everyLast a_0everyCells a_0first a_0last a_0owner count_0 cells_0) sz)) (va_Qi (fun (v : Int32) (_ : Unit) => v = out) (wlQ (dC, dI) (va_A (wl_fRectangles_countOver cI cZ cJ cQ a_0 a_0cells a_0everyFirst a_0everyLast a_0everyCells a_0first a_0last a_0owner count_0 cells_0) sz) (wl_fRectangles_countOver cI cZ cJ cQ a_0 a_0cells a_0everyFirst a_0everyLast a_0everyCells a_0first a_0last a_0owner count_0 cells_0)) (va_A (wl_fRectangles_countOver cI cZ cJ cQ a_0 a_0cells a_0everyFirst a_0everyLast a_0everyCells a_0first a_0last a_0owner count_0 cells_0) sz)) 0 0 (va_A (wl_fRectangles_countOver cI cZ cJ cQ a_0 a_0cells a_0everyFirst a_0everyLast a_0everyCells a_0first a_0last a_0owner count_0 cells_0) sz) := by
  refine wh_ofWi (lv := [(0, .ref a_0), (1, .int x1)]) RX7 (by decide) rfl rfl (Nat.le_of_ble_eq_true rfl) rfl ?_
  intro p e s m below meth c A QQ hx hb hml hown hts hP hK hN hD hA hret ls hl
  have hS : va_S A s.heap s.heap [] := va_S.rf
  have hiX7 : ∀ w ∈ wsX70, w ∈ wsX7_countOver := (fun _ h => List.mem_cons_of_mem _ (List.mem_append_right _ (h)))
  unfold fRectangles_countOver at hf
  refine lv_iconst (v := 0) hx hb dX7_countOver_0 (by decide) ?_
  refine lv_istore_n (lv' := [(2, .int (0 : Int32)), (0, .ref a_0), (1, .int x1)]) hx hb dX7_countOver_1 rfl hl (by decide) rfl (fun ls hl => ?_)
  refine lv_iconst (v := 0) hx hb dX7_countOver_2 (by decide) ?_
  refine lv_istore_n (lv' := [(3, .int (0 : Int32)), (2, .int (0 : Int32)), (0, .ref a_0), (1, .int x1)]) hx hb dX7_countOver_3 rfl hl (by decide) rfl (fun ls hl => ?_)
  obtain ⟨r4, h_r4, hf⟩ := hf_bind hf
  have hE_1 : ∀ (H : Heap) (locs : List Loc) (ls : Array Slot), lv_has ls 4 [(2, .int r4.1)] → va_P (dC, dI) vwCl (wl_fRectangles_countOver cI cZ cJ cQ a_0 a_0cells a_0everyFirst a_0everyLast a_0everyCells a_0first a_0last a_0owner count_0 cells_0) H → va_D A (wl_fRectangles_countOver cI cZ cJ cQ a_0 a_0cells a_0everyFirst a_0everyLast a_0everyCells a_0first a_0last a_0owner count_0 cells_0) → va_S A s.heap H locs → W p l e ({ frames := 2, cells := 0, slots := 0, locals := 42 } : Room) s m [.ref a_0, .int x1].toArray below meth c H locs 0 0 QQ (F0 m 38 ls []) := by
    intro H locs ls hl hP hD hS
    refine lv_iload_n hx hb dX7_countOver_38 rfl (lv_at hl 0 rfl) ?_
    obtain rfl := Option.some.inj hf
    exact hret _ _ _ _ hP hD hS dX7_countOver_39
  have hL_2 : ∀ (N : Nat) (l2_3 : Int32) (l3_4 : Int32), fRectangles_countOver_L4 F x1 count_0 cells_0 N l2_3 l3_4 = some r4 → ∀ (H : Heap) (locs : List Loc) (ls : Array Slot), lv_has ls 4 [(0, .ref a_0), (1, .int x1), (2, .int l2_3), (3, .int l3_4)] → va_P (dC, dI) vwCl (wl_fRectangles_countOver cI cZ cJ cQ a_0 a_0cells a_0everyFirst a_0everyLast a_0everyCells a_0first a_0last a_0owner count_0 cells_0) H → va_D A (wl_fRectangles_countOver cI cZ cJ cQ a_0 a_0cells a_0everyFirst a_0everyLast a_0everyCells a_0first a_0last a_0owner count_0 cells_0) → va_S A s.heap H locs → W p l e ({ frames := 2, cells := 0, slots := 0, locals := 42 } : Room) s m [.ref a_0, .int x1].toArray below meth c H locs 0 0 QQ (F0 m 4 ls []) := by
    intro N
    induction N with
    | zero => intro l2_3 l3_4 hf; exact nomatch (show none = some _ from hf)
    | succ N ih =>
      intro l2_3 l3_4 hf H locs ls hl hP hD hS
      rw [fRectangles_countOver_L4] at hf
      refine lv_iload_n hx hb dX7_countOver_4 rfl (lv_at hl 3 rfl) ?_
      refine lv_aload_n hx hb dX7_countOver_5 rfl (lv_at hl 0 rfl) ?_
      refine va_get (D := (dC, dI)) (ci := 6) (C := RX7) (T := TX7) (N := 8) hx hb hts hiX7 hown hK hP 0 rfl rfl 7 (by decide) (hts (.fieldLink RX7 34 "PaddockFields$Rectangles" "count" "I") (List.mem_cons_of_mem _ (List.mem_append_left _ (List.mem_of_getElem? (i := 0) rfl)))) (fun _ h9 => h9) rfl dX7_countOver_6 ?_
      refine lv_icmp_ge (tgt := 38) hx hb dX7_countOver_9 (by decide) (fun cc => ?_) (fun cc => ?_)
      · replace hf := hf_pos cc hf
        obtain rfl := Option.some.inj hf
        exact hE_1 _ _ _ (lv_sub hl [2] rfl) hP hD hS
      · replace hf := hf_neg cc hf
        refine lv_iload_n hx hb dX7_countOver_12 rfl (lv_at hl 2 rfl) ?_
        refine lv_aload_n hx hb dX7_countOver_13 rfl (lv_at hl 0 rfl) ?_
        refine lv_iload_n hx hb dX7_countOver_14 rfl (lv_at hl 3 rfl) ?_
        obtain ⟨s1, h_s1, hf⟩ := hf_bind hf
        refine wh_calll (D := (dC, dI)) (ws' := (wl_fRectangles_countOver cI cZ cJ cQ a_0 a_0cells a_0everyFirst a_0everyLast a_0everyCells a_0first a_0last a_0owner count_0 cells_0)) (va_runV (As := [.int l3_4]) (rest := [.int l2_3]) ⟨hx, hb, hml, hown, hts⟩ (c_fRectangles_cellsAt l dC dI cI cZ cJ cQ a_0 a_0cells a_0everyFirst a_0everyLast a_0everyCells a_0first a_0last a_0owner _ h_s1) (cwV 1 hts gX7_countOver_X7_cellsAt rfl rfl rfl (by decide +kernel) ⟨Nat.le_of_ble_eq_true rfl, Nat.le_of_ble_eq_true rfl⟩) (wh_preV (C := RX7) (T := TX7) (N := 8) hK hN hP hD [0, 1] rfl rfl 6 0 rfl rfl) rfl rfl hl.1 rfl (lv_room (Nat.le_of_ble_eq_true rfl)) dX7_countOver_15 ⟨Nat.le_refl _, Nat.le_refl _⟩) hP hD hS hA [0, 1] [] [0, 1] rfl rfl rfl rfl (fun H locs hP hD hS => ?_)
        refine lv_iload_n hx hb dX7_countOver_18 rfl (lv_at hl 1 rfl) ?_
        obtain ⟨s2, h_s2, hf⟩ := hf_bind hf
        refine wh_calli (D := (dC, dI)) (ws' := (wl_fRectangles_countOver cI cZ cJ cQ a_0 a_0cells a_0everyFirst a_0everyLast a_0everyCells a_0first a_0last a_0owner count_0 cells_0)) (va_runSN (As := [.long s1, .int x1]) (rest := [.int l2_3]) ⟨hx, hb, hml, hown, hts⟩ (c_fX_has l dC dI cI cZ cJ cQ _ h_s2) ⟨va_cnB 2 hts gX7_countOver_X9_has_n81 rfl rfl rfl (hN (RX7, 81, yX9_has) (List.mem_of_getElem? (i := 8) rfl)) (hts (.initialized RX9) (List.mem_cons_of_mem _ (List.mem_append_left _ (List.mem_of_getElem? (i := 8) rfl)))) (by decide +kernel) ⟨Nat.le_of_ble_eq_true rfl, Nat.le_of_ble_eq_true rfl⟩, (hts (.static yX9_has) (List.mem_cons_of_mem _ (List.mem_append_left _ (List.mem_of_getElem? (i := 7) rfl)))), trivial⟩ (wh_preS hK hN hP hD [] rfl rfl) rfl rfl hl.1 rfl (lv_room (Nat.le_of_ble_eq_true rfl)) dX7_countOver_19 ⟨Nat.le_refl _, Nat.le_refl _⟩) hP hD hS hA [] [0, 1] [0, 1] rfl rfl rfl rfl (fun H locs hP hD hS => ?_)
        obtain ⟨j3, h_j3, hf⟩ := hf_bind hf
        have hJ_5 : ∀ (H : Heap) (locs : List Loc) (ls : Array Slot), lv_has ls 4 [(0, .ref a_0), (1, .int x1), (3, .int l3_4)] → va_P (dC, dI) vwCl (wl_fRectangles_countOver cI cZ cJ cQ a_0 a_0cells a_0everyFirst a_0everyLast a_0everyCells a_0first a_0last a_0owner count_0 cells_0) H → va_D A (wl_fRectangles_countOver cI cZ cJ cQ a_0 a_0cells a_0everyFirst a_0everyLast a_0everyCells a_0first a_0last a_0owner count_0 cells_0) → va_S A s.heap H locs → W p l e ({ frames := 2, cells := 0, slots := 0, locals := 42 } : Room) s m [.ref a_0, .int x1].toArray below meth c H locs 0 0 QQ (F0 m 30 ls [.int j3, .int l2_3]) := by
          intro H locs ls hl hP hD hS
          refine lv_iadd hx hb dX7_countOver_30 ?_
          refine lv_istore_n (lv' := [(2, .int (l2_3 + j3)), (0, .ref a_0), (1, .int x1), (3, .int l3_4)]) hx hb dX7_countOver_31 rfl hl (by decide) rfl (fun ls hl => ?_)
          refine lv_iinc (v := (l3_4 + (1 : Int32))) (lv' := [(3, .int (l3_4 + (1 : Int32))), (2, .int (l2_3 + j3)), (0, .ref a_0), (1, .int x1)]) hx hb dX7_countOver_32 hl (k := 3) rfl rfl (by decide) rfl (fun ls hl => ?_)
          refine lv_goto (tgt := 4) hx hb dX7_countOver_35 (by decide) ?_
          exact ih _ _ hf _ _ _ (lv_sub hl [2, 3, 1, 0] rfl) hP hD hS
        clear hf
        have hf := h_j3
        clear h_j3
        refine lv_if_eq (tgt := 29) hx hb dX7_countOver_22 (by decide) (fun cc => ?_) (fun cc => ?_)
        · replace hf := hf_pos cc hf
          refine lv_iconst (v := 0) hx hb dX7_countOver_29 (by decide) ?_
          obtain rfl := Option.some.inj hf
          exact hJ_5 _ _ _ (lv_sub hl [0, 1, 3] rfl) hP hD hS
        · replace hf := hf_neg cc hf
          refine lv_iconst (v := 1) hx hb dX7_countOver_25 (by decide) ?_
          refine lv_goto (tgt := 30) hx hb dX7_countOver_26 (by decide) ?_
          obtain rfl := Option.some.inj hf
          exact hJ_5 _ _ _ (lv_sub hl [0, 1, 3] rfl) hP hD hS
  exact hL_2 _ _ _ h_r4 _ _ _ (lv_sub hl [2, 3, 1, 0] rfl) hP hD hS
set_option maxHeartbeats 4000000 in
set_option maxRecDepth 100000 in
theorem c_fRectangles_countOwnersOver (l : Launch) (dC : Nat → ClassId) (dI : Nat → Nat → Nat) (cI cZ cJ cQ : ClassId) (a_0 a_0cells a_0owner a_0everyFirst a_0everyLast a_0everyCells a_0first a_0last : Nat) (sz : Nat) {F : Nat} {x1 : Int32} {count_0 : Int32} {cells_0 : Nat → Int64} {owner_0 : Nat → Int32} {out : Int32} (hf : fRectangles_countOwnersOver F x1 count_0 cells_0 owner_0 = some out) : Met l yX7_countOwnersOver wsX7_countOwnersOver ({ frames := 2, cells := 0, slots := 0, locals := 42 } : Room) (va_Pc [.ref a_0, .int x1] (wlP (dC, dI) (wlT cI cZ cJ cQ) (wl_fRectangles_countOwnersOver cI cZ cJ cQ a_0 a_0cells a_0owner a_0everyFirst a_0everyLast a_0everyCells a_0first a_0last count_0 cells_0 owner_0) sz)) (va_Qi (fun (v : Int32) (_ : Unit) => v = out) (wlQ (dC, dI) (va_A (wl_fRectangles_countOwnersOver cI cZ cJ cQ a_0 a_0cells a_0owner a_0everyFirst a_0everyLast a_0everyCells a_0first a_0last count_0 cells_0 owner_0) sz) (wl_fRectangles_countOwnersOver cI cZ cJ cQ a_0 a_0cells a_0owner a_0everyFirst a_0everyLast a_0everyCells a_0first a_0last count_0 cells_0 owner_0)) (va_A (wl_fRectangles_countOwnersOver cI cZ cJ cQ a_0 a_0cells a_0owner a_0everyFirst a_0everyLast a_0everyCells a_0first a_0last count_0 cells_0 owner_0) sz)) 0 0 (va_A (wl_fRectangles_countOwnersOver cI cZ cJ cQ a_0 a_0cells a_0owner a_0everyFirst a_0everyLast a_0everyCells a_0first a_0last count_0 cells_0 owner_0) sz) := by
  refine wh_ofWi (lv := [(0, .ref a_0), (1, .int x1)]) RX7 (by decide) rfl rfl (Nat.le_of_ble_eq_true rfl) rfl ?_
  intro p e s m below meth c A QQ hx hb hml hown hts hP hK hN hD hA hret ls hl
  have hS : va_S A s.heap s.heap [] := va_S.rf
  have hiX7 : ∀ w ∈ wsX70, w ∈ wsX7_countOwnersOver := (fun _ h => List.mem_cons_of_mem _ (List.mem_append_right _ (h)))
  unfold fRectangles_countOwnersOver at hf
  refine lv_lconst (v := 0) hx hb dX7_countOwnersOver_0 (by decide) ?_
  refine lv_lstore_n (lv' := [(2, .long (0 : Int64)), (0, .ref a_0), (1, .int x1)]) hx hb dX7_countOwnersOver_1 rfl hl (by decide) rfl (fun ls hl => ?_)
  refine lv_iconst (v := 0) hx hb dX7_countOwnersOver_2 (by decide) ?_
  refine lv_istore (lv' := [(4, .int (0 : Int32)), (2, .long (0 : Int64)), (0, .ref a_0), (1, .int x1)]) hx hb dX7_countOwnersOver_3 hl (by decide) rfl (fun ls hl => ?_)
  obtain ⟨r6, h_r6, hf⟩ := hf_bind hf
  have hE_1 : ∀ (H : Heap) (locs : List Loc) (ls : Array Slot), lv_has ls 5 [(2, .long r6.1)] → va_P (dC, dI) vwCl (wl_fRectangles_countOwnersOver cI cZ cJ cQ a_0 a_0cells a_0owner a_0everyFirst a_0everyLast a_0everyCells a_0first a_0last count_0 cells_0 owner_0) H → va_D A (wl_fRectangles_countOwnersOver cI cZ cJ cQ a_0 a_0cells a_0owner a_0everyFirst a_0everyLast a_0everyCells a_0first a_0last count_0 cells_0 owner_0) → va_S A s.heap H locs → W p l e ({ frames := 2, cells := 0, slots := 0, locals := 42 } : Room) s m [.ref a_0, .int x1].toArray below meth c H locs 0 0 QQ (F0 m 49 ls []) := by
    intro H locs ls hl hP hD hS
    refine lv_lload_n hx hb dX7_countOwnersOver_49 rfl (lv_at hl 0 rfl) ?_
    refine wh_calli (ws' := (wl_fRectangles_countOwnersOver cI cZ cJ cQ a_0 a_0cells a_0owner a_0everyFirst a_0everyLast a_0everyCells a_0first a_0last count_0 cells_0 owner_0)) (va_runS (As := [.long r6.1]) (rest := []) ⟨hx, hb, hml, hown, hts⟩ (c_fJ_bitCount l dC dI cI cZ cJ cQ _ r6.1) (va_cwS 1 hts gX7_countOwnersOver_J13_bitCount_95d88 rfl rfl rfl (by decide +kernel) ⟨Nat.le_of_ble_eq_true rfl, Nat.le_of_ble_eq_true rfl⟩) (wh_preS hK hN hP hD [] rfl rfl) rfl rfl hl.1 rfl (lv_room (Nat.le_of_ble_eq_true rfl)) dX7_countOwnersOver_50 ⟨Nat.le_refl _, Nat.le_refl _⟩) hP hD hS hA [] [0, 1, 2] [0, 1, 2] rfl rfl rfl rfl (fun H locs hP hD hS => ?_)
    obtain rfl := Option.some.inj hf
    exact hret _ _ _ _ hP hD hS dX7_countOwnersOver_53
  have hL_2 : ∀ (N : Nat) (l2_3 : Int64) (l4_4 : Int32), fRectangles_countOwnersOver_L5 F x1 count_0 cells_0 owner_0 N l2_3 l4_4 = some r6 → ∀ (H : Heap) (locs : List Loc) (ls : Array Slot), lv_has ls 5 [(0, .ref a_0), (1, .int x1), (2, .long l2_3), (4, .int l4_4)] → va_P (dC, dI) vwCl (wl_fRectangles_countOwnersOver cI cZ cJ cQ a_0 a_0cells a_0owner a_0everyFirst a_0everyLast a_0everyCells a_0first a_0last count_0 cells_0 owner_0) H → va_D A (wl_fRectangles_countOwnersOver cI cZ cJ cQ a_0 a_0cells a_0owner a_0everyFirst a_0everyLast a_0everyCells a_0first a_0last count_0 cells_0 owner_0) → va_S A s.heap H locs → W p l e ({ frames := 2, cells := 0, slots := 0, locals := 42 } : Room) s m [.ref a_0, .int x1].toArray below meth c H locs 0 0 QQ (F0 m 5 ls []) := by
    intro N
    induction N with
    | zero => intro l2_3 l4_4 hf; exact nomatch (show none = some _ from hf)
    | succ N ih =>
      intro l2_3 l4_4 hf H locs ls hl hP hD hS
      rw [fRectangles_countOwnersOver_L5] at hf
      refine lv_iload hx hb dX7_countOwnersOver_5 (lv_at hl 3 rfl) ?_
      refine lv_aload_n hx hb dX7_countOwnersOver_7 rfl (lv_at hl 0 rfl) ?_
      refine va_get (D := (dC, dI)) (ci := 6) (C := RX7) (T := TX7) (N := 8) hx hb hts hiX7 hown hK hP 0 rfl rfl 7 (by decide) (hts (.fieldLink RX7 34 "PaddockFields$Rectangles" "count" "I") (List.mem_cons_of_mem _ (List.mem_append_left _ (List.mem_append_left _ (List.mem_of_getElem? (i := 0) rfl))))) (fun _ h9 => h9) rfl dX7_countOwnersOver_8 ?_
      refine lv_icmp_ge (tgt := 49) hx hb dX7_countOwnersOver_11 (by decide) (fun cc => ?_) (fun cc => ?_)
      · replace hf := hf_pos cc hf
        obtain rfl := Option.some.inj hf
        exact hE_1 _ _ _ (lv_sub hl [2] rfl) hP hD hS
      · replace hf := hf_neg cc hf
        refine lv_lload_n hx hb dX7_countOwnersOver_14 rfl (lv_at hl 2 rfl) ?_
        refine lv_aload_n hx hb dX7_countOwnersOver_15 rfl (lv_at hl 0 rfl) ?_
        refine lv_iload hx hb dX7_countOwnersOver_16 (lv_at hl 3 rfl) ?_
        obtain ⟨s1, h_s1, hf⟩ := hf_bind hf
        refine wh_calll (D := (dC, dI)) (ws' := (wl_fRectangles_countOwnersOver cI cZ cJ cQ a_0 a_0cells a_0owner a_0everyFirst a_0everyLast a_0everyCells a_0first a_0last count_0 cells_0 owner_0)) (va_runV (As := [.int l4_4]) (rest := [.long l2_3]) ⟨hx, hb, hml, hown, hts⟩ (c_fRectangles_cellsAt l dC dI cI cZ cJ cQ a_0 a_0cells a_0everyFirst a_0everyLast a_0everyCells a_0first a_0last a_0owner _ h_s1) (cwV 1 hts gX7_countOwnersOver_X7_cellsAt rfl rfl rfl (by decide +kernel) ⟨Nat.le_of_ble_eq_true rfl, Nat.le_of_ble_eq_true rfl⟩) (wh_preV (C := RX7) (T := TX7) (N := 8) hK hN hP hD [0, 1] rfl rfl 6 0 rfl rfl) rfl rfl hl.1 rfl (lv_room (Nat.le_of_ble_eq_true rfl)) dX7_countOwnersOver_18 ⟨Nat.le_refl _, Nat.le_refl _⟩) hP hD hS hA [0, 1] [2] [1, 2, 0] rfl rfl rfl rfl (fun H locs hP hD hS => ?_)
        refine lv_iload_n hx hb dX7_countOwnersOver_21 rfl (lv_at hl 1 rfl) ?_
        obtain ⟨s2, h_s2, hf⟩ := hf_bind hf
        refine wh_calli (D := (dC, dI)) (ws' := (wl_fRectangles_countOwnersOver cI cZ cJ cQ a_0 a_0cells a_0owner a_0everyFirst a_0everyLast a_0everyCells a_0first a_0last count_0 cells_0 owner_0)) (va_runSN (As := [.long s1, .int x1]) (rest := [.long l2_3]) ⟨hx, hb, hml, hown, hts⟩ (c_fX_has l dC dI cI cZ cJ cQ _ h_s2) ⟨va_cnB 2 hts gX7_countOwnersOver_X9_has_n81 rfl rfl rfl (hN (RX7, 81, yX9_has) (List.mem_of_getElem? (i := 8) rfl)) (hts (.initialized RX9) (List.mem_cons_of_mem _ (List.mem_append_left _ (List.mem_append_left _ (List.mem_of_getElem? (i := 8) rfl))))) (by decide +kernel) ⟨Nat.le_of_ble_eq_true rfl, Nat.le_of_ble_eq_true rfl⟩, (hts (.static yX9_has) (List.mem_cons_of_mem _ (List.mem_append_left _ (List.mem_append_left _ (List.mem_of_getElem? (i := 7) rfl))))), trivial⟩ (wh_preS hK hN hP hD [] rfl rfl) rfl rfl hl.1 rfl (lv_room (Nat.le_of_ble_eq_true rfl)) dX7_countOwnersOver_22 ⟨Nat.le_refl _, Nat.le_refl _⟩) hP hD hS hA [] [0, 1, 2] [0, 1, 2] rfl rfl rfl rfl (fun H locs hP hD hS => ?_)
        obtain ⟨j5, h_j5, hf⟩ := hf_bind hf
        have hJ_5 : ∀ (H : Heap) (locs : List Loc) (ls : Array Slot), lv_has ls 5 [(0, .ref a_0), (1, .int x1), (4, .int l4_4)] → va_P (dC, dI) vwCl (wl_fRectangles_countOwnersOver cI cZ cJ cQ a_0 a_0cells a_0owner a_0everyFirst a_0everyLast a_0everyCells a_0first a_0last count_0 cells_0 owner_0) H → va_D A (wl_fRectangles_countOwnersOver cI cZ cJ cQ a_0 a_0cells a_0owner a_0everyFirst a_0everyLast a_0everyCells a_0first a_0last count_0 cells_0 owner_0) → va_S A s.heap H locs → W p l e ({ frames := 2, cells := 0, slots := 0, locals := 42 } : Room) s m [.ref a_0, .int x1].toArray below meth c H locs 0 0 QQ (F0 m 41 ls [.long j5, .long l2_3]) := by
          intro H locs ls hl hP hD hS
          refine lv_lor hx hb dX7_countOwnersOver_41 ?_
          refine lv_lstore_n (lv' := [(2, .long (l2_3 ||| j5)), (0, .ref a_0), (1, .int x1), (4, .int l4_4)]) hx hb dX7_countOwnersOver_42 rfl hl (by decide) rfl (fun ls hl => ?_)
          refine lv_iinc (v := (l4_4 + (1 : Int32))) (lv' := [(4, .int (l4_4 + (1 : Int32))), (2, .long (l2_3 ||| j5)), (0, .ref a_0), (1, .int x1)]) hx hb dX7_countOwnersOver_43 hl (k := 3) rfl rfl (by decide) rfl (fun ls hl => ?_)
          refine lv_goto (tgt := 5) hx hb dX7_countOwnersOver_46 (by decide) ?_
          exact ih _ _ hf _ _ _ (lv_sub hl [2, 3, 1, 0] rfl) hP hD hS
        clear hf
        have hf := h_j5
        clear h_j5
        refine lv_if_eq (tgt := 40) hx hb dX7_countOwnersOver_25 (by decide) (fun cc => ?_) (fun cc => ?_)
        · replace hf := hf_pos cc hf
          refine lv_lconst (v := 0) hx hb dX7_countOwnersOver_40 (by decide) ?_
          obtain rfl := Option.some.inj hf
          exact hJ_5 _ _ _ (lv_sub hl [0, 1, 3] rfl) hP hD hS
        · replace hf := hf_neg cc hf
          refine lv_aload_n hx hb dX7_countOwnersOver_28 rfl (lv_at hl 0 rfl) ?_
          refine lv_iload hx hb dX7_countOwnersOver_29 (lv_at hl 3 rfl) ?_
          obtain ⟨s3, h_s3, hf⟩ := hf_bind hf
          refine wh_calli (D := (dC, dI)) (ws' := (wl_fRectangles_countOwnersOver cI cZ cJ cQ a_0 a_0cells a_0owner a_0everyFirst a_0everyLast a_0everyCells a_0first a_0last count_0 cells_0 owner_0)) (va_runV (As := [.int l4_4]) (rest := [.long l2_3]) ⟨hx, hb, hml, hown, hts⟩ (c_fRectangles_ownerAt l dC dI cI cZ cJ cQ a_0 a_0owner a_0everyFirst a_0everyLast a_0everyCells a_0first a_0last a_0cells _ h_s3) (cwV 1 hts gX7_countOwnersOver_X7_ownerAt rfl rfl rfl (by decide +kernel) ⟨Nat.le_of_ble_eq_true rfl, Nat.le_of_ble_eq_true rfl⟩) (wh_preV (C := RX7) (T := TX7) (N := 8) hK hN hP hD [0, 2] rfl rfl 6 0 rfl rfl) rfl rfl hl.1 rfl (lv_room (Nat.le_of_ble_eq_true rfl)) dX7_countOwnersOver_31 ⟨Nat.le_refl _, Nat.le_refl _⟩) hP hD hS hA [0, 2] [1] [1, 0, 2] rfl rfl rfl rfl (fun H locs hP hD hS => ?_)
          obtain ⟨s4, h_s4, hf⟩ := hf_bind hf
          refine wh_calll (D := (dC, dI)) (ws' := (wl_fRectangles_countOwnersOver cI cZ cJ cQ a_0 a_0cells a_0owner a_0everyFirst a_0everyLast a_0everyCells a_0first a_0last count_0 cells_0 owner_0)) (va_runSN (As := [.int s3]) (rest := [.long l2_3]) ⟨hx, hb, hml, hown, hts⟩ (c_fX_bit l dC dI cI cZ cJ cQ _ h_s4) ⟨va_cnB 1 hts gX7_countOwnersOver_X9_bit_n85 rfl rfl rfl (hN (RX7, 85, yX9_bit) (List.mem_of_getElem? (i := 9) rfl)) (hts (.initialized RX9) (List.mem_cons_of_mem _ (List.mem_append_left _ (List.mem_append_left _ (List.mem_of_getElem? (i := 8) rfl))))) (by decide +kernel) ⟨Nat.le_of_ble_eq_true rfl, Nat.le_of_ble_eq_true rfl⟩, (hts (.static yX9_bit) (List.mem_cons_of_mem _ (List.mem_append_left _ (List.mem_append_left _ (List.mem_of_getElem? (i := 11) rfl))))), trivial⟩ (wh_preS hK hN hP hD [] rfl rfl) rfl rfl hl.1 rfl (lv_room (Nat.le_of_ble_eq_true rfl)) dX7_countOwnersOver_34 ⟨Nat.le_refl _, Nat.le_refl _⟩) hP hD hS hA [] [0, 1, 2] [0, 1, 2] rfl rfl rfl rfl (fun H locs hP hD hS => ?_)
          refine lv_goto (tgt := 41) hx hb dX7_countOwnersOver_37 (by decide) ?_
          obtain rfl := Option.some.inj hf
          exact hJ_5 _ _ _ (lv_sub hl [0, 1, 3] rfl) hP hD hS
  exact hL_2 _ _ _ h_r6 _ _ _ (lv_sub hl [2, 3, 1, 0] rfl) hP hD hS
set_option maxHeartbeats 4000000 in
set_option maxRecDepth 100000 in
theorem c_fSteps_countLeft (l : Launch) (dC : Nat → ClassId) (dI : Nat → Nat → Nat) (cI cZ cJ cQ : ClassId) (a_0 a_0left a_0list a_0inSome a_0inAll : Nat) (numbers_0 : Int64) (open_0 : Int64) (roundsDone_0 : Int32) (sz : Nat) {F : Nat} {left_0 : Nat → Int32} {out : Int32} (hf : fSteps_countLeft F left_0 = some out) : Met l yX8_countLeft wsX8_countLeft ({ frames := 0, cells := 0, slots := 0, locals := 0 } : Room) (va_Pc [.ref a_0] (wlP (dC, dI) (wlT cI cZ cJ cQ) (wl_fSteps_countLeft cI cZ cJ cQ a_0 a_0left a_0list a_0inSome a_0inAll numbers_0 open_0 roundsDone_0 left_0) sz)) (va_Qi (fun (v : Int32) (_ : Unit) => v = out) (wlQ (dC, dI) (va_A (wl_fSteps_countLeft cI cZ cJ cQ a_0 a_0left a_0list a_0inSome a_0inAll numbers_0 open_0 roundsDone_0 left_0) sz) (wl_fSteps_countLeft cI cZ cJ cQ a_0 a_0left a_0list a_0inSome a_0inAll numbers_0 open_0 roundsDone_0 left_0)) (va_A (wl_fSteps_countLeft cI cZ cJ cQ a_0 a_0left a_0list a_0inSome a_0inAll numbers_0 open_0 roundsDone_0 left_0) sz)) 0 0 (va_A (wl_fSteps_countLeft cI cZ cJ cQ a_0 a_0left a_0list a_0inSome a_0inAll numbers_0 open_0 roundsDone_0 left_0) sz) := by
  refine wh_ofWi (lv := [(0, .ref a_0)]) RX8 (by decide) rfl rfl (Nat.le_of_ble_eq_true rfl) rfl ?_
  intro p e s m below meth c A QQ hx hb hml hown hts hP hK hN hD hA hret ls hl
  have hS : va_S A s.heap s.heap [] := va_S.rf
  have hiX8 : ∀ w ∈ wsX80, w ∈ wsX8_countLeft := (fun _ h => List.mem_cons_of_mem _ (List.mem_append_right _ (h)))
  unfold fSteps_countLeft at hf
  refine lv_iconst (v := 0) hx hb dX8_countLeft_0 (by decide) ?_
  refine lv_istore_n (lv' := [(1, .int (0 : Int32)), (0, .ref a_0)]) hx hb dX8_countLeft_1 rfl hl (by decide) rfl (fun ls hl => ?_)
  refine lv_iconst (v := 0) hx hb dX8_countLeft_2 (by decide) ?_
  refine lv_istore_n (lv' := [(2, .int (0 : Int32)), (1, .int (0 : Int32)), (0, .ref a_0)]) hx hb dX8_countLeft_3 rfl hl (by decide) rfl (fun ls hl => ?_)
  obtain ⟨r3, h_r3, hf⟩ := hf_bind hf
  have hE_1 : ∀ (H : Heap) (locs : List Loc) (ls : Array Slot), lv_has ls 3 [(1, .int r3.1)] → va_P (dC, dI) vwCl (wl_fSteps_countLeft cI cZ cJ cQ a_0 a_0left a_0list a_0inSome a_0inAll numbers_0 open_0 roundsDone_0 left_0) H → va_D A (wl_fSteps_countLeft cI cZ cJ cQ a_0 a_0left a_0list a_0inSome a_0inAll numbers_0 open_0 roundsDone_0 left_0) → va_S A s.heap H locs → W p l e ({ frames := 0, cells := 0, slots := 0, locals := 0 } : Room) s m [.ref a_0].toArray below meth c H locs 0 0 QQ (F0 m 34 ls []) := by
    intro H locs ls hl hP hD hS
    refine lv_iload_n hx hb dX8_countLeft_34 rfl (lv_at hl 0 rfl) ?_
    obtain rfl := Option.some.inj hf
    exact hret _ _ _ _ hP hD hS dX8_countLeft_35
  have hL_2 : ∀ (N : Nat) (l1_3 : Int32) (l2_4 : Int32), fSteps_countLeft_L4 F left_0 N l1_3 l2_4 = some r3 → ∀ (H : Heap) (locs : List Loc) (ls : Array Slot), lv_has ls 3 [(0, .ref a_0), (1, .int l1_3), (2, .int l2_4)] → va_P (dC, dI) vwCl (wl_fSteps_countLeft cI cZ cJ cQ a_0 a_0left a_0list a_0inSome a_0inAll numbers_0 open_0 roundsDone_0 left_0) H → va_D A (wl_fSteps_countLeft cI cZ cJ cQ a_0 a_0left a_0list a_0inSome a_0inAll numbers_0 open_0 roundsDone_0 left_0) → va_S A s.heap H locs → W p l e ({ frames := 0, cells := 0, slots := 0, locals := 0 } : Room) s m [.ref a_0].toArray below meth c H locs 0 0 QQ (F0 m 4 ls []) := by
    intro N
    induction N with
    | zero => intro l1_3 l2_4 hf; exact nomatch (show none = some _ from hf)
    | succ N ih =>
      intro l1_3 l2_4 hf H locs ls hl hP hD hS
      rw [fSteps_countLeft_L4] at hf
      refine lv_iload_n hx hb dX8_countLeft_4 rfl (lv_at hl 2 rfl) ?_
      refine lv_sipush (v := 588) hx hb dX8_countLeft_5 (by decide) ?_
      refine lv_icmp_ge (tgt := 34) hx hb dX8_countLeft_8 (by decide) (fun cc => ?_) (fun cc => ?_)
      · replace hf := hf_pos cc hf
        obtain rfl := Option.some.inj hf
        exact hE_1 _ _ _ (lv_sub hl [1] rfl) hP hD hS
      · replace hf := hf_neg cc hf
        refine lv_iload_n hx hb dX8_countLeft_11 rfl (lv_at hl 1 rfl) ?_
        refine lv_aload_n hx hb dX8_countLeft_12 rfl (lv_at hl 0 rfl) ?_
        refine va_get (D := (dC, dI)) (ci := 7) (C := RX8) (T := TX8) (N := 7) hx hb hts hiX8 hown hK hP 0 rfl rfl 1 (by decide) (hts (.fieldLink RX8 15 "PaddockFields$Steps" "left" "[Z") (List.mem_cons_of_mem _ (List.mem_append_left _ (List.mem_of_getElem? (i := 0) rfl)))) (fun _ h9 => h9) rfl dX8_countLeft_13 ?_
        refine lv_iload_n hx hb dX8_countLeft_16 rfl (lv_at hl 2 rfl) ?_
        obtain ⟨v1, h_v1, hf⟩ := hf_bind hf
        refine wh_ldZ (D := (dC, dI)) hx hb hK hP 1 1 rfl rfl h_v1 dX8_countLeft_17 ?_
        obtain ⟨j2, h_j2, hf⟩ := hf_bind hf
        have hJ_5 : ∀ (H : Heap) (locs : List Loc) (ls : Array Slot), lv_has ls 3 [(0, .ref a_0), (2, .int l2_4)] → va_P (dC, dI) vwCl (wl_fSteps_countLeft cI cZ cJ cQ a_0 a_0left a_0list a_0inSome a_0inAll numbers_0 open_0 roundsDone_0 left_0) H → va_D A (wl_fSteps_countLeft cI cZ cJ cQ a_0 a_0left a_0list a_0inSome a_0inAll numbers_0 open_0 roundsDone_0 left_0) → va_S A s.heap H locs → W p l e ({ frames := 0, cells := 0, slots := 0, locals := 0 } : Room) s m [.ref a_0].toArray below meth c H locs 0 0 QQ (F0 m 26 ls [.int j2, .int l1_3]) := by
          intro H locs ls hl hP hD hS
          refine lv_iadd hx hb dX8_countLeft_26 ?_
          refine lv_istore_n (lv' := [(1, .int (l1_3 + j2)), (0, .ref a_0), (2, .int l2_4)]) hx hb dX8_countLeft_27 rfl hl (by decide) rfl (fun ls hl => ?_)
          refine lv_iinc (v := (l2_4 + (1 : Int32))) (lv' := [(2, .int (l2_4 + (1 : Int32))), (1, .int (l1_3 + j2)), (0, .ref a_0)]) hx hb dX8_countLeft_28 hl (k := 2) rfl rfl (by decide) rfl (fun ls hl => ?_)
          refine lv_goto (tgt := 4) hx hb dX8_countLeft_31 (by decide) ?_
          exact ih _ _ hf _ _ _ (lv_sub hl [2, 1, 0] rfl) hP hD hS
        clear hf
        have hf := h_j2
        clear h_j2
        refine lv_if_eq (tgt := 25) hx hb dX8_countLeft_18 (by decide) (fun cc => ?_) (fun cc => ?_)
        · replace hf := hf_pos cc hf
          refine lv_iconst (v := 0) hx hb dX8_countLeft_25 (by decide) ?_
          obtain rfl := Option.some.inj hf
          exact hJ_5 _ _ _ (lv_sub hl [0, 2] rfl) hP hD hS
        · replace hf := hf_neg cc hf
          refine lv_iconst (v := 1) hx hb dX8_countLeft_21 (by decide) ?_
          refine lv_goto (tgt := 26) hx hb dX8_countLeft_22 (by decide) ?_
          obtain rfl := Option.some.inj hf
          exact hJ_5 _ _ _ (lv_sub hl [0, 2] rfl) hP hD hS
  exact hL_2 _ _ _ h_r3 _ _ _ (lv_sub hl [2, 1, 0] rfl) hP hD hS
set_option maxHeartbeats 4000000 in
set_option maxRecDepth 100000 in
theorem c_fSteps_countRounds (l : Launch) (dC : Nat → ClassId) (dI : Nat → Nat → Nat) (cI cZ cJ cQ : ClassId) (a_0 a_0list a_0left a_0inSome a_0inAll : Nat) (numbers_0 : Int64) (open_0 : Int64) (sz : Nat) {roundsDone_0 : Int32} {out : Int32} (hf : fSteps_countRounds roundsDone_0 = some out) : Met l yX8_countRounds wsX8_countRounds ({ frames := 0, cells := 0, slots := 0, locals := 0 } : Room) (va_Pc [.ref a_0] (wlP (dC, dI) (wlT cI cZ cJ cQ) (wl_fSteps_countRounds cI cZ cJ cQ a_0 a_0list a_0left a_0inSome a_0inAll numbers_0 open_0 roundsDone_0) sz)) (va_Qi (fun (v : Int32) (_ : Unit) => v = out) (wlQ (dC, dI) (va_A (wl_fSteps_countRounds cI cZ cJ cQ a_0 a_0list a_0left a_0inSome a_0inAll numbers_0 open_0 roundsDone_0) sz) (wl_fSteps_countRounds cI cZ cJ cQ a_0 a_0list a_0left a_0inSome a_0inAll numbers_0 open_0 roundsDone_0)) (va_A (wl_fSteps_countRounds cI cZ cJ cQ a_0 a_0list a_0left a_0inSome a_0inAll numbers_0 open_0 roundsDone_0) sz)) 0 0 (va_A (wl_fSteps_countRounds cI cZ cJ cQ a_0 a_0list a_0left a_0inSome a_0inAll numbers_0 open_0 roundsDone_0) sz) := by
  refine wh_ofWi (lv := [(0, .ref a_0)]) RX8 (by decide) rfl rfl (Nat.le_of_ble_eq_true rfl) rfl ?_
  intro p e s m below meth c A QQ hx hb hml hown hts hP hK hN hD hA hret ls hl
  have hS : va_S A s.heap s.heap [] := va_S.rf
  have hiX8 : ∀ w ∈ wsX80, w ∈ wsX8_countRounds := (fun _ h => List.mem_cons_of_mem _ (List.mem_append_right _ (h)))
  unfold fSteps_countRounds at hf
  refine lv_aload_n hx hb dX8_countRounds_0 rfl (lv_at hl 0 rfl) ?_
  refine va_get (D := (dC, dI)) (ci := 7) (C := RX8) (T := TX8) (N := 7) hx hb hts hiX8 hown hK hP 0 rfl rfl 6 (by decide) (hts (.fieldLink RX8 33 "PaddockFields$Steps" "roundsDone" "I") (List.mem_cons_of_mem _ (List.mem_append_left _ (List.mem_of_getElem? (i := 0) rfl)))) (fun _ h9 => h9) rfl dX8_countRounds_1 ?_
  obtain rfl := Option.some.inj hf
  exact hret _ _ _ _ hP hD hS dX8_countRounds_4
