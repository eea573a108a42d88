/-! p47: the functions of the reference's methods, as the walk of whole prints them (definitions alone): the lists and counts of the mathematics speak of them. Own text, printed by wip/gen/fm47.py. -/
def fM_thrown (thrown_0 : Int32) : Option (Int32) :=
  some thrown_0
def fM_throwing (x1 : Int32) (thrown_0 : Int32) : Option (Int32 × Int32) :=
  some ((0 : Int32), x1)
def fM_in (x0 : Int32) (x1 : Int32) (x2 : Int32) : Option (Int32) :=
  if x0 < x1 then
    some (0 : Int32)
  else
    if x2 < x0 then
      some (0 : Int32)
    else
      some (1 : Int32)
def fM_isCell (x0 : Int32) (x1 : Int32) : Option (Int32) :=
  (fM_in x0 (0 : Int32) (5 : Int32)).bind fun s1 =>
  if s1 = (0 : Int32) then
    some (0 : Int32)
  else
    (fM_in x1 (0 : Int32) (6 : Int32)).bind fun s2 =>
    if s2 = (0 : Int32) then
      some (0 : Int32)
    else
      some (1 : Int32)
def fM_save_L11 (F : Nat) : Nat → Int32 → (Nat → Int32) → Option (Int32 × (Nat → Int32))
  | 0, _, _ => none
  | N + 1, l1, before_0 =>
    if (420 : Int32) ≤ l1 then
      some (l1, before_0)
    else
      (o_rd 504 before_0 ((84 : Int32) + l1)).bind fun v1 =>
      (o_wrI 504 before_0 l1 v1).bind fun w2 =>
      fM_save_L11 F N (l1 + (1 : Int32)) w2
def fM_save_L51 (F : Nat) (known_0 : Int32) (s_0 : Nat → Int32) : Nat → Int32 → (Nat → Int32) → Option (Int32 × (Nat → Int32))
  | 0, _, _ => none
  | N + 1, l1, before_0 =>
    if (84 : Int32) ≤ l1 then
      some (l1, before_0)
    else
      (o_rd 84 s_0 l1).bind fun v5 =>
      (o_wrI 504 before_0 (((84 : Int32) * known_0) + l1) v5).bind fun w6 =>
      fM_save_L51 F known_0 s_0 N (l1 + (1 : Int32)) w6
def fM_save (F : Nat) (known_0 : Int32) (before_0 : Nat → Int32) (s_0 : Nat → Int32) : Option ((Nat → Int32) × Int32) :=
  (show Option (Int32 × (Nat → Int32)) from
    if ¬ known_0 = (6 : Int32) then
      some (known_0, before_0)
    else
      (fM_save_L11 F F (0 : Int32) before_0).bind fun r3 =>
      some ((known_0 - (1 : Int32)), r3.2)).bind fun j4 =>
  (fM_save_L51 F j4.1 s_0 F (0 : Int32) j4.2).bind fun r7 =>
  some (r7.2, (j4.1 + (1 : Int32)))
def fM_rectangle_L15 (F : Nat) (l3 : Int32) (l6 : Int32) : Nat → Int64 → Int32 → Option (Int64 × Int32)
  | 0, _, _ => none
  | N + 1, l4, l7 =>
    if l3 < l7 then
      some (l4, l7)
    else
      fM_rectangle_L15 F l3 l6 N (l4 ||| ((1 : Int64) <<< ((((7 : Int32) * l6) + l7).toInt64 &&& 63))) (l7 + (1 : Int32))
def fM_rectangle_L6 (F : Nat) (l1 : Int32) (l2 : Int32) (l3 : Int32) : Nat → Int64 → Int32 → Option (Int64 × Int32)
  | 0, _, _ => none
  | N + 1, l4, l6 =>
    if l2 < l6 then
      some (l4, l6)
    else
      (fM_rectangle_L15 F l3 l6 F l4 l1).bind fun r1 =>
      fM_rectangle_L6 F l1 l2 l3 N r1.1 (l6 + (1 : Int32))
def fM_rectangle (F : Nat) (x0 : Int32) (x1 : Int32) (x2 : Int32) (x3 : Int32) : Option (Int64) :=
  (fM_rectangle_L6 F x1 x2 x3 F (0 : Int64) x0).bind fun r2 =>
  some r2.1
def fM_has (x0 : Int64) (x1 : Int32) : Option (Int32) :=
  if ¬ ((x0 >>> (x1.toInt64 &&& 63)) &&& (1 : Int64)) = (1 : Int64) then
    some (0 : Int32)
  else
    some (1 : Int32)
def fM_bits_L4 (F : Nat) (l0 : Int64) : Nat → Int32 → Int32 → Option (Int32 × Int32)
  | 0, _, _ => none
  | N + 1, l2, l3 =>
    if (42 : Int32) ≤ l3 then
      some (l2, l3)
    else
      (fM_has l0 l3).bind fun s1 =>
      (show Option (Int32) from
        if s1 = (0 : Int32) then
          some (0 : Int32)
        else
          some (1 : Int32)).bind fun j2 =>
      fM_bits_L4 F l0 N (l2 + j2) (l3 + (1 : Int32))
def fM_bits (F : Nat) (x0 : Int64) : Option (Int32) :=
  (fM_bits_L4 F x0 F (0 : Int32) (0 : Int32)).bind fun r3 =>
  some r3.1
def fM_lowest_L2 (F : Nat) (l0 : Int64) : Nat → Int32 → Option (Int32)
  | 0, _ => none
  | N + 1, l2 =>
    if (42 : Int32) ≤ l2 then
      some l2
    else
      (fM_has l0 l2).bind fun s1 =>
      if ¬ s1 = (0 : Int32) then
        some l2
      else
        fM_lowest_L2 F l0 N (l2 + (1 : Int32))
def fM_lowest (F : Nat) (x0 : Int64) : Option (Int32) :=
  (fM_lowest_L2 F x0 F (0 : Int32)).bind fun r2 =>
  some r2
def fM_taken_L4 (F : Nat) (s_0 : Nat → Int32) : Nat → Int64 → Int32 → Option (Int64 × Int32)
  | 0, _, _ => none
  | N + 1, l1, l3 =>
    if (42 : Int32) ≤ l3 then
      some (l1, l3)
    else
      (o_rd 84 s_0 ((42 : Int32) + l3)).bind fun v1 =>
      (show Option (Int64) from
        if v1 ≤ (0 : Int32) then
          some (0 : Int64)
        else
          some ((1 : Int64) <<< (l3.toInt64 &&& 63))).bind fun j2 =>
      fM_taken_L4 F s_0 N (l1 ||| j2) (l3 + (1 : Int32))
def fM_taken (F : Nat) (s_0 : Nat → Int32) : Option (Int64) :=
  (fM_taken_L4 F s_0 F (0 : Int64) (0 : Int32)).bind fun r3 =>
  some r3.1
def fM_numbered_L4 (F : Nat) (s_0 : Nat → Int32) : Nat → Int64 → Int32 → Option (Int64 × Int32)
  | 0, _, _ => none
  | N + 1, l1, l3 =>
    if (42 : Int32) ≤ l3 then
      some (l1, l3)
    else
      (o_rd 84 s_0 l3).bind fun v1 =>
      (show Option (Int64) from
        if v1 ≤ (0 : Int32) then
          some (0 : Int64)
        else
          some ((1 : Int64) <<< (l3.toInt64 &&& 63))).bind fun j2 =>
      fM_numbered_L4 F s_0 N (l1 ||| j2) (l3 + (1 : Int32))
def fM_numbered (F : Nat) (s_0 : Nat → Int32) : Option (Int64) :=
  (fM_numbered_L4 F s_0 F (0 : Int64) (0 : Int32)).bind fun r3 =>
  some r3.1
def fM_fieldOf_L5 (F : Nat) (l1 : Int32) (s_0 : Nat → Int32) : Nat → Int64 → Int32 → Option (Int64 × Int32)
  | 0, _, _ => none
  | N + 1, l2, l4 =>
    if (42 : Int32) ≤ l4 then
      some (l2, l4)
    else
      (o_rd 84 s_0 ((42 : Int32) + l4)).bind fun v1 =>
      (o_rd 84 s_0 ((42 : Int32) + l1)).bind fun v2 =>
      (show Option (Int64) from
        if ¬ v1 = v2 then
          some (0 : Int64)
        else
          some ((1 : Int64) <<< (l4.toInt64 &&& 63))).bind fun j3 =>
      fM_fieldOf_L5 F l1 s_0 N (l2 ||| j3) (l4 + (1 : Int32))
def fM_fieldOf (F : Nat) (x1 : Int32) (s_0 : Nat → Int32) : Option (Int64) :=
  (fM_fieldOf_L5 F x1 s_0 F (0 : Int64) (0 : Int32)).bind fun r4 =>
  some r4.1
def fM_allFields_L4 (F : Nat) (s_0 : Nat → Int32) : Nat → Int32 → Int32 → Option (Int32 × Int32)
  | 0, _, _ => none
  | N + 1, l1, l2 =>
    if (42 : Int32) ≤ l2 then
      some (l1, l2)
    else
      (o_rd 84 s_0 ((42 : Int32) + l2)).bind fun v1 =>
      (show Option (Int32) from
        if ¬ v1 = (l2 + (1 : Int32)) then
          some (0 : Int32)
        else
          some (1 : Int32)).bind fun j2 =>
      fM_allFields_L4 F s_0 N (l1 + j2) (l2 + (1 : Int32))
def fM_allFields (F : Nat) (s_0 : Nat → Int32) : Option (Int32) :=
  (fM_allFields_L4 F s_0 F (0 : Int32) (0 : Int32)).bind fun r3 =>
  some r3.1
def fM_against (F : Nat) (x1 : Int64) (s_0 : Nat → Int32) : Option (Int32) :=
  (fM_numbered F s_0).bind fun s1 =>
  (fM_taken F s_0).bind fun s2 =>
  if (x1 &&& s2) = (0 : Int64) then
    if ¬ (x1 &&& s1) = (0 : Int64) then
      (fM_bits F (x1 &&& s1)).bind fun s3 =>
      if s3 ≤ (1 : Int32) then
        (fM_lowest F (x1 &&& s1)).bind fun s4 =>
        (o_rd 84 s_0 s4).bind fun v5 =>
        (fM_bits F x1).bind fun s6 =>
        if v5 = s6 then
          some (0 : Int32)
        else
          some (4 : Int32)
      else
        some (3 : Int32)
    else
      some (2 : Int32)
  else
    some (1 : Int32)
def fM_draws_L8 (F : Nat) (l1 : Int64) (l3 : Int32) : Nat → Int32 → (Nat → Int32) → Option (Int32 × (Nat → Int32))
  | 0, _, _ => none
  | N + 1, l4, s_0 =>
    if (42 : Int32) ≤ l4 then
      some (l4, s_0)
    else
      (fM_has l1 l4).bind fun s2 =>
      (show Option (Int32) from
        if s2 = (0 : Int32) then
          (o_rd 84 s_0 ((42 : Int32) + l4)).bind fun v3 =>
          some v3
        else
          some (l3 + (1 : Int32))).bind fun j4 =>
      (o_wrI 84 s_0 ((42 : Int32) + l4) j4).bind fun w5 =>
      fM_draws_L8 F l1 l3 N (l4 + (1 : Int32)) w5
def fM_draws (F : Nat) (x1 : Int64) (s_0 : Nat → Int32) : Option ((Nat → Int32)) :=
  (fM_lowest F x1).bind fun s1 =>
  (fM_draws_L8 F x1 s1 F (0 : Int32) s_0).bind fun r6 =>
  some r6.2
def fM_lists_L36 (F : Nat) (l1 : Int32) (l2 : Int64) (l4 : Int64) (l7 : Int32) (l8 : Int32) (l9 : Int32) (s_0 : Nat → Int32) : Nat → Int32 → Int32 → (Nat → Int64) → (Nat → Int32) → (Nat → Int32) → (Nat → Int32) → Option (Int32 × Int32 × (Nat → Int64) × (Nat → Int32) × (Nat → Int32) × (Nat → Int32))
  | 0, _, _, _, _, _, _ => none
  | N + 1, l10, many_0, cells_0, owner_0, code_0, table_0 =>
    if (6 : Int32) ≤ l10 then
      some (l10, many_0, cells_0, owner_0, code_0, table_0)
    else
      (o_rd 84 s_0 l1).bind fun v1 =>
      (o_divI v1 ((l10 - l8) + (1 : Int32))).bind fun v2 =>
      (o_rd 84 s_0 l1).bind fun v3 =>
      (show Option (Int32) from
        if ¬ (v2 * ((l10 - l8) + (1 : Int32))) = v3 then
          some (0 : Int32)
        else
          if ((l9 + v2) - (1 : Int32)) < l7 then
            some (0 : Int32)
          else
            if (7 : Int32) ≤ ((l9 + v2) - (1 : Int32)) then
              some (0 : Int32)
            else
              some (1 : Int32)).bind fun j4 =>
      (show Option (Int64) from
        if j4 = (0 : Int32) then
          some (0 : Int64)
        else
          (fM_rectangle F l8 l9 l10 ((l9 + v2) - (1 : Int32))).bind fun s5 =>
          some s5).bind fun j6 =>
      (show Option (Int32 × (Nat → Int64) × (Nat → Int32) × (Nat → Int32) × (Nat → Int32)) from
        if j4 = (0 : Int32) then
          some (many_0, cells_0, owner_0, code_0, table_0)
        else
          if ¬ (j6 &&& l2) = ((1 : Int64) <<< (l1.toInt64 &&& 63)) then
            some (many_0, cells_0, owner_0, code_0, table_0)
          else
            if ¬ (j6 &&& l4) = (0 : Int64) then
              some (many_0, cells_0, owner_0, code_0, table_0)
            else
              (o_wrJ 1200 cells_0 many_0 j6).bind fun w7 =>
              (o_wrI 1200 owner_0 many_0 l1).bind fun w8 =>
              (o_wrI 1200 code_0 many_0 ((((42 : Int32) * (((7 : Int32) * l8) + l9)) + ((7 : Int32) * l10)) + ((l9 + v2) - (1 : Int32)))).bind fun w9 =>
              (o_wrI 252 table_0 (((6 : Int32) * (((7 : Int32) * l8) + l9)) + l10) many_0).bind fun w10 =>
              some ((many_0 + (1 : Int32)), w7, w8, w9, w10)).bind fun j11 =>
      fM_lists_L36 F l1 l2 l4 l7 l8 l9 s_0 N (l10 + (1 : Int32)) j11.1 j11.2.1 j11.2.2.1 j11.2.2.2.1 j11.2.2.2.2
def fM_lists_L25 (F : Nat) (l1 : Int32) (l2 : Int64) (l4 : Int64) (l6 : Int32) (l7 : Int32) (l8 : Int32) (s_0 : Nat → Int32) : Nat → Int32 → Int32 → (Nat → Int64) → (Nat → Int32) → (Nat → Int32) → (Nat → Int32) → Option (Int32 × Int32 × (Nat → Int64) × (Nat → Int32) × (Nat → Int32) × (Nat → Int32))
  | 0, _, _, _, _, _, _ => none
  | N + 1, l9, many_0, cells_0, owner_0, code_0, table_0 =>
    if l7 < l9 then
      some (l9, many_0, cells_0, owner_0, code_0, table_0)
    else
      (fM_lists_L36 F l1 l2 l4 l7 l8 l9 s_0 F l6 many_0 cells_0 owner_0 code_0 table_0).bind fun r12 =>
      fM_lists_L25 F l1 l2 l4 l6 l7 l8 s_0 N (l9 + (1 : Int32)) r12.2.1 r12.2.2.1 r12.2.2.2.1 r12.2.2.2.2.1 r12.2.2.2.2.2
def fM_lists_L15 (F : Nat) (l1 : Int32) (l2 : Int64) (l4 : Int64) (l6 : Int32) (l7 : Int32) (s_0 : Nat → Int32) : Nat → Int32 → Int32 → (Nat → Int64) → (Nat → Int32) → (Nat → Int32) → (Nat → Int32) → Option (Int32 × Int32 × (Nat → Int64) × (Nat → Int32) × (Nat → Int32) × (Nat → Int32))
  | 0, _, _, _, _, _, _ => none
  | N + 1, l8, many_0, cells_0, owner_0, code_0, table_0 =>
    if l6 < l8 then
      some (l8, many_0, cells_0, owner_0, code_0, table_0)
    else
      (fM_lists_L25 F l1 l2 l4 l6 l7 l8 s_0 F (0 : Int32) many_0 cells_0 owner_0 code_0 table_0).bind fun r13 =>
      fM_lists_L15 F l1 l2 l4 l6 l7 s_0 N (l8 + (1 : Int32)) r13.2.1 r13.2.2.1 r13.2.2.2.1 r13.2.2.2.2.1 r13.2.2.2.2.2
def fM_lists (F : Nat) (x1 : Int32) (x2 : Int64) (x3 : Int64) (s_0 : Nat → Int32) (many_0 : Int32) (cells_0 : Nat → Int64) (owner_0 : Nat → Int32) (code_0 : Nat → Int32) (table_0 : Nat → Int32) : Option ((Nat → Int64) × (Nat → Int32) × (Nat → Int32) × (Nat → Int32) × Int32) :=
  (fM_lists_L15 F x1 x2 x3 (x1 / (7 : Int32)) (x1 - x1 / (7 : Int32) * (7 : Int32)) s_0 F (0 : Int32) many_0 cells_0 owner_0 code_0 table_0).bind fun r14 =>
  some (r14.2.2.1, r14.2.2.2.1, r14.2.2.2.2.1, r14.2.2.2.2.2, r14.2.1)
def fM_finds_L7 (F : Nat) : Nat → Int32 → (Nat → Int32) → Option (Int32 × (Nat → Int32))
  | 0, _, _ => none
  | N + 1, l1, table_0 =>
    if (252 : Int32) ≤ l1 then
      some (l1, table_0)
    else
      (o_wrI 252 table_0 l1 (-1 : Int32)).bind fun w1 =>
      fM_finds_L7 F N (l1 + (1 : Int32)) w1
def fM_finds_L40 (F : Nat) (l1 : Int64) (l3 : Int64) (s_0 : Nat → Int32) : Nat → Int32 → Int32 → (Nat → Int64) → (Nat → Int32) → (Nat → Int32) → (Nat → Int32) → Option (Int32 × Int32 × (Nat → Int64) × (Nat → Int32) × (Nat → Int32) × (Nat → Int32))
  | 0, _, _, _, _, _, _ => none
  | N + 1, l5, many_0, cells_0, owner_0, code_0, table_0 =>
    if (42 : Int32) ≤ l5 then
      some (l5, many_0, cells_0, owner_0, code_0, table_0)
    else
      (o_rd 84 s_0 l5).bind fun v5 =>
      (show Option (Int32 × (Nat → Int64) × (Nat → Int32) × (Nat → Int32) × (Nat → Int32)) from
        if v5 ≤ (0 : Int32) then
          some (many_0, cells_0, owner_0, code_0, table_0)
        else
          (o_rd 84 s_0 ((42 : Int32) + l5)).bind fun v6 =>
          if ¬ v6 = (0 : Int32) then
            some (many_0, cells_0, owner_0, code_0, table_0)
          else
            (fM_lists F l5 l1 l3 s_0 many_0 cells_0 owner_0 code_0 table_0).bind fun s7 =>
            some (s7.2.2.2.2, s7.1, s7.2.1, s7.2.2.1, s7.2.2.2.1)).bind fun j8 =>
      fM_finds_L40 F l1 l3 s_0 N (l5 + (1 : Int32)) j8.1 j8.2.1 j8.2.2.1 j8.2.2.2.1 j8.2.2.2.2
def fM_finds (F : Nat) (many_0 : Int32) (table_0 : Nat → Int32) (s_0 : Nat → Int32) (cells_0 : Nat → Int64) (owner_0 : Nat → Int32) (code_0 : Nat → Int32) : Option (Int32 × (Nat → Int32) × (Nat → Int64) × (Nat → Int32) × (Nat → Int32)) :=
  (fM_finds_L7 F F (0 : Int32) table_0).bind fun r2 =>
  (fM_numbered F s_0).bind fun s3 =>
  (fM_taken F s_0).bind fun s4 =>
  (fM_finds_L40 F s3 s4 s_0 F (0 : Int32) (0 : Int32) cells_0 owner_0 code_0 r2.2).bind fun r9 =>
  some (r9.2.1, r9.2.2.2.2.2, r9.2.2.1, r9.2.2.2.1, r9.2.2.2.2.1)
def fM_tellsNumbers_L2 (F : Nat) : Nat → Int32 → (Nat → Int64) → (Nat → Int64) → Option (Int32 × (Nat → Int64) × (Nat → Int64))
  | 0, _, _, _ => none
  | N + 1, l1, all_0, some_0 =>
    if (42 : Int32) ≤ l1 then
      some (l1, all_0, some_0)
    else
      (o_wrJ 42 all_0 l1 (4398046511103 : Int64)).bind fun w1 =>
      (o_wrJ 42 some_0 l1 (0 : Int64)).bind fun w2 =>
      fM_tellsNumbers_L2 F N (l1 + (1 : Int32)) w1 w2
def fM_tellsNumbers_L32 (F : Nat) (many_0 : Int32) (isOver_0 : Nat → Int32) (owner_0 : Nat → Int32) (cells_0 : Nat → Int64) : Nat → Int32 → (Nat → Int64) → (Nat → Int64) → Option (Int32 × (Nat → Int64) × (Nat → Int64))
  | 0, _, _, _ => none
  | N + 1, l1, all_0, some_0 =>
    if many_0 ≤ l1 then
      some (l1, all_0, some_0)
    else
      (o_rd 1200 isOver_0 l1).bind fun v4 =>
      (show Option ((Nat → Int64) × (Nat → Int64)) from
        if ¬ v4 = (0 : Int32) then
          some (all_0, some_0)
        else
          (o_rd 1200 owner_0 l1).bind fun v5 =>
          (o_rd 42 all_0 v5).bind fun v6 =>
          (o_rd 1200 cells_0 l1).bind fun v7 =>
          (o_wrJ 42 all_0 v5 (v6 &&& v7)).bind fun w8 =>
          (o_rd 1200 owner_0 l1).bind fun v9 =>
          (o_rd 42 some_0 v9).bind fun v10 =>
          (o_rd 1200 cells_0 l1).bind fun v11 =>
          (o_wrJ 42 some_0 v9 (v10 ||| v11)).bind fun w12 =>
          some (w8, w12)).bind fun j13 =>
      fM_tellsNumbers_L32 F many_0 isOver_0 owner_0 cells_0 N (l1 + (1 : Int32)) j13.1 j13.2
def fM_tellsNumbers (F : Nat) (all_0 : Nat → Int64) (some_0 : Nat → Int64) (many_0 : Int32) (isOver_0 : Nat → Int32) (owner_0 : Nat → Int32) (cells_0 : Nat → Int64) : Option ((Nat → Int64) × (Nat → Int64)) :=
  (fM_tellsNumbers_L2 F F (0 : Int32) all_0 some_0).bind fun r3 =>
  (fM_tellsNumbers_L32 F many_0 isOver_0 owner_0 cells_0 F (0 : Int32) r3.2.1 r3.2.2).bind fun r14 =>
  some (r14.2.1, r14.2.2)
def fM_isOut_L8 (F : Nat) (l1 : Int32) (owner_0 : Nat → Int32) (some_0 : Nat → Int64) (all_0 : Nat → Int64) (cells_0 : Nat → Int64) : Nat → Int64 → Int32 → Int32 → Option (Int64 × Int32 × Int32)
  | 0, _, _, _ => none
  | N + 1, l2, l4, l5 =>
    if (42 : Int32) ≤ l5 then
      some (l2, l4, l5)
    else
      (o_rd 1200 owner_0 l1).bind fun v1 =>
      (show Option (Int64 × Int32) from
        if l5 = v1 then
          some (l2, l4)
        else
          (o_rd 42 some_0 l5).bind fun v2 =>
          (show Option (Int32) from
            if ¬ l4 = (0 : Int32) then
              some (1 : Int32)
            else
              (o_rd 42 some_0 l5).bind fun v3 =>
              if v3 = (0 : Int64) then
                some (0 : Int32)
              else
                (o_rd 42 all_0 l5).bind fun v4 =>
                (o_rd 1200 cells_0 l1).bind fun v5 =>
                if (v4 &&& v5) = (0 : Int64) then
                  some (0 : Int32)
                else
                  some (1 : Int32)).bind fun j6 =>
          some ((l2 ||| v2), j6)).bind fun j7 =>
      fM_isOut_L8 F l1 owner_0 some_0 all_0 cells_0 N j7.1 j7.2 (l5 + (1 : Int32))
def fM_isOut (F : Nat) (x1 : Int32) (owner_0 : Nat → Int32) (some_0 : Nat → Int64) (all_0 : Nat → Int64) (cells_0 : Nat → Int64) : Option (Int32) :=
  (fM_isOut_L8 F x1 owner_0 some_0 all_0 cells_0 F (0 : Int64) (0 : Int32) (0 : Int32)).bind fun r8 =>
  if ¬ r8.2.1 = (0 : Int32) then
    some (1 : Int32)
  else
    (o_rd 1200 owner_0 x1).bind fun v9 =>
    (o_rd 42 some_0 v9).bind fun v10 =>
    (o_rd 1200 cells_0 x1).bind fun v11 =>
    if ((v10 &&& (r8.1 ^^^ (-1 : Int64))) &&& (v11 ^^^ (-1 : Int64))) = (0 : Int64) then
      some (0 : Int32)
    else
      some (1 : Int32)
def fM_rules_L6 (F : Nat) (many_0 : Int32) : Nat → Int32 → (Nat → Int32) → Option (Int32 × (Nat → Int32))
  | 0, _, _ => none
  | N + 1, l1, isOver_0 =>
    if many_0 ≤ l1 then
      some (l1, isOver_0)
    else
      (o_wrZ 1200 isOver_0 l1 (0 : Int32)).bind fun w2 =>
      fM_rules_L6 F many_0 N (l1 + (1 : Int32)) w2
def fM_rules_L46 (F : Nat) (many_0 : Int32) (cells_0 : Nat → Int64) (owner_0 : Nat → Int32) (isOver_0 : Nat → Int32) (all_0 : Nat → Int64) (some_0 : Nat → Int64) : Nat → Int32 → Int32 → (Nat → Int32) → Option (Int32 × Int32 × (Nat → Int32))
  | 0, _, _, _ => none
  | N + 1, l1, l2, isRuled_0 =>
    if many_0 ≤ l2 then
      some (l1, l2, isRuled_0)
    else
      (o_rd 1200 isOver_0 l2).bind fun v5 =>
      (show Option (Int32) from
        if ¬ v5 = (0 : Int32) then
          some (0 : Int32)
        else
          (fM_isOut F l2 owner_0 some_0 all_0 cells_0).bind fun s6 =>
          if s6 = (0 : Int32) then
            some (0 : Int32)
          else
            some (1 : Int32)).bind fun j7 =>
      (o_wrZ 1200 isRuled_0 l2 j7).bind fun w8 =>
      (show Option (Int32) from
        if ¬ l1 = (0 : Int32) then
          some (1 : Int32)
        else
          (o_rd 1200 w8 l2).bind fun v9 =>
          if v9 = (0 : Int32) then
            some (0 : Int32)
          else
            some (1 : Int32)).bind fun j10 =>
      fM_rules_L46 F many_0 cells_0 owner_0 isOver_0 all_0 some_0 N j10 (l2 + (1 : Int32)) w8
def fM_rules_L109 (F : Nat) (many_0 : Int32) (isRuled_0 : Nat → Int32) : Nat → Int32 → (Nat → Int32) → Option (Int32 × (Nat → Int32))
  | 0, _, _ => none
  | N + 1, l2, isOver_0 =>
    if many_0 ≤ l2 then
      some (l2, isOver_0)
    else
      (o_rd 1200 isOver_0 l2).bind fun v12 =>
      (show Option (Int32) from
        if ¬ v12 = (0 : Int32) then
          some (1 : Int32)
        else
          (o_rd 1200 isRuled_0 l2).bind fun v13 =>
          if v13 = (0 : Int32) then
            some (0 : Int32)
          else
            some (1 : Int32)).bind fun j14 =>
      (o_wrZ 1200 isOver_0 l2 j14).bind fun w15 =>
      fM_rules_L109 F many_0 isRuled_0 N (l2 + (1 : Int32)) w15
def fM_rules_L34 (F : Nat) (many_0 : Int32) (cells_0 : Nat → Int64) (owner_0 : Nat → Int32) : Nat → Int32 → (Nat → Int64) → (Nat → Int64) → (Nat → Int32) → (Nat → Int32) → Int32 → Option (Int32 × (Nat → Int64) × (Nat → Int64) × (Nat → Int32) × (Nat → Int32) × Int32)
  | 0, _, _, _, _, _, _ => none
  | N + 1, l1, all_0, some_0, isOver_0, isRuled_0, round_0 =>
    if l1 = (0 : Int32) then
      some (l1, all_0, some_0, isOver_0, isRuled_0, round_0)
    else
      (fM_tellsNumbers F all_0 some_0 many_0 isOver_0 owner_0 cells_0).bind fun s4 =>
      (fM_rules_L46 F many_0 cells_0 owner_0 isOver_0 s4.1 s4.2 F (0 : Int32) (0 : Int32) isRuled_0).bind fun r11 =>
      (fM_rules_L109 F many_0 r11.2.2 F (0 : Int32) isOver_0).bind fun r16 =>
      (show Option (Int32) from
        if r11.1 = (0 : Int32) then
          some (0 : Int32)
        else
          some (1 : Int32)).bind fun j17 =>
      fM_rules_L34 F many_0 cells_0 owner_0 N r11.1 s4.1 s4.2 r16.2 r11.2.2 (round_0 + j17)
def fM_rules (F : Nat) (many_0 : Int32) (table_0 : Nat → Int32) (s_0 : Nat → Int32) (cells_0 : Nat → Int64) (owner_0 : Nat → Int32) (code_0 : Nat → Int32) (isOver_0 : Nat → Int32) (round_0 : Int32) (all_0 : Nat → Int64) (some_0 : Nat → Int64) (isRuled_0 : Nat → Int32) : Option (Int32 × (Nat → Int32) × (Nat → Int64) × (Nat → Int32) × (Nat → Int32) × (Nat → Int32) × Int32 × (Nat → Int64) × (Nat → Int64) × (Nat → Int32)) :=
  (fM_finds F many_0 table_0 s_0 cells_0 owner_0 code_0).bind fun s1 =>
  (fM_rules_L6 F s1.1 F (0 : Int32) isOver_0).bind fun r3 =>
  (fM_rules_L34 F s1.1 s1.2.2.1 s1.2.2.2.1 F (1 : Int32) all_0 some_0 r3.2 isRuled_0 (0 : Int32)).bind fun r18 =>
  some (s1.1, s1.2.1, s1.2.2.1, s1.2.2.2.1, s1.2.2.2.2, r18.2.2.2.1, r18.2.2.2.2.2, r18.2.1, r18.2.2.1, r18.2.2.2.2.1)
def fM_isAgainst_L10 (F : Nat) (s_0 : Nat → Int32) (some_0 : Nat → Int64) : Nat → Int64 → Int32 → Int32 → Option (Int64 × Int32 × Int32)
  | 0, _, _, _ => none
  | N + 1, l1, l3, l4 =>
    if (42 : Int32) ≤ l4 then
      some (l1, l3, l4)
    else
      (o_rd 42 some_0 l4).bind fun v2 =>
      (show Option (Int32) from
        if ¬ l3 = (0 : Int32) then
          some (1 : Int32)
        else
          (o_rd 84 s_0 l4).bind fun v3 =>
          if v3 ≤ (0 : Int32) then
            some (0 : Int32)
          else
            (o_rd 84 s_0 ((42 : Int32) + l4)).bind fun v4 =>
            if ¬ v4 = (0 : Int32) then
              some (0 : Int32)
            else
              (o_rd 42 some_0 l4).bind fun v5 =>
              if ¬ v5 = (0 : Int64) then
                some (0 : Int32)
              else
                some (1 : Int32)).bind fun j6 =>
      fM_isAgainst_L10 F s_0 some_0 N (l1 ||| v2) j6 (l4 + (1 : Int32))
def fM_isAgainst (F : Nat) (s_0 : Nat → Int32) (some_0 : Nat → Int64) : Option (Int32) :=
  (fM_taken F s_0).bind fun s1 =>
  (fM_isAgainst_L10 F s_0 some_0 F s1 (0 : Int32) (0 : Int32)).bind fun r7 =>
  if ¬ r7.2.1 = (0 : Int32) then
    some (1 : Int32)
  else
    if r7.1 = (4398046511103 : Int64) then
      some (0 : Int32)
    else
      some (1 : Int32)
def fM_leftIn_L4 (F : Nat) (l1 : Int32) (many_0 : Int32) (owner_0 : Nat → Int32) (isOver_0 : Nat → Int32) : Nat → Int32 → Int32 → Option (Int32 × Int32)
  | 0, _, _ => none
  | N + 1, l2, l3 =>
    if many_0 ≤ l3 then
      some (l2, l3)
    else
      (o_rd 1200 owner_0 l3).bind fun v1 =>
      (show Option (Int32) from
        if ¬ v1 = l1 then
          some (0 : Int32)
        else
          (o_rd 1200 isOver_0 l3).bind fun v2 =>
          if ¬ v2 = (0 : Int32) then
            some (0 : Int32)
          else
            some (1 : Int32)).bind fun j3 =>
      fM_leftIn_L4 F l1 many_0 owner_0 isOver_0 N (l2 + j3) (l3 + (1 : Int32))
def fM_leftIn (F : Nat) (x1 : Int32) (many_0 : Int32) (owner_0 : Nat → Int32) (isOver_0 : Nat → Int32) : Option (Int32) :=
  (fM_leftIn_L4 F x1 many_0 owner_0 isOver_0 F (0 : Int32) (0 : Int32)).bind fun r4 =>
  some r4.1
def fM_leftAll_L4 (F : Nat) (many_0 : Int32) (isOver_0 : Nat → Int32) : Nat → Int32 → Int32 → Option (Int32 × Int32)
  | 0, _, _ => none
  | N + 1, l1, l2 =>
    if many_0 ≤ l2 then
      some (l1, l2)
    else
      (o_rd 1200 isOver_0 l2).bind fun v1 =>
      (show Option (Int32) from
        if v1 = (0 : Int32) then
          some (1 : Int32)
        else
          some (0 : Int32)).bind fun j2 =>
      fM_leftAll_L4 F many_0 isOver_0 N (l1 + j2) (l2 + (1 : Int32))
def fM_leftAll (F : Nat) (many_0 : Int32) (isOver_0 : Nat → Int32) : Option (Int32) :=
  (fM_leftAll_L4 F many_0 isOver_0 F (0 : Int32) (0 : Int32)).bind fun r3 =>
  some r3.1
def fM_isSure (F : Nat) (x1 : Int32) (s_0 : Nat → Int32) (many_0 : Int32) (owner_0 : Nat → Int32) (isOver_0 : Nat → Int32) : Option (Int32) :=
  (o_rd 84 s_0 x1).bind fun v1 =>
  if v1 ≤ (0 : Int32) then
    some (0 : Int32)
  else
    (o_rd 84 s_0 ((42 : Int32) + x1)).bind fun v2 =>
    if ¬ v2 = (0 : Int32) then
      some (0 : Int32)
    else
      (fM_leftIn F x1 many_0 owner_0 isOver_0).bind fun s3 =>
      if ¬ s3 = (1 : Int32) then
        some (0 : Int32)
      else
        some (1 : Int32)
def fM_sure_L4 (F : Nat) (s_0 : Nat → Int32) (many_0 : Int32) (owner_0 : Nat → Int32) (isOver_0 : Nat → Int32) : Nat → Int32 → Int32 → Option (Int32 × Int32)
  | 0, _, _ => none
  | N + 1, l1, l2 =>
    if (42 : Int32) ≤ l2 then
      some (l1, l2)
    else
      (fM_isSure F l2 s_0 many_0 owner_0 isOver_0).bind fun s1 =>
      (show Option (Int32) from
        if s1 = (0 : Int32) then
          some (0 : Int32)
        else
          some (1 : Int32)).bind fun j2 =>
      fM_sure_L4 F s_0 many_0 owner_0 isOver_0 N (l1 + j2) (l2 + (1 : Int32))
def fM_sure (F : Nat) (s_0 : Nat → Int32) (many_0 : Int32) (owner_0 : Nat → Int32) (isOver_0 : Nat → Int32) : Option (Int32) :=
  (fM_sure_L4 F s_0 many_0 owner_0 isOver_0 F (0 : Int32) (0 : Int32)).bind fun r3 =>
  some r3.1
def fM_firstSure_L2 (F : Nat) (s_0 : Nat → Int32) (many_0 : Int32) (owner_0 : Nat → Int32) (isOver_0 : Nat → Int32) : Nat → Int32 → Option (Int32)
  | 0, _ => none
  | N + 1, l1 =>
    if (42 : Int32) ≤ l1 then
      some (-1 : Int32)
    else
      (fM_isSure F l1 s_0 many_0 owner_0 isOver_0).bind fun s1 =>
      if s1 = (0 : Int32) then
        fM_firstSure_L2 F s_0 many_0 owner_0 isOver_0 N (l1 + (1 : Int32))
      else
        some l1
def fM_firstSure (F : Nat) (s_0 : Nat → Int32) (many_0 : Int32) (owner_0 : Nat → Int32) (isOver_0 : Nat → Int32) : Option (Int32) :=
  (fM_firstSure_L2 F s_0 many_0 owner_0 isOver_0 F (0 : Int32))
def fM_remembers_L2 (F : Nat) (s_0 : Nat → Int32) : Nat → Int32 → (Nat → Int32) → (Nat → Int32) → Option (Int32 × (Nat → Int32) × (Nat → Int32))
  | 0, _, _, _ => none
  | N + 1, l2, corner_0, wide_0 =>
    if (42 : Int32) ≤ l2 then
      some (l2, corner_0, wide_0)
    else
      (o_rd 84 s_0 ((42 : Int32) + l2)).bind fun v1 =>
      (o_wrI 42 corner_0 l2 (v1 - (1 : Int32))).bind fun w2 =>
      (o_rd 84 s_0 ((42 : Int32) + l2)).bind fun v3 =>
      (show Option (Int32) from
        if v3 ≤ (0 : Int32) then
          some (0 : Int32)
        else
          (fM_fieldOf F l2 s_0).bind fun s4 =>
          (fM_bits F s4).bind fun s5 =>
          some s5).bind fun j6 =>
      (o_wrI 42 wide_0 l2 j6).bind fun w7 =>
      fM_remembers_L2 F s_0 N (l2 + (1 : Int32)) w2 w7
def fM_remembers_L70 (F : Nat) (l2 : Int32) (s_0 : Nat → Int32) (chosen_0 : Nat → Int32) (cells_0 : Nat → Int64) (owner_0 : Nat → Int32) : Nat → Int32 → (Nat → Int32) → (Nat → Int32) → Option (Int32 × (Nat → Int32) × (Nat → Int32))
  | 0, _, _, _ => none
  | N + 1, l3, corner_0, wide_0 =>
    if (42 : Int32) ≤ l3 then
      some (l3, corner_0, wide_0)
    else
      (o_rd 43 chosen_0 l2).bind fun v9 =>
      (o_rd 1200 cells_0 v9).bind fun v10 =>
      (fM_has v10 l3).bind fun s11 =>
      (show Option ((Nat → Int32) × (Nat → Int32)) from
        if s11 = (0 : Int32) then
          some (corner_0, wide_0)
        else
          (o_rd 43 chosen_0 l2).bind fun v12 =>
          (o_rd 1200 cells_0 v12).bind fun v13 =>
          (fM_lowest F v13).bind fun s14 =>
          (o_wrI 42 corner_0 l3 s14).bind fun w15 =>
          (o_rd 43 chosen_0 l2).bind fun v16 =>
          (o_rd 1200 owner_0 v16).bind fun v17 =>
          (o_rd 84 s_0 v17).bind fun v18 =>
          (o_wrI 42 wide_0 l3 v18).bind fun w19 =>
          some (w15, w19)).bind fun j20 =>
      fM_remembers_L70 F l2 s_0 chosen_0 cells_0 owner_0 N (l3 + (1 : Int32)) j20.1 j20.2
def fM_remembers_L63 (F : Nat) (l1 : Int32) (s_0 : Nat → Int32) (chosen_0 : Nat → Int32) (cells_0 : Nat → Int64) (owner_0 : Nat → Int32) : Nat → Int32 → (Nat → Int32) → (Nat → Int32) → Option (Int32 × (Nat → Int32) × (Nat → Int32))
  | 0, _, _, _ => none
  | N + 1, l2, corner_0, wide_0 =>
    if l1 ≤ l2 then
      some (l2, corner_0, wide_0)
    else
      (fM_remembers_L70 F l2 s_0 chosen_0 cells_0 owner_0 F (0 : Int32) corner_0 wide_0).bind fun r21 =>
      fM_remembers_L63 F l1 s_0 chosen_0 cells_0 owner_0 N (l2 + (1 : Int32)) r21.2.1 r21.2.2
def fM_remembers (F : Nat) (x1 : Int32) (s_0 : Nat → Int32) (corner_0 : Nat → Int32) (wide_0 : Nat → Int32) (chosen_0 : Nat → Int32) (cells_0 : Nat → Int64) (owner_0 : Nat → Int32) : Option ((Nat → Int32) × (Nat → Int32)) :=
  (fM_remembers_L2 F s_0 F (0 : Int32) corner_0 wide_0).bind fun r8 =>
  (fM_remembers_L63 F x1 s_0 chosen_0 cells_0 owner_0 F (0 : Int32) r8.2.1 r8.2.2).bind fun r22 =>
  some (r22.2.1, r22.2.2)
def fM_ways_L72 (F : Nat) (l4 : Int32) (l7 : Int32) (table_0 : Nat → Int32) (cells_0 : Nat → Int64) : Nat → Int64 → Int32 → (Nat → Int32) → (Nat → Int32) → Option (Int64 × Int32 × (Nat → Int32) × (Nat → Int32))
  | 0, _, _, _, _ => none
  | N + 1, l2, l6, last_0, chosen_0 =>
    (o_rd 43 last_0 l4).bind fun v5 =>
    if (6 : Int32) ≤ v5 then
      some (l2, l6, last_0, chosen_0)
    else
      if ¬ l6 = (0 : Int32) then
        some (l2, l6, last_0, chosen_0)
      else
        (o_rd 43 last_0 l4).bind fun v6 =>
        (o_rd 252 table_0 (((6 : Int32) * l7) + v6)).bind fun v7 =>
        (o_rd 43 last_0 l4).bind fun v8 =>
        (o_wrI 43 last_0 l4 (v8 + (1 : Int32))).bind fun w9 =>
        (show Option (Int64 × Int32 × (Nat → Int32)) from
          if v7 = (-1 : Int32) then
            some (l2, l6, chosen_0)
          else
            (o_rd 1200 cells_0 v7).bind fun v10 =>
            if ¬ (v10 &&& l2) = (0 : Int64) then
              some (l2, l6, chosen_0)
            else
              (o_wrI 43 chosen_0 l4 v7).bind fun w11 =>
              (o_rd 1200 cells_0 v7).bind fun v12 =>
              some ((l2 ||| v12), (1 : Int32), w11)).bind fun j13 =>
        fM_ways_L72 F l4 l7 table_0 cells_0 N j13.1 j13.2.1 w9 j13.2.2
def fM_ways_L22 (F : Nat) (l1 : Int32) (many_0 : Int32) (table_0 : Nat → Int32) (s_0 : Nat → Int32) (cells_0 : Nat → Int64) (owner_0 : Nat → Int32) (code_0 : Nat → Int32) : Nat → Int64 → Int32 → Int32 → (Nat → Int32) → (Nat → Int32) → (Nat → Int32) → (Nat → Int32) → Option (Int32 × Int32 × (Nat → Int32) × (Nat → Int64) × (Nat → Int32) × (Nat → Int32) × (Nat → Int32) × (Nat → Int32) × (Nat → Int32) × (Nat → Int32))
  | 0, _, _, _, _, _, _, _ => none
  | N + 1, l2, l4, l5, last_0, chosen_0, corner_0, wide_0 =>
    if l4 < (0 : Int32) then
      some (l5, many_0, table_0, cells_0, owner_0, code_0, last_0, chosen_0, corner_0, wide_0)
    else
      if ¬ l2 = (4398046511103 : Int64) then
        (fM_lowest F (l2 ^^^ (-1 : Int64))).bind fun s4 =>
        (fM_ways_L72 F l4 s4 table_0 cells_0 F l2 (0 : Int32) last_0 chosen_0).bind fun r14 =>
        (show Option (Int64 × Int32 × (Nat → Int32)) from
          if r14.2.1 = (0 : Int32) then
            (show Option (Int64) from
              if (l4 + (-1 : Int32)) < (0 : Int32) then
                some r14.1
              else
                (o_rd 43 r14.2.2.2 (l4 + (-1 : Int32))).bind fun v15 =>
                (o_rd 1200 cells_0 v15).bind fun v16 =>
                some (r14.1 &&& (v16 ^^^ (-1 : Int64)))).bind fun j17 =>
            some (j17, (l4 + (-1 : Int32)), r14.2.2.1)
          else
            (o_wrI 43 r14.2.2.1 (l4 + (1 : Int32)) (0 : Int32)).bind fun w18 =>
            some (r14.1, (l4 + (1 : Int32)), w18)).bind fun j19 =>
        fM_ways_L22 F l1 many_0 table_0 s_0 cells_0 owner_0 code_0 N j19.1 j19.2.1 l5 j19.2.2 r14.2.2.2 corner_0 wide_0
      else
        (show Option ((Nat → Int32) × (Nat → Int32)) from
          if ¬ (l5 + (1 : Int32)) = (1 : Int32) then
            some (corner_0, wide_0)
          else
            (fM_remembers F l4 s_0 corner_0 wide_0 chosen_0 cells_0 owner_0).bind fun s20 =>
            some (s20.1, s20.2)).bind fun j21 =>
        if ¬ (l5 + (1 : Int32)) = l1 then
          (show Option (Int64) from
            if (l4 + (-1 : Int32)) < (0 : Int32) then
              some l2
            else
              (o_rd 43 chosen_0 (l4 + (-1 : Int32))).bind fun v22 =>
              (o_rd 1200 cells_0 v22).bind fun v23 =>
              some (l2 &&& (v23 ^^^ (-1 : Int64)))).bind fun j24 =>
          fM_ways_L22 F l1 many_0 table_0 s_0 cells_0 owner_0 code_0 N j24 (l4 + (-1 : Int32)) (l5 + (1 : Int32)) last_0 chosen_0 j21.1 j21.2
        else
          some ((l5 + (1 : Int32)), many_0, table_0, cells_0, owner_0, code_0, last_0, chosen_0, j21.1, j21.2)
def fM_ways (F : Nat) (x1 : Int32) (many_0 : Int32) (table_0 : Nat → Int32) (s_0 : Nat → Int32) (cells_0 : Nat → Int64) (owner_0 : Nat → Int32) (code_0 : Nat → Int32) (last_0 : Nat → Int32) (chosen_0 : Nat → Int32) (corner_0 : Nat → Int32) (wide_0 : Nat → Int32) : Option (Int32 × Int32 × (Nat → Int32) × (Nat → Int64) × (Nat → Int32) × (Nat → Int32) × (Nat → Int32) × (Nat → Int32) × (Nat → Int32) × (Nat → Int32)) :=
  (fM_finds F many_0 table_0 s_0 cells_0 owner_0 code_0).bind fun s1 =>
  (fM_taken F s_0).bind fun s2 =>
  (o_wrI 43 last_0 (0 : Int32) (0 : Int32)).bind fun w3 =>
  (fM_ways_L22 F x1 s1.1 s1.2.1 s_0 s1.2.2.1 s1.2.2.2.1 s1.2.2.2.2 F s2 (0 : Int32) (0 : Int32) w3 chosen_0 corner_0 wide_0)
def fM_write (F : Nat) (x1 : Int32) (x2 : Int32) (x3 : Int32) (s_0 : Nat → Int32) (thrown_0 : Int32) (known_0 : Int32) (before_0 : Nat → Int32) : Option (Int32 × Int32 × (Nat → Int32) × Int32 × (Nat → Int32)) :=
  (fM_isCell x1 x2).bind fun s1 =>
  (show Option (Int32) from
    if ¬ s1 = (0 : Int32) then
      (fM_in x3 (0 : Int32) (20 : Int32)).bind fun s2 =>
      if ¬ s2 = (0 : Int32) then
        (o_rd 84 s_0 (((42 : Int32) + ((7 : Int32) * x1)) + x2)).bind fun v3 =>
        if v3 ≤ (0 : Int32) then
          some (0 : Int32)
        else
          some (3 : Int32)
      else
        some (2 : Int32)
    else
      some (1 : Int32)).bind fun j4 =>
  if j4 ≤ (0 : Int32) then
    (fM_save F known_0 before_0 s_0).bind fun s5 =>
    (o_rd 84 s_0 (((7 : Int32) * x1) + x2)).bind fun v6 =>
    (o_wrI 84 s_0 (((7 : Int32) * x1) + x2) x3).bind fun w7 =>
    some (v6, j4, s5.1, s5.2, w7)
  else
    some ((0 : Int32), j4, before_0, known_0, s_0)
def fM_drawn (x1 : Int32) (seed_0 : Int64) : Option (Int32 × Int64) :=
  (o_remJ ((((seed_0 * (1103515245 : Int64)) + (12345 : Int64)) - ((seed_0 * (1103515245 : Int64)) + (12345 : Int64)) / (2147483648 : Int64) * (2147483648 : Int64)) / (65536 : Int64)) x1.toInt64).bind fun v1 =>
  some (v1.toInt32, (((seed_0 * (1103515245 : Int64)) + (12345 : Int64)) - ((seed_0 * (1103515245 : Int64)) + (12345 : Int64)) / (2147483648 : Int64) * (2147483648 : Int64)))
def fM_area (x1 : Int32) (cuts_0 : Nat → Int32) : Option (Int32) :=
  (o_rd 168 cuts_0 (x1 + (2 : Int32))).bind fun v1 =>
  (o_rd 168 cuts_0 x1).bind fun v2 =>
  (o_rd 168 cuts_0 (x1 + (3 : Int32))).bind fun v3 =>
  (o_rd 168 cuts_0 (x1 + (1 : Int32))).bind fun v4 =>
  some (((v1 - v2) + (1 : Int32)) * ((v3 - v4) + (1 : Int32)))
def fM_makes_L143 (F : Nat) (l2 : Int32) (l4 : Int32) : Nat → Int32 → (Nat → Int32) → Option (Int32 × (Nat → Int32))
  | 0, _, _ => none
  | N + 1, l9, cuts_0 =>
    if (4 : Int32) ≤ l9 then
      some (l9, cuts_0)
    else
      (o_rd 168 cuts_0 (l4 + l9)).bind fun v13 =>
      (o_wrI 168 cuts_0 (((4 : Int32) * l2) + l9) v13).bind fun w14 =>
      fM_makes_L143 F l2 l4 N (l9 + (1 : Int32)) w14
def fM_makes_L39 (F : Nat) : Nat → Int32 → Int32 → (Nat → Int32) → Int64 → Option (Int32 × Int32 × (Nat → Int32) × Int64)
  | 0, _, _, _, _ => none
  | N + 1, l2, l3, cuts_0, seed_0 =>
    if l2 ≤ l3 then
      some (l2, l3, cuts_0, seed_0)
    else
      (fM_area ((4 : Int32) * l3) cuts_0).bind fun s5 =>
      (show Option (Int32 × Int32 × (Nat → Int32) × Int64) from
        if s5 ≤ (6 : Int32) then
          some (l2, (l3 + (1 : Int32)), cuts_0, seed_0)
        else
          (o_rd 168 cuts_0 (((4 : Int32) * l3) + (2 : Int32))).bind fun v6 =>
          (o_rd 168 cuts_0 ((4 : Int32) * l3)).bind fun v7 =>
          (o_rd 168 cuts_0 (((4 : Int32) * l3) + (3 : Int32))).bind fun v8 =>
          (o_rd 168 cuts_0 (((4 : Int32) * l3) + (1 : Int32))).bind fun v9 =>
          (show Option (Int32) from
            if ((v6 - v7) + (1 : Int32)) ≤ ((v8 - v9) + (1 : Int32)) then
              some (1 : Int32)
            else
              some (0 : Int32)).bind fun j10 =>
          (show Option (Int32) from
            if ¬ j10 = (0 : Int32) then
              some ((v8 - v9) + (1 : Int32))
            else
              some ((v6 - v7) + (1 : Int32))).bind fun j11 =>
          (fM_drawn (j11 - (1 : Int32)) seed_0).bind fun s12 =>
          (fM_makes_L143 F l2 ((4 : Int32) * l3) F (0 : Int32) cuts_0).bind fun r15 =>
          (o_rd 168 r15.2 (((4 : Int32) * l3) + j10)).bind fun v16 =>
          (o_wrI 168 r15.2 ((((4 : Int32) * l3) + (2 : Int32)) + j10) ((v16 + ((1 : Int32) + s12.1)) - (1 : Int32))).bind fun w17 =>
          (o_rd 168 w17 (((4 : Int32) * l3) + j10)).bind fun v18 =>
          (o_wrI 168 w17 (((4 : Int32) * l2) + j10) (v18 + ((1 : Int32) + s12.1))).bind fun w19 =>
          some ((l2 + (1 : Int32)), l3, w19, s12.2)).bind fun j20 =>
      fM_makes_L39 F N j20.1 j20.2.1 j20.2.2.1 j20.2.2.2
def fM_makes_L242 (F : Nat) : Nat → Int32 → (Nat → Int32) → Option (Int32 × (Nat → Int32))
  | 0, _, _ => none
  | N + 1, l4, s_0 =>
    if (84 : Int32) ≤ l4 then
      some (l4, s_0)
    else
      (o_wrI 84 s_0 l4 (0 : Int32)).bind fun w22 =>
      fM_makes_L242 F N (l4 + (1 : Int32)) w22
def fM_makes_L266 (F : Nat) (l2 : Int32) (cuts_0 : Nat → Int32) : Nat → Int32 → Int64 → (Nat → Int32) → Option (Int32 × Int64 × (Nat → Int32))
  | 0, _, _, _ => none
  | N + 1, l4, seed_0, s_0 =>
    if l2 ≤ l4 then
      some (l4, seed_0, s_0)
    else
      (o_rd 168 cuts_0 (((4 : Int32) * l4) + (3 : Int32))).bind fun v24 =>
      (o_rd 168 cuts_0 (((4 : Int32) * l4) + (1 : Int32))).bind fun v25 =>
      (fM_area ((4 : Int32) * l4) cuts_0).bind fun s26 =>
      (fM_drawn s26 seed_0).bind fun s27 =>
      (o_rd 168 cuts_0 ((4 : Int32) * l4)).bind fun v28 =>
      (o_divI s27.1 ((v24 - v25) + (1 : Int32))).bind fun v29 =>
      (o_rd 168 cuts_0 (((4 : Int32) * l4) + (1 : Int32))).bind fun v30 =>
      (o_remI s27.1 ((v24 - v25) + (1 : Int32))).bind fun v31 =>
      (fM_area ((4 : Int32) * l4) cuts_0).bind fun s32 =>
      (o_wrI 84 s_0 ((((7 : Int32) * (v28 + v29)) + v30) + v31) s32).bind fun w33 =>
      fM_makes_L266 F l2 cuts_0 N (l4 + (1 : Int32)) s27.2 w33
def fM_makes (F : Nat) (x1 : Int32) (seed_0 : Int64) (cuts_0 : Nat → Int32) (s_0 : Nat → Int32) : Option (Int32 × Int64 × (Nat → Int32) × (Nat → Int32)) :=
  (o_wrI 168 cuts_0 (0 : Int32) (0 : Int32)).bind fun w1 =>
  (o_wrI 168 w1 (1 : Int32) (0 : Int32)).bind fun w2 =>
  (o_wrI 168 w2 (2 : Int32) (5 : Int32)).bind fun w3 =>
  (o_wrI 168 w3 (3 : Int32) (6 : Int32)).bind fun w4 =>
  (fM_makes_L39 F F (1 : Int32) (0 : Int32) w4 x1.toInt64).bind fun r21 =>
  (fM_makes_L242 F F (0 : Int32) s_0).bind fun r23 =>
  (fM_makes_L266 F r21.1 r21.2.2.1 F (0 : Int32) r21.2.2.2 r23.2).bind fun r34 =>
  some (r21.1, r34.2.1, r21.2.2.1, r34.2.2)
def fM_make (F : Nat) (x1 : Int32) (thrown_0 : Int32) (known_0 : Int32) (before_0 : Nat → Int32) (s_0 : Nat → Int32) (seed_0 : Int64) (cuts_0 : Nat → Int32) : Option (Int32 × Int32 × (Nat → Int32) × Int32 × Int64 × (Nat → Int32) × (Nat → Int32)) :=
  (fM_in x1 (0 : Int32) (999999 : Int32)).bind fun s1 =>
  if ¬ s1 = (0 : Int32) then
    (fM_save F known_0 before_0 s_0).bind fun s2 =>
    (fM_makes F x1 seed_0 cuts_0 s_0).bind fun s3 =>
    some (s3.1, (0 : Int32), s2.1, s2.2, s3.2.1, s3.2.2.1, s3.2.2.2)
  else
    (fM_throwing (1 : Int32) (0 : Int32)).bind fun s4 =>
    some (s4.1, s4.2, before_0, known_0, seed_0, cuts_0, s_0)
def fM_isRectangle (x0 : Int32) (x1 : Int32) (x2 : Int32) (x3 : Int32) : Option (Int32) :=
  (fM_isCell x0 x1).bind fun s1 =>
  if s1 = (0 : Int32) then
    some (0 : Int32)
  else
    (fM_in x2 x0 (5 : Int32)).bind fun s2 =>
    if s2 = (0 : Int32) then
      some (0 : Int32)
    else
      (fM_in x3 x1 (6 : Int32)).bind fun s3 =>
      if s3 = (0 : Int32) then
        some (0 : Int32)
      else
        some (1 : Int32)
def fM_draw (F : Nat) (x1 : Int32) (x2 : Int32) (x3 : Int32) (x4 : Int32) (thrown_0 : Int32) (s_0 : Nat → Int32) (known_0 : Int32) (before_0 : Nat → Int32) : Option (Int32 × Int32 × (Nat → Int32) × Int32 × (Nat → Int32)) :=
  (fM_isRectangle x1 x2 x3 x4).bind fun s1 =>
  if ¬ s1 = (0 : Int32) then
    (fM_rectangle F x1 x2 x3 x4).bind fun s2 =>
    (fM_against F s2 s_0).bind fun s3 =>
    if s3 = (0 : Int32) then
      (fM_save F known_0 before_0 s_0).bind fun s4 =>
      (fM_rectangle F x1 x2 x3 x4).bind fun s5 =>
      (fM_draws F s5 s_0).bind fun s6 =>
      (fM_taken F s6).bind fun s7 =>
      (fM_bits F s7).bind fun s8 =>
      some (s8, (0 : Int32), s4.1, s4.2, s6)
    else
      (fM_throwing (2 : Int32) (0 : Int32)).bind fun s9 =>
      some (s9.1, s9.2, before_0, known_0, s_0)
  else
    (fM_throwing (1 : Int32) (0 : Int32)).bind fun s10 =>
    some (s10.1, s10.2, before_0, known_0, s_0)
def fM_isThere (x1 : Int32) (x2 : Int32) (x3 : Int32) (s_0 : Nat → Int32) (thrown_0 : Int32) : Option (Int32 × Int32) :=
  (fM_isCell x1 x2).bind fun s1 =>
  (show Option (Int32) from
    if ¬ s1 = (0 : Int32) then
      if x3 = (0 : Int32) then
        some (0 : Int32)
      else
        (o_rd 84 s_0 (((42 : Int32) + ((7 : Int32) * x1)) + x2)).bind fun v2 =>
        if ¬ v2 = (0 : Int32) then
          some (0 : Int32)
        else
          some (2 : Int32)
    else
      some (1 : Int32)).bind fun j3 =>
  if ¬ j3 = (0 : Int32) then
    some ((0 : Int32), j3)
  else
    some ((1 : Int32), j3)
def fM_erase_L30 (F : Nat) (l3 : Int64) : Nat → Int32 → (Nat → Int32) → Option (Int32 × (Nat → Int32))
  | 0, _, _ => none
  | N + 1, l5, s_0 =>
    if (42 : Int32) ≤ l5 then
      some (l5, s_0)
    else
      (fM_has l3 l5).bind fun s4 =>
      (show Option (Int32) from
        if s4 = (0 : Int32) then
          (o_rd 84 s_0 ((42 : Int32) + l5)).bind fun v5 =>
          some v5
        else
          some (0 : Int32)).bind fun j6 =>
      (o_wrI 84 s_0 ((42 : Int32) + l5) j6).bind fun w7 =>
      fM_erase_L30 F l3 N (l5 + (1 : Int32)) w7
def fM_erase (F : Nat) (x1 : Int32) (x2 : Int32) (s_0 : Nat → Int32) (thrown_0 : Int32) (known_0 : Int32) (before_0 : Nat → Int32) : Option (Int32 × Int32 × (Nat → Int32) × Int32 × (Nat → Int32)) :=
  (fM_isThere x1 x2 (1 : Int32) s_0 thrown_0).bind fun s1 =>
  if ¬ s1.1 = (0 : Int32) then
    (fM_save F known_0 before_0 s_0).bind fun s2 =>
    (fM_fieldOf F (((7 : Int32) * x1) + x2) s_0).bind fun s3 =>
    (fM_erase_L30 F s3 F (0 : Int32) s_0).bind fun r8 =>
    (fM_bits F s3).bind fun s9 =>
    some (s9, s1.2, s2.1, s2.2, r8.2)
  else
    some ((0 : Int32), s1.2, before_0, known_0, s_0)
def fM_eraseAll_L16 (F : Nat) : Nat → Int32 → (Nat → Int32) → Option (Int32 × (Nat → Int32))
  | 0, _, _ => none
  | N + 1, l2, s_0 =>
    if (42 : Int32) ≤ l2 then
      some (l2, s_0)
    else
      (o_wrI 84 s_0 ((42 : Int32) + l2) (0 : Int32)).bind fun w3 =>
      fM_eraseAll_L16 F N (l2 + (1 : Int32)) w3
def fM_eraseAll (F : Nat) (thrown_0 : Int32) (known_0 : Int32) (before_0 : Nat → Int32) (s_0 : Nat → Int32) : Option (Int32 × Int32 × (Nat → Int32) × Int32 × (Nat → Int32)) :=
  (fM_save F known_0 before_0 s_0).bind fun s1 =>
  (fM_allFields F s_0).bind fun s2 =>
  (fM_eraseAll_L16 F F (0 : Int32) s_0).bind fun r4 =>
  some (s2, (0 : Int32), s1.1, s1.2, r4.2)
def fM_settle_L33 (F : Nat) (many_0 : Int32) (owner_0 : Nat → Int32) (isOver_0 : Nat → Int32) : Nat → Int32 → (Nat → Int32) → Option (Int32 × (Nat → Int32))
  | 0, _, _ => none
  | N + 1, l2, isRuled_0 =>
    if many_0 ≤ l2 then
      some (l2, isRuled_0)
    else
      (o_rd 1200 isOver_0 l2).bind fun v5 =>
      (show Option (Int32) from
        if ¬ v5 = (0 : Int32) then
          some (0 : Int32)
        else
          (o_rd 1200 owner_0 l2).bind fun v6 =>
          (fM_leftIn F v6 many_0 owner_0 isOver_0).bind fun s7 =>
          if ¬ s7 = (1 : Int32) then
            some (0 : Int32)
          else
            some (1 : Int32)).bind fun j8 =>
      (o_wrZ 1200 isRuled_0 l2 j8).bind fun w9 =>
      fM_settle_L33 F many_0 owner_0 isOver_0 N (l2 + (1 : Int32)) w9
def fM_settle_L83 (F : Nat) (many_0 : Int32) (cells_0 : Nat → Int64) (isRuled_0 : Nat → Int32) : Nat → Int32 → (Nat → Int32) → Option (Int32 × (Nat → Int32))
  | 0, _, _ => none
  | N + 1, l2, s_0 =>
    if many_0 ≤ l2 then
      some (l2, s_0)
    else
      (o_rd 1200 isRuled_0 l2).bind fun v11 =>
      (show Option ((Nat → Int32)) from
        if v11 = (0 : Int32) then
          some s_0
        else
          (o_rd 1200 cells_0 l2).bind fun v12 =>
          (fM_draws F v12 s_0).bind fun s13 =>
          some s13).bind fun j14 =>
      fM_settle_L83 F many_0 cells_0 isRuled_0 N (l2 + (1 : Int32)) j14
def fM_settle (F : Nat) (thrown_0 : Int32) (many_0 : Int32) (table_0 : Nat → Int32) (s_0 : Nat → Int32) (cells_0 : Nat → Int64) (owner_0 : Nat → Int32) (code_0 : Nat → Int32) (isOver_0 : Nat → Int32) (round_0 : Int32) (all_0 : Nat → Int64) (some_0 : Nat → Int64) (isRuled_0 : Nat → Int32) (known_0 : Int32) (before_0 : Nat → Int32) : Option (Int32 × Int32 × Int32 × (Nat → Int32) × (Nat → Int64) × (Nat → Int32) × (Nat → Int32) × (Nat → Int32) × Int32 × (Nat → Int64) × (Nat → Int64) × (Nat → Int32) × (Nat → Int32) × Int32 × (Nat → Int32)) :=
  (fM_rules F many_0 table_0 s_0 cells_0 owner_0 code_0 isOver_0 round_0 all_0 some_0 isRuled_0).bind fun s1 =>
  (fM_isAgainst F s_0 s1.2.2.2.2.2.2.2.2.1).bind fun s2 =>
  if s2 = (0 : Int32) then
    (fM_save F known_0 before_0 s_0).bind fun s3 =>
    (fM_sure F s_0 s1.1 s1.2.2.2.1 s1.2.2.2.2.2.1).bind fun s4 =>
    (fM_settle_L33 F s1.1 s1.2.2.2.1 s1.2.2.2.2.2.1 F (0 : Int32) s1.2.2.2.2.2.2.2.2.2).bind fun r10 =>
    (fM_settle_L83 F s1.1 s1.2.2.1 r10.2 F (0 : Int32) s_0).bind fun r15 =>
    some (s4, (0 : Int32), s1.1, s1.2.1, s1.2.2.1, s1.2.2.2.1, s1.2.2.2.2.1, s1.2.2.2.2.2.1, s1.2.2.2.2.2.2.1, s1.2.2.2.2.2.2.2.1, s1.2.2.2.2.2.2.2.2.1, r10.2, s3.1, s3.2, r15.2)
  else
    (fM_throwing (1 : Int32) (0 : Int32)).bind fun s16 =>
    some (s16.1, s16.2, s1.1, s1.2.1, s1.2.2.1, s1.2.2.2.1, s1.2.2.2.2.1, s1.2.2.2.2.2.1, s1.2.2.2.2.2.2.1, s1.2.2.2.2.2.2.2.1, s1.2.2.2.2.2.2.2.2.1, s1.2.2.2.2.2.2.2.2.2, before_0, known_0, s_0)
def fM_finish_L30 (F : Nat) (corner_0 : Nat → Int32) : Nat → Int32 → (Nat → Int32) → Option (Int32 × (Nat → Int32))
  | 0, _, _ => none
  | N + 1, l2, s_0 =>
    if (42 : Int32) ≤ l2 then
      some (l2, s_0)
    else
      (o_rd 42 corner_0 l2).bind fun v4 =>
      (o_wrI 84 s_0 ((42 : Int32) + l2) (v4 + (1 : Int32))).bind fun w5 =>
      fM_finish_L30 F corner_0 N (l2 + (1 : Int32)) w5
def fM_finish (F : Nat) (thrown_0 : Int32) (many_0 : Int32) (table_0 : Nat → Int32) (s_0 : Nat → Int32) (cells_0 : Nat → Int64) (owner_0 : Nat → Int32) (code_0 : Nat → Int32) (last_0 : Nat → Int32) (chosen_0 : Nat → Int32) (corner_0 : Nat → Int32) (wide_0 : Nat → Int32) (known_0 : Int32) (before_0 : Nat → Int32) : Option (Int32 × Int32 × Int32 × (Nat → Int32) × (Nat → Int64) × (Nat → Int32) × (Nat → Int32) × (Nat → Int32) × (Nat → Int32) × (Nat → Int32) × (Nat → Int32) × (Nat → Int32) × Int32 × (Nat → Int32)) :=
  (fM_ways F (1 : Int32) many_0 table_0 s_0 cells_0 owner_0 code_0 last_0 chosen_0 corner_0 wide_0).bind fun s1 =>
  if ¬ s1.1 = (0 : Int32) then
    (fM_save F known_0 before_0 s_0).bind fun s2 =>
    (fM_allFields F s_0).bind fun s3 =>
    (fM_finish_L30 F s1.2.2.2.2.2.2.2.2.1 F (0 : Int32) s_0).bind fun r6 =>
    (fM_allFields F r6.2).bind fun s7 =>
    some ((s7 - s3), (0 : Int32), s1.2.1, s1.2.2.1, s1.2.2.2.1, s1.2.2.2.2.1, s1.2.2.2.2.2.1, s1.2.2.2.2.2.2.1, s1.2.2.2.2.2.2.2.1, s1.2.2.2.2.2.2.2.2.1, s1.2.2.2.2.2.2.2.2.2, s2.1, s2.2, r6.2)
  else
    (fM_throwing (1 : Int32) (0 : Int32)).bind fun s8 =>
    some (s8.1, s8.2, s1.2.1, s1.2.2.1, s1.2.2.2.1, s1.2.2.2.2.1, s1.2.2.2.2.2.1, s1.2.2.2.2.2.2.1, s1.2.2.2.2.2.2.2.1, s1.2.2.2.2.2.2.2.2.1, s1.2.2.2.2.2.2.2.2.2, before_0, known_0, s_0)
def fM_append (x1 : Int32) (thrown_0 : Int32) (length_0 : Int32) (buffer_0 : Nat → Int32) : Option (Int32 × Int32 × (Nat → Int32) × Int32) :=
  (fM_in x1 (33 : Int32) (126 : Int32)).bind fun s1 =>
  if ¬ s1 = (0 : Int32) then
    if ¬ length_0 = (60 : Int32) then
      (o_wrI 60 buffer_0 length_0 x1).bind fun w2 =>
      some ((length_0 + (1 : Int32)), (0 : Int32), w2, (length_0 + (1 : Int32)))
    else
      (fM_throwing (2 : Int32) (0 : Int32)).bind fun s3 =>
      some (s3.1, s3.2, buffer_0, length_0)
  else
    (fM_throwing (1 : Int32) (0 : Int32)).bind fun s4 =>
    some (s4.1, s4.2, buffer_0, length_0)
def fM_clearBuffer (thrown_0 : Int32) (length_0 : Int32) : Option (Int32 × Int32 × Int32) :=
  some (length_0, (0 : Int32), (0 : Int32))
def fM_error_L2 (F : Nat) (length_0 : Int32) (buffer_0 : Nat → Int32) : Nat → Int32 → Option (Int32)
  | 0, _ => none
  | N + 1, l1 =>
    if length_0 ≤ l1 then
      some length_0
    else
      (o_rd 60 buffer_0 l1).bind fun v1 =>
      (show Option (Int32) from
        if v1 = (46 : Int32) then
          some (1 : Int32)
        else
          (fM_in v1 (49 : Int32) (57 : Int32)).bind fun s2 =>
          if ¬ s2 = (0 : Int32) then
            some (1 : Int32)
          else
            (fM_in v1 (97 : Int32) (107 : Int32)).bind fun s3 =>
            if s3 = (0 : Int32) then
              some (0 : Int32)
            else
              some (1 : Int32)).bind fun j4 =>
      if j4 = (0 : Int32) then
        some l1
      else
        if ¬ l1 = (7 : Int32) then
          fM_error_L2 F length_0 buffer_0 N (l1 + (1 : Int32))
        else
          some l1
def fM_error (F : Nat) (length_0 : Int32) (buffer_0 : Nat → Int32) : Option (Int32) :=
  (fM_error_L2 F length_0 buffer_0 F (0 : Int32))
def fM_firstError (F : Nat) (thrown_0 : Int32) (length_0 : Int32) (buffer_0 : Nat → Int32) : Option (Int32 × Int32) :=
  (fM_error F length_0 buffer_0).bind fun s1 =>
  some (s1, (0 : Int32))
def fM_writeRow_L51 (F : Nat) (l1 : Int32) (s_0 : Nat → Int32) : Nat → Int32 → Int32 → Option (Int32 × Int32)
  | 0, _, _ => none
  | N + 1, l2, thrown_0 =>
    if (((7 : Int32) * l1) + (7 : Int32)) ≤ l2 then
      some (l2, thrown_0)
    else
      (o_rd 84 s_0 ((42 : Int32) + l2)).bind fun v4 =>
      (show Option (Int32) from
        if v4 ≤ (0 : Int32) then
          some thrown_0
        else
          some (3 : Int32)).bind fun j5 =>
      fM_writeRow_L51 F l1 s_0 N (l2 + (1 : Int32)) j5
def fM_writeRow_L109 (F : Nat) (l1 : Int32) (buffer_0 : Nat → Int32) : Nat → Int32 → Int32 → (Nat → Int32) → Option (Int32 × Int32 × (Nat → Int32))
  | 0, _, _, _ => none
  | N + 1, l2, l3, s_0 =>
    if (7 : Int32) ≤ l3 then
      some (l2, l3, s_0)
    else
      (o_rd 60 buffer_0 l3).bind fun v8 =>
      (show Option (Int32) from
        if ¬ v8 = (46 : Int32) then
          if v8 < (97 : Int32) then
            some (v8 - (48 : Int32))
          else
            some ((v8 - (97 : Int32)) + (10 : Int32))
        else
          some (0 : Int32)).bind fun j9 =>
      (o_wrI 84 s_0 (((7 : Int32) * l1) + l3) j9).bind fun w10 =>
      (show Option (Int32) from
        if j9 ≤ (0 : Int32) then
          some (0 : Int32)
        else
          some (1 : Int32)).bind fun j11 =>
      fM_writeRow_L109 F l1 buffer_0 N (l2 + j11) (l3 + (1 : Int32)) w10
def fM_writeRow (F : Nat) (x1 : Int32) (thrown_0 : Int32) (length_0 : Int32) (buffer_0 : Nat → Int32) (s_0 : Nat → Int32) (known_0 : Int32) (before_0 : Nat → Int32) : Option (Int32 × Int32 × (Nat → Int32) × Int32 × (Nat → Int32) × Int32) :=
  (fM_in x1 (0 : Int32) (5 : Int32)).bind fun s1 =>
  if ¬ s1 = (0 : Int32) then
    if ¬ length_0 = (7 : Int32) then
      (fM_throwing (2 : Int32) (0 : Int32)).bind fun s2 =>
      some (s2.1, s2.2, before_0, known_0, s_0, length_0)
    else
      (fM_error F length_0 buffer_0).bind fun s3 =>
      if length_0 ≤ s3 then
        (fM_writeRow_L51 F x1 s_0 F ((7 : Int32) * x1) (0 : Int32)).bind fun r6 =>
        if r6.2 ≤ (0 : Int32) then
          (fM_save F known_0 before_0 s_0).bind fun s7 =>
          (fM_writeRow_L109 F x1 buffer_0 F (0 : Int32) (0 : Int32) s_0).bind fun r12 =>
          some (r12.1, r6.2, s7.1, s7.2, r12.2.2, (0 : Int32))
        else
          some ((0 : Int32), r6.2, before_0, known_0, s_0, length_0)
      else
        (fM_throwing (2 : Int32) (0 : Int32)).bind fun s13 =>
        some (s13.1, s13.2, before_0, known_0, s_0, length_0)
  else
    (fM_throwing (1 : Int32) (0 : Int32)).bind fun s14 =>
    some (s14.1, s14.2, before_0, known_0, s_0, length_0)
def fM_keep_L20 (F : Nat) (l1 : Int32) (thrown_0 : Int32) (s_0 : Nat → Int32) : Nat → Int32 → (Nat → Int32) → Option (Int32 × (Nat → Int32))
  | 0, _, _ => none
  | N + 1, l2, slots_0 =>
    if (84 : Int32) ≤ l2 then
      some (l2, slots_0)
    else
      if ¬ thrown_0 = (0 : Int32) then
        some (l2, slots_0)
      else
        (o_rd 84 s_0 l2).bind fun v3 =>
        (o_wrI 168 slots_0 (((84 : Int32) * l1) + l2) v3).bind fun w4 =>
        fM_keep_L20 F l1 thrown_0 s_0 N (l2 + (1 : Int32)) w4
def fM_keep (F : Nat) (x1 : Int32) (thrown_0 : Int32) (s_0 : Nat → Int32) (slots_0 : Nat → Int32) (isKept_0 : Nat → Int32) : Option (Int32 × (Nat → Int32) × (Nat → Int32)) :=
  (fM_in x1 (0 : Int32) (1 : Int32)).bind fun s1 =>
  (show Option (Int32) from
    if s1 = (0 : Int32) then
      some (1 : Int32)
    else
      some (0 : Int32)).bind fun j2 =>
  (fM_keep_L20 F x1 j2 s_0 F (0 : Int32) slots_0).bind fun r5 =>
  if ¬ j2 = (0 : Int32) then
    some (j2, r5.2, isKept_0)
  else
    (o_wrZ 2 isKept_0 x1 (1 : Int32)).bind fun w6 =>
    some (j2, r5.2, w6)
def fM_goBack_L44 (F : Nat) (l1 : Int32) (slots_0 : Nat → Int32) : Nat → Int32 → (Nat → Int32) → Option (Int32 × (Nat → Int32))
  | 0, _, _ => none
  | N + 1, l2, s_0 =>
    if (84 : Int32) ≤ l2 then
      some (l2, s_0)
    else
      (o_rd 168 slots_0 (((84 : Int32) * l1) + l2)).bind fun v5 =>
      (o_wrI 84 s_0 l2 v5).bind fun w6 =>
      fM_goBack_L44 F l1 slots_0 N (l2 + (1 : Int32)) w6
def fM_goBack (F : Nat) (x1 : Int32) (isKept_0 : Nat → Int32) (thrown_0 : Int32) (known_0 : Int32) (before_0 : Nat → Int32) (s_0 : Nat → Int32) (slots_0 : Nat → Int32) : Option (Int32 × (Nat → Int32) × Int32 × (Nat → Int32)) :=
  (fM_in x1 (0 : Int32) (1 : Int32)).bind fun s1 =>
  (show Option (Int32) from
    if ¬ s1 = (0 : Int32) then
      (o_rd 2 isKept_0 x1).bind fun v2 =>
      if v2 = (0 : Int32) then
        some (2 : Int32)
      else
        some (0 : Int32)
    else
      some (1 : Int32)).bind fun j3 =>
  if ¬ j3 = (0 : Int32) then
    some (j3, before_0, known_0, s_0)
  else
    (fM_save F known_0 before_0 s_0).bind fun s4 =>
    (fM_goBack_L44 F x1 slots_0 F (0 : Int32) s_0).bind fun r7 =>
    some (j3, s4.1, s4.2, r7.2)
def fM_undo_L35 (F : Nat) (known_0 : Int32) (before_0 : Nat → Int32) : Nat → Int32 → (Nat → Int32) → Option (Int32 × (Nat → Int32))
  | 0, _, _ => none
  | N + 1, l1, s_0 =>
    if (84 : Int32) ≤ l1 then
      some (l1, s_0)
    else
      (o_rd 504 before_0 (((84 : Int32) * known_0) + l1)).bind fun v2 =>
      (o_wrI 84 s_0 l1 v2).bind fun w3 =>
      fM_undo_L35 F known_0 before_0 N (l1 + (1 : Int32)) w3
def fM_undo (F : Nat) (known_0 : Int32) (thrown_0 : Int32) (before_0 : Nat → Int32) (s_0 : Nat → Int32) : Option (Int32 × Int32 × (Nat → Int32)) :=
  (show Option (Int32) from
    if ¬ known_0 = (0 : Int32) then
      some (0 : Int32)
    else
      some (1 : Int32)).bind fun j1 =>
  if ¬ j1 = (0 : Int32) then
    some (j1, known_0, s_0)
  else
    (fM_undo_L35 F (known_0 - (1 : Int32)) before_0 F (0 : Int32) s_0).bind fun r4 =>
    some (j1, (known_0 - (1 : Int32)), r4.2)
def fM_savedStates (thrown_0 : Int32) (known_0 : Int32) : Option (Int32 × Int32) :=
  some (known_0, (0 : Int32))
def fM_numberAt (x1 : Int32) (x2 : Int32) (s_0 : Nat → Int32) (thrown_0 : Int32) : Option (Int32 × Int32) :=
  (fM_isThere x1 x2 (0 : Int32) s_0 thrown_0).bind fun s1 =>
  if s1.1 = (0 : Int32) then
    some ((0 : Int32), s1.2)
  else
    (o_rd 84 s_0 (((7 : Int32) * x1) + x2)).bind fun v2 =>
    some (v2, s1.2)
def fM_numbers (F : Nat) (thrown_0 : Int32) (s_0 : Nat → Int32) : Option (Int32 × Int32) :=
  (fM_numbered F s_0).bind fun s1 =>
  (fM_bits F s1).bind fun s2 =>
  some (s2, (0 : Int32))
def fM_total_L4 (F : Nat) (s_0 : Nat → Int32) : Nat → Int32 → Int32 → Option (Int32 × Int32)
  | 0, _, _ => none
  | N + 1, l1, l2 =>
    if (42 : Int32) ≤ l2 then
      some (l1, l2)
    else
      (o_rd 84 s_0 l2).bind fun v1 =>
      fM_total_L4 F s_0 N (l1 + v1) (l2 + (1 : Int32))
def fM_total (F : Nat) (s_0 : Nat → Int32) : Option (Int32) :=
  (fM_total_L4 F s_0 F (0 : Int32) (0 : Int32)).bind fun r2 =>
  some r2.1
def fM_sum (F : Nat) (thrown_0 : Int32) (s_0 : Nat → Int32) : Option (Int32 × Int32) :=
  (fM_total F s_0).bind fun s1 =>
  some (s1, (0 : Int32))
def fM_isInField (x1 : Int32) (x2 : Int32) (s_0 : Nat → Int32) (thrown_0 : Int32) : Option (Int32 × Int32) :=
  (fM_isThere x1 x2 (0 : Int32) s_0 thrown_0).bind fun s1 =>
  if s1.1 = (0 : Int32) then
    some ((0 : Int32), s1.2)
  else
    (o_rd 84 s_0 (((42 : Int32) + ((7 : Int32) * x1)) + x2)).bind fun v2 =>
    if v2 ≤ (0 : Int32) then
      some ((0 : Int32), s1.2)
    else
      some ((1 : Int32), s1.2)
def fM_fieldSize (F : Nat) (x1 : Int32) (x2 : Int32) (s_0 : Nat → Int32) (thrown_0 : Int32) : Option (Int32 × Int32) :=
  (fM_isThere x1 x2 (1 : Int32) s_0 thrown_0).bind fun s1 =>
  if s1.1 = (0 : Int32) then
    some ((0 : Int32), s1.2)
  else
    (fM_fieldOf F (((7 : Int32) * x1) + x2) s_0).bind fun s2 =>
    (fM_bits F s2).bind fun s3 =>
    some (s3, s1.2)
def fM_cornerOf (x1 : Int32) (x2 : Int32) (s_0 : Nat → Int32) (thrown_0 : Int32) : Option (Int32 × Int32) :=
  (fM_isThere x1 x2 (1 : Int32) s_0 thrown_0).bind fun s1 =>
  if s1.1 = (0 : Int32) then
    some ((0 : Int32), s1.2)
  else
    (o_rd 84 s_0 (((42 : Int32) + ((7 : Int32) * x1)) + x2)).bind fun v2 =>
    some ((v2 - (1 : Int32)), s1.2)
def fM_fields (F : Nat) (thrown_0 : Int32) (s_0 : Nat → Int32) : Option (Int32 × Int32) :=
  (fM_allFields F s_0).bind fun s1 =>
  some (s1, (0 : Int32))
def fM_openCells (F : Nat) (thrown_0 : Int32) (s_0 : Nat → Int32) : Option (Int32 × Int32) :=
  (fM_taken F s_0).bind fun s1 =>
  (fM_bits F s1).bind fun s2 =>
  some (((42 : Int32) - s2), (0 : Int32))
def fM_isFull (F : Nat) (thrown_0 : Int32) (s_0 : Nat → Int32) : Option (Int32 × Int32) :=
  (fM_taken F s_0).bind fun s1 =>
  if ¬ s1 = (4398046511103 : Int64) then
    some ((0 : Int32), (0 : Int32))
  else
    some ((1 : Int32), (0 : Int32))
def fM_reasonAgainst (F : Nat) (x1 : Int32) (x2 : Int32) (x3 : Int32) (x4 : Int32) (thrown_0 : Int32) (s_0 : Nat → Int32) : Option (Int32 × Int32) :=
  (fM_isRectangle x1 x2 x3 x4).bind fun s1 =>
  if s1 = (0 : Int32) then
    (fM_throwing (1 : Int32) (0 : Int32)).bind fun s2 =>
    some (s2.1, s2.2)
  else
    (fM_rectangle F x1 x2 x3 x4).bind fun s3 =>
    (fM_against F s3 s_0).bind fun s4 =>
    some (s4, (0 : Int32))
def fM_countOf_L4 (F : Nat) (l1 : Int32) (many_0 : Int32) (owner_0 : Nat → Int32) : Nat → Int32 → Int32 → Option (Int32 × Int32)
  | 0, _, _ => none
  | N + 1, l2, l3 =>
    if many_0 ≤ l3 then
      some (l2, l3)
    else
      (o_rd 1200 owner_0 l3).bind fun v1 =>
      (show Option (Int32) from
        if ¬ v1 = l1 then
          some (0 : Int32)
        else
          some (1 : Int32)).bind fun j2 =>
      fM_countOf_L4 F l1 many_0 owner_0 N (l2 + j2) (l3 + (1 : Int32))
def fM_countOf (F : Nat) (x1 : Int32) (many_0 : Int32) (owner_0 : Nat → Int32) : Option (Int32) :=
  (fM_countOf_L4 F x1 many_0 owner_0 F (0 : Int32) (0 : Int32)).bind fun r3 =>
  some r3.1
def fM_possibleFor (F : Nat) (x1 : Int32) (x2 : Int32) (s_0 : Nat → Int32) (thrown_0 : Int32) (many_0 : Int32) (table_0 : Nat → Int32) (cells_0 : Nat → Int64) (owner_0 : Nat → Int32) (code_0 : Nat → Int32) : Option (Int32 × Int32 × Int32 × (Nat → Int32) × (Nat → Int64) × (Nat → Int32) × (Nat → Int32)) :=
  (fM_isThere x1 x2 (0 : Int32) s_0 thrown_0).bind fun s1 =>
  if ¬ s1.1 = (0 : Int32) then
    (fM_finds F many_0 table_0 s_0 cells_0 owner_0 code_0).bind fun s2 =>
    (fM_countOf F (((7 : Int32) * x1) + x2) s2.1 s2.2.2.2.1).bind fun s3 =>
    some (s3, s1.2, s2.1, s2.2.1, s2.2.2.1, s2.2.2.2.1, s2.2.2.2.2)
  else
    some ((0 : Int32), s1.2, many_0, table_0, cells_0, owner_0, code_0)
def fM_possibleAt_L22 (F : Nat) (l1 : Int32) (l2 : Int32) (thrown_0 : Int32) (many_0 : Int32) (table_0 : Nat → Int32) (cells_0 : Nat → Int64) (owner_0 : Nat → Int32) (code_0 : Nat → Int32) : Nat → Int32 → Int32 → Option (Int32 × Int32 × Int32 × (Nat → Int32) × (Nat → Int64) × (Nat → Int32) × (Nat → Int32))
  | 0, _, _ => none
  | N + 1, l4, l5 =>
    if many_0 ≤ l5 then
      (fM_throwing (1 : Int32) thrown_0).bind fun s3 =>
      some (s3.1, s3.2, many_0, table_0, cells_0, owner_0, code_0)
    else
      (o_rd 1200 owner_0 l5).bind fun v4 =>
      if ¬ v4 = (((7 : Int32) * l1) + l2) then
        fM_possibleAt_L22 F l1 l2 thrown_0 many_0 table_0 cells_0 owner_0 code_0 N l4 (l5 + (1 : Int32))
      else
        if ¬ l4 = (0 : Int32) then
          fM_possibleAt_L22 F l1 l2 thrown_0 many_0 table_0 cells_0 owner_0 code_0 N (l4 + (-1 : Int32)) (l5 + (1 : Int32))
        else
          (o_rd 1200 code_0 l5).bind fun v5 =>
          some (v5, thrown_0, many_0, table_0, cells_0, owner_0, code_0)
def fM_possibleAt (F : Nat) (x1 : Int32) (x2 : Int32) (x3 : Int32) (s_0 : Nat → Int32) (thrown_0 : Int32) (many_0 : Int32) (table_0 : Nat → Int32) (cells_0 : Nat → Int64) (owner_0 : Nat → Int32) (code_0 : Nat → Int32) : Option (Int32 × Int32 × Int32 × (Nat → Int32) × (Nat → Int64) × (Nat → Int32) × (Nat → Int32)) :=
  (fM_isThere x1 x2 (0 : Int32) s_0 thrown_0).bind fun s1 =>
  if ¬ s1.1 = (0 : Int32) then
    (fM_finds F many_0 table_0 s_0 cells_0 owner_0 code_0).bind fun s2 =>
    (fM_possibleAt_L22 F x1 x2 s1.2 s2.1 s2.2.1 s2.2.2.1 s2.2.2.2.1 s2.2.2.2.2 F x3 (0 : Int32))
  else
    some ((0 : Int32), s1.2, many_0, table_0, cells_0, owner_0, code_0)
def fM_covering_L4 (F : Nat) (l1 : Int32) (many_0 : Int32) (cells_0 : Nat → Int64) : Nat → Int32 → Int32 → Option (Int32 × Int32)
  | 0, _, _ => none
  | N + 1, l2, l3 =>
    if many_0 ≤ l3 then
      some (l2, l3)
    else
      (o_rd 1200 cells_0 l3).bind fun v1 =>
      (fM_has v1 l1).bind fun s2 =>
      (show Option (Int32) from
        if s2 = (0 : Int32) then
          some (0 : Int32)
        else
          some (1 : Int32)).bind fun j3 =>
      fM_covering_L4 F l1 many_0 cells_0 N (l2 + j3) (l3 + (1 : Int32))
def fM_covering (F : Nat) (x1 : Int32) (many_0 : Int32) (cells_0 : Nat → Int64) : Option (Int32) :=
  (fM_covering_L4 F x1 many_0 cells_0 F (0 : Int32) (0 : Int32)).bind fun r4 =>
  some r4.1
def fM_claiming_L5 (F : Nat) (l1 : Int32) (many_0 : Int32) (cells_0 : Nat → Int64) (owner_0 : Nat → Int32) : Nat → Int64 → Int32 → Option (Int64 × Int32)
  | 0, _, _ => none
  | N + 1, l2, l4 =>
    if many_0 ≤ l4 then
      some (l2, l4)
    else
      (o_rd 1200 cells_0 l4).bind fun v1 =>
      (fM_has v1 l1).bind fun s2 =>
      (show Option (Int64) from
        if s2 = (0 : Int32) then
          some (0 : Int64)
        else
          (o_rd 1200 owner_0 l4).bind fun v3 =>
          some ((1 : Int64) <<< (v3.toInt64 &&& 63))).bind fun j4 =>
      fM_claiming_L5 F l1 many_0 cells_0 owner_0 N (l2 ||| j4) (l4 + (1 : Int32))
def fM_claiming (F : Nat) (x1 : Int32) (many_0 : Int32) (cells_0 : Nat → Int64) (owner_0 : Nat → Int32) : Option (Int32) :=
  (fM_claiming_L5 F x1 many_0 cells_0 owner_0 F (0 : Int64) (0 : Int32)).bind fun r5 =>
  (fM_bits F r5.1).bind fun s6 =>
  some s6
def fM_coveredBy (F : Nat) (x1 : Int32) (x2 : Int32) (s_0 : Nat → Int32) (thrown_0 : Int32) (many_0 : Int32) (table_0 : Nat → Int32) (cells_0 : Nat → Int64) (owner_0 : Nat → Int32) (code_0 : Nat → Int32) : Option (Int32 × Int32 × Int32 × (Nat → Int32) × (Nat → Int64) × (Nat → Int32) × (Nat → Int32)) :=
  (fM_isThere x1 x2 (0 : Int32) s_0 thrown_0).bind fun s1 =>
  if ¬ s1.1 = (0 : Int32) then
    (fM_finds F many_0 table_0 s_0 cells_0 owner_0 code_0).bind fun s2 =>
    (fM_covering F (((7 : Int32) * x1) + x2) s2.1 s2.2.2.1).bind fun s3 =>
    some (s3, s1.2, s2.1, s2.2.1, s2.2.2.1, s2.2.2.2.1, s2.2.2.2.2)
  else
    some ((0 : Int32), s1.2, many_0, table_0, cells_0, owner_0, code_0)
def fM_claimedBy (F : Nat) (x1 : Int32) (x2 : Int32) (s_0 : Nat → Int32) (thrown_0 : Int32) (many_0 : Int32) (table_0 : Nat → Int32) (cells_0 : Nat → Int64) (owner_0 : Nat → Int32) (code_0 : Nat → Int32) : Option (Int32 × Int32 × Int32 × (Nat → Int32) × (Nat → Int64) × (Nat → Int32) × (Nat → Int32)) :=
  (fM_isThere x1 x2 (0 : Int32) s_0 thrown_0).bind fun s1 =>
  if ¬ s1.1 = (0 : Int32) then
    (fM_finds F many_0 table_0 s_0 cells_0 owner_0 code_0).bind fun s2 =>
    (fM_claiming F (((7 : Int32) * x1) + x2) s2.1 s2.2.2.1 s2.2.2.2.1).bind fun s3 =>
    some (s3, s1.2, s2.1, s2.2.1, s2.2.2.1, s2.2.2.2.1, s2.2.2.2.2)
  else
    some ((0 : Int32), s1.2, many_0, table_0, cells_0, owner_0, code_0)
def fM_possible (F : Nat) (thrown_0 : Int32) (many_0 : Int32) (table_0 : Nat → Int32) (s_0 : Nat → Int32) (cells_0 : Nat → Int64) (owner_0 : Nat → Int32) (code_0 : Nat → Int32) : Option (Int32 × Int32 × Int32 × (Nat → Int32) × (Nat → Int64) × (Nat → Int32) × (Nat → Int32)) :=
  (fM_finds F many_0 table_0 s_0 cells_0 owner_0 code_0).bind fun s1 =>
  some (s1.1, (0 : Int32), s1.1, s1.2.1, s1.2.2.1, s1.2.2.2.1, s1.2.2.2.2)
def fM_rounds (F : Nat) (thrown_0 : Int32) (many_0 : Int32) (table_0 : Nat → Int32) (s_0 : Nat → Int32) (cells_0 : Nat → Int64) (owner_0 : Nat → Int32) (code_0 : Nat → Int32) (isOver_0 : Nat → Int32) (round_0 : Int32) (all_0 : Nat → Int64) (some_0 : Nat → Int64) (isRuled_0 : Nat → Int32) : Option (Int32 × Int32 × Int32 × (Nat → Int32) × (Nat → Int64) × (Nat → Int32) × (Nat → Int32) × (Nat → Int32) × Int32 × (Nat → Int64) × (Nat → Int64) × (Nat → Int32)) :=
  (fM_rules F many_0 table_0 s_0 cells_0 owner_0 code_0 isOver_0 round_0 all_0 some_0 isRuled_0).bind fun s1 =>
  some (s1.2.2.2.2.2.2.1, (0 : Int32), s1.1, s1.2.1, s1.2.2.1, s1.2.2.2.1, s1.2.2.2.2.1, s1.2.2.2.2.2.1, s1.2.2.2.2.2.2.1, s1.2.2.2.2.2.2.2.1, s1.2.2.2.2.2.2.2.2.1, s1.2.2.2.2.2.2.2.2.2)
def fM_leftInTheEnd (F : Nat) (thrown_0 : Int32) (many_0 : Int32) (table_0 : Nat → Int32) (s_0 : Nat → Int32) (cells_0 : Nat → Int64) (owner_0 : Nat → Int32) (code_0 : Nat → Int32) (isOver_0 : Nat → Int32) (round_0 : Int32) (all_0 : Nat → Int64) (some_0 : Nat → Int64) (isRuled_0 : Nat → Int32) : Option (Int32 × Int32 × Int32 × (Nat → Int32) × (Nat → Int64) × (Nat → Int32) × (Nat → Int32) × (Nat → Int32) × Int32 × (Nat → Int64) × (Nat → Int64) × (Nat → Int32)) :=
  (fM_rules F many_0 table_0 s_0 cells_0 owner_0 code_0 isOver_0 round_0 all_0 some_0 isRuled_0).bind fun s1 =>
  (fM_leftAll F s1.1 s1.2.2.2.2.2.1).bind fun s2 =>
  some (s2, (0 : Int32), s1.1, s1.2.1, s1.2.2.1, s1.2.2.2.1, s1.2.2.2.2.1, s1.2.2.2.2.2.1, s1.2.2.2.2.2.2.1, s1.2.2.2.2.2.2.2.1, s1.2.2.2.2.2.2.2.2.1, s1.2.2.2.2.2.2.2.2.2)
def fM_leftFor (F : Nat) (x1 : Int32) (x2 : Int32) (s_0 : Nat → Int32) (thrown_0 : Int32) (many_0 : Int32) (table_0 : Nat → Int32) (cells_0 : Nat → Int64) (owner_0 : Nat → Int32) (code_0 : Nat → Int32) (isOver_0 : Nat → Int32) (round_0 : Int32) (all_0 : Nat → Int64) (some_0 : Nat → Int64) (isRuled_0 : Nat → Int32) : Option (Int32 × Int32 × Int32 × (Nat → Int32) × (Nat → Int64) × (Nat → Int32) × (Nat → Int32) × (Nat → Int32) × Int32 × (Nat → Int64) × (Nat → Int64) × (Nat → Int32)) :=
  (fM_isThere x1 x2 (0 : Int32) s_0 thrown_0).bind fun s1 =>
  if ¬ s1.1 = (0 : Int32) then
    (fM_rules F many_0 table_0 s_0 cells_0 owner_0 code_0 isOver_0 round_0 all_0 some_0 isRuled_0).bind fun s2 =>
    (fM_leftIn F (((7 : Int32) * x1) + x2) s2.1 s2.2.2.2.1 s2.2.2.2.2.2.1).bind fun s3 =>
    some (s3, s1.2, s2.1, s2.2.1, s2.2.2.1, s2.2.2.2.1, s2.2.2.2.2.1, s2.2.2.2.2.2.1, s2.2.2.2.2.2.2.1, s2.2.2.2.2.2.2.2.1, s2.2.2.2.2.2.2.2.2.1, s2.2.2.2.2.2.2.2.2.2)
  else
    some ((0 : Int32), s1.2, many_0, table_0, cells_0, owner_0, code_0, isOver_0, round_0, all_0, some_0, isRuled_0)
def fM_isContradiction (F : Nat) (thrown_0 : Int32) (many_0 : Int32) (table_0 : Nat → Int32) (s_0 : Nat → Int32) (cells_0 : Nat → Int64) (owner_0 : Nat → Int32) (code_0 : Nat → Int32) (isOver_0 : Nat → Int32) (round_0 : Int32) (all_0 : Nat → Int64) (some_0 : Nat → Int64) (isRuled_0 : Nat → Int32) : Option (Int32 × Int32 × Int32 × (Nat → Int32) × (Nat → Int64) × (Nat → Int32) × (Nat → Int32) × (Nat → Int32) × Int32 × (Nat → Int64) × (Nat → Int64) × (Nat → Int32)) :=
  (fM_rules F many_0 table_0 s_0 cells_0 owner_0 code_0 isOver_0 round_0 all_0 some_0 isRuled_0).bind fun s1 =>
  (fM_isAgainst F s_0 s1.2.2.2.2.2.2.2.2.1).bind fun s2 =>
  (o_z s2).bind fun z3 =>
  some (z3, (0 : Int32), s1.1, s1.2.1, s1.2.2.1, s1.2.2.2.1, s1.2.2.2.2.1, s1.2.2.2.2.2.1, s1.2.2.2.2.2.2.1, s1.2.2.2.2.2.2.2.1, s1.2.2.2.2.2.2.2.2.1, s1.2.2.2.2.2.2.2.2.2)
def fM_certain (F : Nat) (thrown_0 : Int32) (many_0 : Int32) (table_0 : Nat → Int32) (s_0 : Nat → Int32) (cells_0 : Nat → Int64) (owner_0 : Nat → Int32) (code_0 : Nat → Int32) (isOver_0 : Nat → Int32) (round_0 : Int32) (all_0 : Nat → Int64) (some_0 : Nat → Int64) (isRuled_0 : Nat → Int32) : Option (Int32 × Int32 × Int32 × (Nat → Int32) × (Nat → Int64) × (Nat → Int32) × (Nat → Int32) × (Nat → Int32) × Int32 × (Nat → Int64) × (Nat → Int64) × (Nat → Int32)) :=
  (fM_rules F many_0 table_0 s_0 cells_0 owner_0 code_0 isOver_0 round_0 all_0 some_0 isRuled_0).bind fun s1 =>
  (fM_isAgainst F s_0 s1.2.2.2.2.2.2.2.2.1).bind fun s2 =>
  if s2 = (0 : Int32) then
    (fM_sure F s_0 s1.1 s1.2.2.2.1 s1.2.2.2.2.2.1).bind fun s3 =>
    some (s3, (0 : Int32), s1.1, s1.2.1, s1.2.2.1, s1.2.2.2.1, s1.2.2.2.2.1, s1.2.2.2.2.2.1, s1.2.2.2.2.2.2.1, s1.2.2.2.2.2.2.2.1, s1.2.2.2.2.2.2.2.2.1, s1.2.2.2.2.2.2.2.2.2)
  else
    (fM_throwing (1 : Int32) (0 : Int32)).bind fun s4 =>
    some (s4.1, s4.2, s1.1, s1.2.1, s1.2.2.1, s1.2.2.2.1, s1.2.2.2.2.1, s1.2.2.2.2.2.1, s1.2.2.2.2.2.2.1, s1.2.2.2.2.2.2.2.1, s1.2.2.2.2.2.2.2.2.1, s1.2.2.2.2.2.2.2.2.2)
def fM_hint (F : Nat) (thrown_0 : Int32) (many_0 : Int32) (table_0 : Nat → Int32) (s_0 : Nat → Int32) (cells_0 : Nat → Int64) (owner_0 : Nat → Int32) (code_0 : Nat → Int32) (isOver_0 : Nat → Int32) (round_0 : Int32) (all_0 : Nat → Int64) (some_0 : Nat → Int64) (isRuled_0 : Nat → Int32) : Option (Int32 × Int32 × Int32 × (Nat → Int32) × (Nat → Int64) × (Nat → Int32) × (Nat → Int32) × (Nat → Int32) × Int32 × (Nat → Int64) × (Nat → Int64) × (Nat → Int32)) :=
  (fM_rules F many_0 table_0 s_0 cells_0 owner_0 code_0 isOver_0 round_0 all_0 some_0 isRuled_0).bind fun s1 =>
  (fM_isAgainst F s_0 s1.2.2.2.2.2.2.2.2.1).bind fun s2 =>
  if ¬ s2 = (0 : Int32) then
    (fM_throwing (1 : Int32) (0 : Int32)).bind fun s3 =>
    some (s3.1, s3.2, s1.1, s1.2.1, s1.2.2.1, s1.2.2.2.1, s1.2.2.2.2.1, s1.2.2.2.2.2.1, s1.2.2.2.2.2.2.1, s1.2.2.2.2.2.2.2.1, s1.2.2.2.2.2.2.2.2.1, s1.2.2.2.2.2.2.2.2.2)
  else
    (fM_firstSure F s_0 s1.1 s1.2.2.2.1 s1.2.2.2.2.2.1).bind fun s4 =>
    if ¬ s4 = (-1 : Int32) then
      (fM_firstSure F s_0 s1.1 s1.2.2.2.1 s1.2.2.2.2.2.1).bind fun s5 =>
      some (s5, (0 : Int32), s1.1, s1.2.1, s1.2.2.1, s1.2.2.2.1, s1.2.2.2.2.1, s1.2.2.2.2.2.1, s1.2.2.2.2.2.2.1, s1.2.2.2.2.2.2.2.1, s1.2.2.2.2.2.2.2.2.1, s1.2.2.2.2.2.2.2.2.2)
    else
      (fM_throwing (1 : Int32) (0 : Int32)).bind fun s6 =>
      some (s6.1, s6.2, s1.1, s1.2.1, s1.2.2.1, s1.2.2.2.1, s1.2.2.2.2.1, s1.2.2.2.2.2.1, s1.2.2.2.2.2.2.1, s1.2.2.2.2.2.2.2.1, s1.2.2.2.2.2.2.2.2.1, s1.2.2.2.2.2.2.2.2.2)
def fM_waysByNumbers (F : Nat) (thrown_0 : Int32) (many_0 : Int32) (table_0 : Nat → Int32) (s_0 : Nat → Int32) (cells_0 : Nat → Int64) (owner_0 : Nat → Int32) (code_0 : Nat → Int32) (last_0 : Nat → Int32) (chosen_0 : Nat → Int32) (corner_0 : Nat → Int32) (wide_0 : Nat → Int32) : Option (Int32 × Int32 × Int32 × (Nat → Int32) × (Nat → Int64) × (Nat → Int32) × (Nat → Int32) × (Nat → Int32) × (Nat → Int32) × (Nat → Int32) × (Nat → Int32)) :=
  (fM_ways F (50 : Int32) many_0 table_0 s_0 cells_0 owner_0 code_0 last_0 chosen_0 corner_0 wide_0).bind fun s1 =>
  some (s1.1, (0 : Int32), s1.2.1, s1.2.2.1, s1.2.2.2.1, s1.2.2.2.2.1, s1.2.2.2.2.2.1, s1.2.2.2.2.2.2.1, s1.2.2.2.2.2.2.2.1, s1.2.2.2.2.2.2.2.2.1, s1.2.2.2.2.2.2.2.2.2)
def fM_waysByCells (F : Nat) (thrown_0 : Int32) (many_0 : Int32) (table_0 : Nat → Int32) (s_0 : Nat → Int32) (cells_0 : Nat → Int64) (owner_0 : Nat → Int32) (code_0 : Nat → Int32) (last_0 : Nat → Int32) (chosen_0 : Nat → Int32) (corner_0 : Nat → Int32) (wide_0 : Nat → Int32) : Option (Int32 × Int32 × Int32 × (Nat → Int32) × (Nat → Int64) × (Nat → Int32) × (Nat → Int32) × (Nat → Int32) × (Nat → Int32) × (Nat → Int32) × (Nat → Int32)) :=
  (fM_ways F (50 : Int32) many_0 table_0 s_0 cells_0 owner_0 code_0 last_0 chosen_0 corner_0 wide_0).bind fun s1 =>
  some (s1.1, (0 : Int32), s1.2.1, s1.2.2.1, s1.2.2.2.1, s1.2.2.2.2.1, s1.2.2.2.2.2.1, s1.2.2.2.2.2.2.1, s1.2.2.2.2.2.2.2.1, s1.2.2.2.2.2.2.2.2.1, s1.2.2.2.2.2.2.2.2.2)
def fM_isUnique (F : Nat) (thrown_0 : Int32) (many_0 : Int32) (table_0 : Nat → Int32) (s_0 : Nat → Int32) (cells_0 : Nat → Int64) (owner_0 : Nat → Int32) (code_0 : Nat → Int32) (last_0 : Nat → Int32) (chosen_0 : Nat → Int32) (corner_0 : Nat → Int32) (wide_0 : Nat → Int32) : Option (Int32 × Int32 × Int32 × (Nat → Int32) × (Nat → Int64) × (Nat → Int32) × (Nat → Int32) × (Nat → Int32) × (Nat → Int32) × (Nat → Int32) × (Nat → Int32)) :=
  (fM_ways F (2 : Int32) many_0 table_0 s_0 cells_0 owner_0 code_0 last_0 chosen_0 corner_0 wide_0).bind fun s1 =>
  if ¬ s1.1 = (1 : Int32) then
    some ((0 : Int32), (0 : Int32), s1.2.1, s1.2.2.1, s1.2.2.2.1, s1.2.2.2.2.1, s1.2.2.2.2.2.1, s1.2.2.2.2.2.2.1, s1.2.2.2.2.2.2.2.1, s1.2.2.2.2.2.2.2.2.1, s1.2.2.2.2.2.2.2.2.2)
  else
    some ((1 : Int32), (0 : Int32), s1.2.1, s1.2.2.1, s1.2.2.2.1, s1.2.2.2.2.1, s1.2.2.2.2.2.1, s1.2.2.2.2.2.2.1, s1.2.2.2.2.2.2.2.1, s1.2.2.2.2.2.2.2.2.1, s1.2.2.2.2.2.2.2.2.2)
def fM_inFirst (F : Nat) (x1 : Int32) (x2 : Int32) (x3 : Int32) (s_0 : Nat → Int32) (thrown_0 : Int32) (many_0 : Int32) (table_0 : Nat → Int32) (cells_0 : Nat → Int64) (owner_0 : Nat → Int32) (code_0 : Nat → Int32) (last_0 : Nat → Int32) (chosen_0 : Nat → Int32) (corner_0 : Nat → Int32) (wide_0 : Nat → Int32) : Option (Int32 × Int32 × Int32 × (Nat → Int32) × (Nat → Int64) × (Nat → Int32) × (Nat → Int32) × (Nat → Int32) × (Nat → Int32) × (Nat → Int32) × (Nat → Int32)) :=
  (fM_isThere x1 x2 (0 : Int32) s_0 thrown_0).bind fun s1 =>
  if ¬ s1.1 = (0 : Int32) then
    (fM_ways F (1 : Int32) many_0 table_0 s_0 cells_0 owner_0 code_0 last_0 chosen_0 corner_0 wide_0).bind fun s2 =>
    if ¬ s2.1 = (0 : Int32) then
      if x3 = (0 : Int32) then
        (o_rd 42 s2.2.2.2.2.2.2.2.2.2 (((7 : Int32) * x1) + x2)).bind fun v3 =>
        some (v3, s1.2, s2.2.1, s2.2.2.1, s2.2.2.2.1, s2.2.2.2.2.1, s2.2.2.2.2.2.1, s2.2.2.2.2.2.2.1, s2.2.2.2.2.2.2.2.1, s2.2.2.2.2.2.2.2.2.1, s2.2.2.2.2.2.2.2.2.2)
      else
        (o_rd 42 s2.2.2.2.2.2.2.2.2.1 (((7 : Int32) * x1) + x2)).bind fun v4 =>
        some (v4, s1.2, s2.2.1, s2.2.2.1, s2.2.2.2.1, s2.2.2.2.2.1, s2.2.2.2.2.2.1, s2.2.2.2.2.2.2.1, s2.2.2.2.2.2.2.2.1, s2.2.2.2.2.2.2.2.2.1, s2.2.2.2.2.2.2.2.2.2)
    else
      (fM_throwing (2 : Int32) s1.2).bind fun s5 =>
      some (s5.1, s5.2, s2.2.1, s2.2.2.1, s2.2.2.2.1, s2.2.2.2.2.1, s2.2.2.2.2.2.1, s2.2.2.2.2.2.2.1, s2.2.2.2.2.2.2.2.1, s2.2.2.2.2.2.2.2.2.1, s2.2.2.2.2.2.2.2.2.2)
  else
    some ((0 : Int32), s1.2, many_0, table_0, cells_0, owner_0, code_0, last_0, chosen_0, corner_0, wide_0)
def fM_sizeInFirst (F : Nat) (x1 : Int32) (x2 : Int32) (s_0 : Nat → Int32) (thrown_0 : Int32) (many_0 : Int32) (table_0 : Nat → Int32) (cells_0 : Nat → Int64) (owner_0 : Nat → Int32) (code_0 : Nat → Int32) (last_0 : Nat → Int32) (chosen_0 : Nat → Int32) (corner_0 : Nat → Int32) (wide_0 : Nat → Int32) : Option (Int32 × Int32 × Int32 × (Nat → Int32) × (Nat → Int64) × (Nat → Int32) × (Nat → Int32) × (Nat → Int32) × (Nat → Int32) × (Nat → Int32) × (Nat → Int32)) :=
  (fM_inFirst F x1 x2 (0 : Int32) s_0 thrown_0 many_0 table_0 cells_0 owner_0 code_0 last_0 chosen_0 corner_0 wide_0).bind fun s1 =>
  some (s1.1, s1.2.1, s1.2.2.1, s1.2.2.2.1, s1.2.2.2.2.1, s1.2.2.2.2.2.1, s1.2.2.2.2.2.2.1, s1.2.2.2.2.2.2.2.1, s1.2.2.2.2.2.2.2.2.1, s1.2.2.2.2.2.2.2.2.2.1, s1.2.2.2.2.2.2.2.2.2.2)
def fM_cornerInFirst (F : Nat) (x1 : Int32) (x2 : Int32) (s_0 : Nat → Int32) (thrown_0 : Int32) (many_0 : Int32) (table_0 : Nat → Int32) (cells_0 : Nat → Int64) (owner_0 : Nat → Int32) (code_0 : Nat → Int32) (last_0 : Nat → Int32) (chosen_0 : Nat → Int32) (corner_0 : Nat → Int32) (wide_0 : Nat → Int32) : Option (Int32 × Int32 × Int32 × (Nat → Int32) × (Nat → Int64) × (Nat → Int32) × (Nat → Int32) × (Nat → Int32) × (Nat → Int32) × (Nat → Int32) × (Nat → Int32)) :=
  (fM_inFirst F x1 x2 (1 : Int32) s_0 thrown_0 many_0 table_0 cells_0 owner_0 code_0 last_0 chosen_0 corner_0 wide_0).bind fun s1 =>
  some (s1.1, s1.2.1, s1.2.2.1, s1.2.2.2.1, s1.2.2.2.2.1, s1.2.2.2.2.2.1, s1.2.2.2.2.2.2.1, s1.2.2.2.2.2.2.2.1, s1.2.2.2.2.2.2.2.2.1, s1.2.2.2.2.2.2.2.2.2.1, s1.2.2.2.2.2.2.2.2.2.2)
def fM_isSame_L4 (F : Nat) (l1 : Int32) (s_0 : Nat → Int32) (corner_0 : Nat → Int32) : Nat → Int32 → Int32 → Option (Int32 × Int32)
  | 0, _, _ => none
  | N + 1, l2, l3 =>
    if (42 : Int32) ≤ l3 then
      some (l2, l3)
    else
      (show Option (Int32) from
        if l2 = (0 : Int32) then
          some (0 : Int32)
        else
          (o_rd 84 s_0 ((42 : Int32) + l3)).bind fun v1 =>
          (show Option (Int32) from
            if ¬ v1 = (l1 + (1 : Int32)) then
              some (0 : Int32)
            else
              some (1 : Int32)).bind fun j2 =>
          (o_rd 42 corner_0 l3).bind fun v3 =>
          (show Option (Int32) from
            if ¬ v3 = l1 then
              some (0 : Int32)
            else
              some (1 : Int32)).bind fun j4 =>
          if ¬ j2 = j4 then
            some (0 : Int32)
          else
            some (1 : Int32)).bind fun j5 =>
      fM_isSame_L4 F l1 s_0 corner_0 N j5 (l3 + (1 : Int32))
def fM_isSame (F : Nat) (x1 : Int32) (s_0 : Nat → Int32) (corner_0 : Nat → Int32) : Option (Int32) :=
  (fM_isSame_L4 F x1 s_0 corner_0 F (1 : Int32) (0 : Int32)).bind fun r6 =>
  (o_z r6.1).bind fun z7 =>
  some z7
def fM_strayFields_L7 (F : Nat) : Nat → Int32 → (Nat → Int32) → (Nat → Int32) → Option (Int32 × (Nat → Int32) × (Nat → Int32))
  | 0, _, _, _ => none
  | N + 1, l1, s_0, aside_0 =>
    if (42 : Int32) ≤ l1 then
      some (l1, s_0, aside_0)
    else
      (o_rd 84 s_0 ((42 : Int32) + l1)).bind fun v1 =>
      (o_wrI 42 aside_0 l1 v1).bind fun w2 =>
      (o_wrI 84 s_0 ((42 : Int32) + l1) (0 : Int32)).bind fun w3 =>
      fM_strayFields_L7 F N (l1 + (1 : Int32)) w3 w2
def fM_strayFields_L52 (F : Nat) (aside_0 : Nat → Int32) : Nat → Int32 → (Nat → Int32) → Option (Int32 × (Nat → Int32))
  | 0, _, _ => none
  | N + 1, l2, s_0 =>
    if (42 : Int32) ≤ l2 then
      some (l2, s_0)
    else
      (o_rd 42 aside_0 l2).bind fun v6 =>
      (o_wrI 84 s_0 ((42 : Int32) + l2) v6).bind fun w7 =>
      fM_strayFields_L52 F aside_0 N (l2 + (1 : Int32)) w7
def fM_strayFields_L93 (F : Nat) (s_0 : Nat → Int32) (corner_0 : Nat → Int32) : Nat → Int32 → Int32 → Option (Int32 × Int32)
  | 0, _, _ => none
  | N + 1, l2, l3 =>
    if (42 : Int32) ≤ l3 then
      some (l2, l3)
    else
      (o_rd 84 s_0 ((42 : Int32) + l3)).bind fun v9 =>
      (show Option (Int32) from
        if ¬ v9 = (l3 + (1 : Int32)) then
          some (0 : Int32)
        else
          (o_rd 42 corner_0 l3).bind fun v10 =>
          if ¬ v10 = l3 then
            some (1 : Int32)
          else
            (fM_isSame F l3 s_0 corner_0).bind fun s11 =>
            if ¬ s11 = (0 : Int32) then
              some (0 : Int32)
            else
              some (1 : Int32)).bind fun j12 =>
      fM_strayFields_L93 F s_0 corner_0 N (l2 + j12) (l3 + (1 : Int32))
def fM_strayFields (F : Nat) (thrown_0 : Int32) (s_0 : Nat → Int32) (aside_0 : Nat → Int32) (many_0 : Int32) (table_0 : Nat → Int32) (cells_0 : Nat → Int64) (owner_0 : Nat → Int32) (code_0 : Nat → Int32) (last_0 : Nat → Int32) (chosen_0 : Nat → Int32) (corner_0 : Nat → Int32) (wide_0 : Nat → Int32) : Option (Int32 × Int32 × (Nat → Int32) × (Nat → Int32) × Int32 × (Nat → Int32) × (Nat → Int64) × (Nat → Int32) × (Nat → Int32) × (Nat → Int32) × (Nat → Int32) × (Nat → Int32) × (Nat → Int32)) :=
  (fM_strayFields_L7 F F (0 : Int32) s_0 aside_0).bind fun r4 =>
  (fM_ways F (1 : Int32) many_0 table_0 r4.2.1 cells_0 owner_0 code_0 last_0 chosen_0 corner_0 wide_0).bind fun s5 =>
  (fM_strayFields_L52 F r4.2.2 F (0 : Int32) r4.2.1).bind fun r8 =>
  if ¬ s5.1 = (0 : Int32) then
    (fM_strayFields_L93 F r8.2 s5.2.2.2.2.2.2.2.2.1 F (0 : Int32) (0 : Int32)).bind fun r13 =>
    some (r13.1, (0 : Int32), r4.2.2, r8.2, s5.2.1, s5.2.2.1, s5.2.2.2.1, s5.2.2.2.2.1, s5.2.2.2.2.2.1, s5.2.2.2.2.2.2.1, s5.2.2.2.2.2.2.2.1, s5.2.2.2.2.2.2.2.2.1, s5.2.2.2.2.2.2.2.2.2)
  else
    (fM_throwing (1 : Int32) (0 : Int32)).bind fun s14 =>
    some (s14.1, s14.2, r4.2.2, r8.2, s5.2.1, s5.2.2.1, s5.2.2.2.1, s5.2.2.2.2.1, s5.2.2.2.2.2.1, s5.2.2.2.2.2.2.1, s5.2.2.2.2.2.2.2.1, s5.2.2.2.2.2.2.2.2.1, s5.2.2.2.2.2.2.2.2.2)
def fM_mean (F : Nat) (s_0 : Nat → Int32) (many_0 : Int32) : Option (UInt64) :=
  (fM_numbered F s_0).bind fun s1 =>
  (fM_taken F s_0).bind fun s2 =>
  (fM_bits F (s1 &&& (s2 ^^^ (-1 : Int64)))).bind fun s3 =>
  if ¬ s3 = (0 : Int32) then
    (o_nn (FP.ddiv (FP.i2d many_0) (FP.i2d s3))).bind fun v4 =>
    some v4
  else
    some FP.dconst0
def fM_meanPossible (F : Nat) (thrown_0 : Int32) (many_0 : Int32) (table_0 : Nat → Int32) (s_0 : Nat → Int32) (cells_0 : Nat → Int64) (owner_0 : Nat → Int32) (code_0 : Nat → Int32) : Option (UInt64 × Int32 × Int32 × (Nat → Int32) × (Nat → Int64) × (Nat → Int32) × (Nat → Int32)) :=
  (fM_finds F many_0 table_0 s_0 cells_0 owner_0 code_0).bind fun s1 =>
  (fM_mean F s_0 s1.1).bind fun s2 =>
  some (s2, (0 : Int32), s1.1, s1.2.1, s1.2.2.1, s1.2.2.2.1, s1.2.2.2.2)
def fM_bitsOf_L14 (F : Nat) : Nat → UInt64 → Int32 → Option (UInt64 × Int32)
  | 0, _, _ => none
  | N + 1, l4, l6 =>
    if (Op.cmpValue (FP.dcmp l4 (0x4000000000000000 : UInt64)) .l) < (0 : Int32) then
      some (l4, l6)
    else
      (o_nn (FP.ddiv l4 (0x4000000000000000 : UInt64))).bind fun v1 =>
      fM_bitsOf_L14 F N v1 (l6 + (1 : Int32))
def fM_bitsOf_L37 (F : Nat) : Nat → UInt64 → Int32 → Option (UInt64 × Int32)
  | 0, _, _ => none
  | N + 1, l4, l6 =>
    if (0 : Int32) ≤ (Op.cmpValue (FP.dcmp l4 FP.dconst1) .g) then
      some (l4, l6)
    else
      (o_nn (FP.dmul l4 (0x4000000000000000 : UInt64))).bind fun v3 =>
      fM_bitsOf_L37 F N v3 (l6 + (-1 : Int32))
def fM_bitsOf_L72 (F : Nat) (l2 : Int32) : Nat → UInt64 → Int64 → Int32 → Option (UInt64 × Int64 × Int32)
  | 0, _, _, _ => none
  | N + 1, l7, l9, l11 =>
    if l2 ≤ l11 then
      some (l7, l9, l11)
    else
      (o_nn (FP.dmul l7 (0x4000000000000000 : UInt64))).bind fun v6 =>
      (show Option (Int64) from
        if (Op.cmpValue (FP.dcmp v6 FP.dconst1) .l) < (0 : Int32) then
          some (0 : Int64)
        else
          some (1 : Int64)).bind fun j7 =>
      (o_nn (FP.dsub v6 (FP.l2d j7))).bind fun v8 =>
      fM_bitsOf_L72 F l2 N v8 (((2 : Int64) * l9) + j7) (l11 + (1 : Int32))
def fM_bitsOf (F : Nat) (x0 : UInt64) (x1 : Int32) (x2 : Int32) : Option (Int64) :=
  if ¬ (Op.cmpValue (FP.dcmp x0 FP.dconst0) .l) = (0 : Int32) then
    (fM_bitsOf_L14 F F x0 x2).bind fun r2 =>
    (fM_bitsOf_L37 F F r2.1 r2.2).bind fun r4 =>
    (o_nn (FP.dsub r4.1 FP.dconst1)).bind fun v5 =>
    (fM_bitsOf_L72 F x1 F v5 r4.2.toInt64 (0 : Int32)).bind fun r9 =>
    some r9.2.1
  else
    some (0 : Int64)
def fM_mix (x1 : Int64) (hash_0 : Int64) : Option (Int64) :=
  some (((31 : Int64) * hash_0) + x1)
def fM_digest_L92 (F : Nat) (l1 : Int32) (many_0 : Int32) (owner_0 : Nat → Int32) (code_0 : Nat → Int32) : Nat → Int32 → Int64 → Option (Int32 × Int64)
  | 0, _, _ => none
  | N + 1, l2, hash_0 =>
    if many_0 ≤ l2 then
      some (l2, hash_0)
    else
      (o_rd 1200 owner_0 l2).bind fun v13 =>
      (show Option (Int64) from
        if ¬ v13 = l1 then
          some hash_0
        else
          (o_rd 1200 code_0 l2).bind fun v14 =>
          (fM_mix v14.toInt64 hash_0).bind fun s15 =>
          some s15).bind fun j16 =>
      fM_digest_L92 F l1 many_0 owner_0 code_0 N (l2 + (1 : Int32)) j16
def fM_digest_L18 (F : Nat) (many_0 : Int32) (s_0 : Nat → Int32) (cells_0 : Nat → Int64) (owner_0 : Nat → Int32) (code_0 : Nat → Int32) (isOver_0 : Nat → Int32) : Nat → Int32 → Int64 → Option (Int32 × Int64)
  | 0, _, _ => none
  | N + 1, l1, hash_0 =>
    if (42 : Int32) ≤ l1 then
      some (l1, hash_0)
    else
      (o_rd 84 s_0 l1).bind fun v2 =>
      (fM_mix v2.toInt64 hash_0).bind fun s3 =>
      (o_rd 84 s_0 ((42 : Int32) + l1)).bind fun v4 =>
      (show Option (Int64) from
        if v4 ≤ (0 : Int32) then
          some (0 : Int64)
        else
          (fM_fieldOf F l1 s_0).bind fun s5 =>
          (fM_bits F s5).bind fun s6 =>
          some (s6 + (1 : Int32)).toInt64).bind fun j7 =>
      (fM_mix j7 s3).bind fun s8 =>
      (o_rd 84 s_0 ((42 : Int32) + l1)).bind fun v9 =>
      (fM_mix v9.toInt64 s8).bind fun s10 =>
      (fM_countOf F l1 many_0 owner_0).bind fun s11 =>
      (fM_mix s11.toInt64 s10).bind fun s12 =>
      (fM_digest_L92 F l1 many_0 owner_0 code_0 F (0 : Int32) s12).bind fun r17 =>
      (fM_covering F l1 many_0 cells_0).bind fun s18 =>
      (fM_mix s18.toInt64 r17.2).bind fun s19 =>
      (fM_claiming F l1 many_0 cells_0 owner_0).bind fun s20 =>
      (fM_mix s20.toInt64 s19).bind fun s21 =>
      (fM_leftIn F l1 many_0 owner_0 isOver_0).bind fun s22 =>
      (fM_mix s22.toInt64 s21).bind fun s23 =>
      fM_digest_L18 F many_0 s_0 cells_0 owner_0 code_0 isOver_0 N (l1 + (1 : Int32)) s23
def fM_digest_L312 (F : Nat) (l2 : Int32) (corner_0 : Nat → Int32) (wide_0 : Nat → Int32) : Nat → Int32 → Int64 → Option (Int32 × Int64)
  | 0, _, _ => none
  | N + 1, l3, hash_0 =>
    if (42 : Int32) ≤ l3 then
      some (l3, hash_0)
    else
      if l2 ≤ (0 : Int32) then
        some (l3, hash_0)
      else
        (o_rd 42 wide_0 l3).bind fun v51 =>
        (fM_mix v51.toInt64 hash_0).bind fun s52 =>
        (o_rd 42 corner_0 l3).bind fun v53 =>
        (fM_mix v53.toInt64 s52).bind fun s54 =>
        fM_digest_L312 F l2 corner_0 wide_0 N (l3 + (1 : Int32)) s54
def fM_digest_L422 (F : Nat) (length_0 : Int32) (buffer_0 : Nat → Int32) : Nat → Int32 → Int64 → Option (Int32 × Int64)
  | 0, _, _ => none
  | N + 1, l3, hash_0 =>
    if length_0 ≤ l3 then
      some (l3, hash_0)
    else
      (o_rd 60 buffer_0 l3).bind fun v67 =>
      (fM_mix v67.toInt64 hash_0).bind fun s68 =>
      fM_digest_L422 F length_0 buffer_0 N (l3 + (1 : Int32)) s68
def fM_digest (F : Nat) (thrown_0 : Int32) (hash_0 : Int64) (many_0 : Int32) (table_0 : Nat → Int32) (s_0 : Nat → Int32) (cells_0 : Nat → Int64) (owner_0 : Nat → Int32) (code_0 : Nat → Int32) (isOver_0 : Nat → Int32) (round_0 : Int32) (all_0 : Nat → Int64) (some_0 : Nat → Int64) (isRuled_0 : Nat → Int32) (last_0 : Nat → Int32) (chosen_0 : Nat → Int32) (corner_0 : Nat → Int32) (wide_0 : Nat → Int32) (known_0 : Int32) (isKept_0 : Nat → Int32) (length_0 : Int32) (buffer_0 : Nat → Int32) : Option (Int64 × Int32 × Int64 × Int32 × (Nat → Int32) × (Nat → Int64) × (Nat → Int32) × (Nat → Int32) × (Nat → Int32) × Int32 × (Nat → Int64) × (Nat → Int64) × (Nat → Int32) × (Nat → Int32) × (Nat → Int32) × (Nat → Int32) × (Nat → Int32)) :=
  (fM_rules F many_0 table_0 s_0 cells_0 owner_0 code_0 isOver_0 round_0 all_0 some_0 isRuled_0).bind fun s1 =>
  (fM_digest_L18 F s1.1 s_0 s1.2.2.1 s1.2.2.2.1 s1.2.2.2.2.1 s1.2.2.2.2.2.1 F (0 : Int32) (4421 : Int64)).bind fun r24 =>
  (fM_numbered F s_0).bind fun s25 =>
  (fM_bits F s25).bind fun s26 =>
  (fM_mix s26.toInt64 r24.2).bind fun s27 =>
  (fM_total F s_0).bind fun s28 =>
  (fM_mix s28.toInt64 s27).bind fun s29 =>
  (fM_allFields F s_0).bind fun s30 =>
  (fM_mix s30.toInt64 s29).bind fun s31 =>
  (fM_taken F s_0).bind fun s32 =>
  (fM_bits F s32).bind fun s33 =>
  (fM_mix ((42 : Int32) - s33).toInt64 s31).bind fun s34 =>
  (fM_mix s1.1.toInt64 s34).bind fun s35 =>
  (fM_mix s1.2.2.2.2.2.2.1.toInt64 s35).bind fun s36 =>
  (fM_leftAll F s1.1 s1.2.2.2.2.2.1).bind fun s37 =>
  (fM_mix s37.toInt64 s36).bind fun s38 =>
  (fM_isAgainst F s_0 s1.2.2.2.2.2.2.2.2.1).bind fun s39 =>
  (show Option (Int64) from
    if s39 = (0 : Int32) then
      some (0 : Int64)
    else
      some (1 : Int64)).bind fun j40 =>
  (fM_mix j40 s38).bind fun s41 =>
  (show Option (Int64) from
    if s39 = (0 : Int32) then
      (fM_sure F s_0 s1.1 s1.2.2.2.1 s1.2.2.2.2.2.1).bind fun s42 =>
      some (s42 + (1 : Int32)).toInt64
    else
      some (0 : Int64)).bind fun j43 =>
  (fM_mix j43 s41).bind fun s44 =>
  (show Option (Int64) from
    if s39 = (0 : Int32) then
      (fM_firstSure F s_0 s1.1 s1.2.2.2.1 s1.2.2.2.2.2.1).bind fun s45 =>
      some (s45 + (1 : Int32)).toInt64
    else
      some (0 : Int64)).bind fun j46 =>
  (fM_mix j46 s44).bind fun s47 =>
  (fM_ways F (50 : Int32) s1.1 s1.2.1 s_0 s1.2.2.1 s1.2.2.2.1 s1.2.2.2.2.1 last_0 chosen_0 corner_0 wide_0).bind fun s48 =>
  (fM_mix s48.1.toInt64 s47).bind fun s49 =>
  (fM_mix s48.1.toInt64 s49).bind fun s50 =>
  (fM_digest_L312 F s48.1 s48.2.2.2.2.2.2.2.2.1 s48.2.2.2.2.2.2.2.2.2 F (0 : Int32) s50).bind fun r55 =>
  (fM_mix known_0.toInt64 r55.2).bind fun s56 =>
  (fM_mean F s_0 s48.2.1).bind fun s57 =>
  (fM_bitsOf F s57 (52 : Int32) (1023 : Int32)).bind fun s58 =>
  (fM_mix s58 s56).bind fun s59 =>
  (o_rd 2 isKept_0 (0 : Int32)).bind fun v60 =>
  (show Option (Int64) from
    if v60 = (0 : Int32) then
      some (0 : Int64)
    else
      some (1 : Int64)).bind fun j61 =>
  (fM_mix j61 s59).bind fun s62 =>
  (o_rd 2 isKept_0 (1 : Int32)).bind fun v63 =>
  (show Option (Int64) from
    if v63 = (0 : Int32) then
      some (0 : Int64)
    else
      some (1 : Int64)).bind fun j64 =>
  (fM_mix j64 s62).bind fun s65 =>
  (fM_mix length_0.toInt64 s65).bind fun s66 =>
  (fM_digest_L422 F length_0 buffer_0 F (0 : Int32) s66).bind fun r69 =>
  some (r69.2, (0 : Int32), r69.2, s48.2.1, s48.2.2.1, s48.2.2.2.1, s48.2.2.2.2.1, s48.2.2.2.2.2.1, s1.2.2.2.2.2.1, s1.2.2.2.2.2.2.1, s1.2.2.2.2.2.2.2.1, s1.2.2.2.2.2.2.2.2.1, s1.2.2.2.2.2.2.2.2.2, s48.2.2.2.2.2.2.1, s48.2.2.2.2.2.2.2.1, s48.2.2.2.2.2.2.2.2.1, s48.2.2.2.2.2.2.2.2.2)
