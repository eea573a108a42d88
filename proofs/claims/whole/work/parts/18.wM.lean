def fM_thrown (thrown_0 : Int32) : Option (Int32) :=
  some thrown_0
abbrev wl_fM_thrown (cI cZ cJ cQ : ClassId) (a_0 a_0s a_0before a_0slots a_0isKept a_0buffer a_0cells a_0owner a_0code a_0table a_0isOver a_0isRuled a_0all a_0some a_0chosen a_0last a_0corner a_0wide a_0cuts a_0aside : Nat) (known_0 : Int32) (length_0 : Int32) (thrown_0 : Int32) (many_0 : Int32) (round_0 : Int32) (seed_0 : Int64) (hash_0 : Int64) : va_W := [(a_0, .inr (10, [.ref a_0s, .ref a_0before, .int known_0, .ref a_0slots, .ref a_0isKept, .ref a_0buffer, .int length_0, .int thrown_0, .ref a_0cells, .ref a_0owner, .ref a_0code, .int many_0, .ref a_0table, .ref a_0isOver, .ref a_0isRuled, .ref a_0all, .ref a_0some, .int round_0, .ref a_0chosen, .ref a_0last, .ref a_0corner, .ref a_0wide, .ref a_0cuts, .long seed_0, .ref a_0aside, .long hash_0]))]
def fM_throwing (x1 : Int32) (thrown_0 : Int32) : Option (Int32 × Int32) :=
  some ((0 : Int32), x1)
abbrev wl_fM_throwing (cI cZ cJ cQ : ClassId) (a_0 a_0s a_0before a_0slots a_0isKept a_0buffer a_0cells a_0owner a_0code a_0table a_0isOver a_0isRuled a_0all a_0some a_0chosen a_0last a_0corner a_0wide a_0cuts a_0aside : Nat) (known_0 : Int32) (length_0 : Int32) (thrown_0 : Int32) (many_0 : Int32) (round_0 : Int32) (seed_0 : Int64) (hash_0 : Int64) : va_W := [(a_0, .inr (10, [.ref a_0s, .ref a_0before, .int known_0, .ref a_0slots, .ref a_0isKept, .ref a_0buffer, .int length_0, .int thrown_0, .ref a_0cells, .ref a_0owner, .ref a_0code, .int many_0, .ref a_0table, .ref a_0isOver, .ref a_0isRuled, .ref a_0all, .ref a_0some, .int round_0, .ref a_0chosen, .ref a_0last, .ref a_0corner, .ref a_0wide, .ref a_0cuts, .long seed_0, .ref a_0aside, .long hash_0]))]
def fM_in (x0 : Int32) (x1 : Int32) (x2 : Int32) : Option (Int32) :=
  if x0 < x1 then
    some (0 : Int32)
  else
    if x2 < x0 then
      some (0 : Int32)
    else
      some (1 : Int32)
abbrev wl_fM_in (cI cZ cJ cQ : ClassId) : va_W := []
def fM_isCell (x0 : Int32) (x1 : Int32) : Option (Int32) :=
  (fM_in x0 (0 : Int32) (5 : Int32)).bind fun s1 =>
  if s1 = (0 : Int32) then
    some (0 : Int32)
  else
    (fM_in x1 (0 : Int32) (6 : Int32)).bind fun s2 =>
    if s2 = (0 : Int32) then
      some (0 : Int32)
    else
      some (1 : Int32)
abbrev wl_fM_isCell (cI cZ cJ cQ : ClassId) : va_W := []
def fM_save_L11 (F : Nat) : Nat → Int32 → (Nat → Int32) → Option (Int32 × (Nat → Int32))
  | 0, _, _ => none
  | N + 1, l1, before_0 =>
    if (420 : Int32) ≤ l1 then
      some (l1, before_0)
    else
      (o_rd 504 before_0 ((84 : Int32) + l1)).bind fun v1 =>
      (o_wrI 504 before_0 l1 v1).bind fun w2 =>
      fM_save_L11 F N (l1 + (1 : Int32)) w2
def fM_save_L51 (F : Nat) (known_0 : Int32) (s_0 : Nat → Int32) : Nat → Int32 → (Nat → Int32) → Option (Int32 × (Nat → Int32))
  | 0, _, _ => none
  | N + 1, l1, before_0 =>
    if (84 : Int32) ≤ l1 then
      some (l1, before_0)
    else
      (o_rd 84 s_0 l1).bind fun v5 =>
      (o_wrI 504 before_0 (((84 : Int32) * known_0) + l1) v5).bind fun w6 =>
      fM_save_L51 F known_0 s_0 N (l1 + (1 : Int32)) w6
def fM_save (F : Nat) (known_0 : Int32) (before_0 : Nat → Int32) (s_0 : Nat → Int32) : Option ((Nat → Int32) × Int32) :=
  (show Option (Int32 × (Nat → Int32)) from
    if ¬ known_0 = (6 : Int32) then
      some (known_0, before_0)
    else
      (fM_save_L11 F F (0 : Int32) before_0).bind fun r3 =>
      some ((known_0 - (1 : Int32)), r3.2)).bind fun j4 =>
  (fM_save_L51 F j4.1 s_0 F (0 : Int32) j4.2).bind fun r7 =>
  some (r7.2, (j4.1 + (1 : Int32)))
abbrev wl_fM_save (cI cZ cJ cQ : ClassId) (a_0 a_0before a_0s a_0slots a_0isKept a_0buffer a_0cells a_0owner a_0code a_0table a_0isOver a_0isRuled a_0all a_0some a_0chosen a_0last a_0corner a_0wide a_0cuts a_0aside : Nat) (known_0 : Int32) (length_0 : Int32) (thrown_0 : Int32) (many_0 : Int32) (round_0 : Int32) (seed_0 : Int64) (hash_0 : Int64) (before_0 : Nat → Int32) (s_0 : Nat → Int32) : va_W := [(a_0, .inr (10, [.ref a_0s, .ref a_0before, .int known_0, .ref a_0slots, .ref a_0isKept, .ref a_0buffer, .int length_0, .int thrown_0, .ref a_0cells, .ref a_0owner, .ref a_0code, .int many_0, .ref a_0table, .ref a_0isOver, .ref a_0isRuled, .ref a_0all, .ref a_0some, .int round_0, .ref a_0chosen, .ref a_0last, .ref a_0corner, .ref a_0wide, .ref a_0cuts, .long seed_0, .ref a_0aside, .long hash_0])), (a_0before, .inl (cI, 504, .inl before_0)), (a_0s, .inl (cI, 84, .inl s_0))]
def fM_rectangle_L15 (F : Nat) (l3 : Int32) (l6 : Int32) : Nat → Int64 → Int32 → Option (Int64 × Int32)
  | 0, _, _ => none
  | N + 1, l4, l7 =>
    if l3 < l7 then
      some (l4, l7)
    else
      fM_rectangle_L15 F l3 l6 N (l4 ||| ((1 : Int64) <<< ((((7 : Int32) * l6) + l7).toInt64 &&& 63))) (l7 + (1 : Int32))
def fM_rectangle_L6 (F : Nat) (l1 : Int32) (l2 : Int32) (l3 : Int32) : Nat → Int64 → Int32 → Option (Int64 × Int32)
  | 0, _, _ => none
  | N + 1, l4, l6 =>
    if l2 < l6 then
      some (l4, l6)
    else
      (fM_rectangle_L15 F l3 l6 F l4 l1).bind fun r1 =>
      fM_rectangle_L6 F l1 l2 l3 N r1.1 (l6 + (1 : Int32))
def fM_rectangle (F : Nat) (x0 : Int32) (x1 : Int32) (x2 : Int32) (x3 : Int32) : Option (Int64) :=
  (fM_rectangle_L6 F x1 x2 x3 F (0 : Int64) x0).bind fun r2 =>
  some r2.1
abbrev wl_fM_rectangle (cI cZ cJ cQ : ClassId) : va_W := []
def fM_has (x0 : Int64) (x1 : Int32) : Option (Int32) :=
  if ¬ ((x0 >>> (x1.toInt64 &&& 63)) &&& (1 : Int64)) = (1 : Int64) then
    some (0 : Int32)
  else
    some (1 : Int32)
abbrev wl_fM_has (cI cZ cJ cQ : ClassId) : va_W := []
def fM_bits_L4 (F : Nat) (l0 : Int64) : Nat → Int32 → Int32 → Option (Int32 × Int32)
  | 0, _, _ => none
  | N + 1, l2, l3 =>
    if (42 : Int32) ≤ l3 then
      some (l2, l3)
    else
      (fM_has l0 l3).bind fun s1 =>
      (show Option (Int32) from
        if s1 = (0 : Int32) then
          some (0 : Int32)
        else
          some (1 : Int32)).bind fun j2 =>
      fM_bits_L4 F l0 N (l2 + j2) (l3 + (1 : Int32))
def fM_bits (F : Nat) (x0 : Int64) : Option (Int32) :=
  (fM_bits_L4 F x0 F (0 : Int32) (0 : Int32)).bind fun r3 =>
  some r3.1
abbrev wl_fM_bits (cI cZ cJ cQ : ClassId) : va_W := []
def fM_lowest_L2 (F : Nat) (l0 : Int64) : Nat → Int32 → Option (Int32)
  | 0, _ => none
  | N + 1, l2 =>
    if (42 : Int32) ≤ l2 then
      some l2
    else
      (fM_has l0 l2).bind fun s1 =>
      if ¬ s1 = (0 : Int32) then
        some l2
      else
        fM_lowest_L2 F l0 N (l2 + (1 : Int32))
def fM_lowest (F : Nat) (x0 : Int64) : Option (Int32) :=
  (fM_lowest_L2 F x0 F (0 : Int32)).bind fun r2 =>
  some r2
abbrev wl_fM_lowest (cI cZ cJ cQ : ClassId) : va_W := []
def fM_taken_L4 (F : Nat) (s_0 : Nat → Int32) : Nat → Int64 → Int32 → Option (Int64 × Int32)
  | 0, _, _ => none
  | N + 1, l1, l3 =>
    if (42 : Int32) ≤ l3 then
      some (l1, l3)
    else
      (o_rd 84 s_0 ((42 : Int32) + l3)).bind fun v1 =>
      (show Option (Int64) from
        if v1 ≤ (0 : Int32) then
          some (0 : Int64)
        else
          some ((1 : Int64) <<< (l3.toInt64 &&& 63))).bind fun j2 =>
      fM_taken_L4 F s_0 N (l1 ||| j2) (l3 + (1 : Int32))
def fM_taken (F : Nat) (s_0 : Nat → Int32) : Option (Int64) :=
  (fM_taken_L4 F s_0 F (0 : Int64) (0 : Int32)).bind fun r3 =>
  some r3.1
abbrev wl_fM_taken (cI cZ cJ cQ : ClassId) (a_0 a_0s a_0before a_0slots a_0isKept a_0buffer a_0cells a_0owner a_0code a_0table a_0isOver a_0isRuled a_0all a_0some a_0chosen a_0last a_0corner a_0wide a_0cuts a_0aside : Nat) (known_0 : Int32) (length_0 : Int32) (thrown_0 : Int32) (many_0 : Int32) (round_0 : Int32) (seed_0 : Int64) (hash_0 : Int64) (s_0 : Nat → Int32) : va_W := [(a_0, .inr (10, [.ref a_0s, .ref a_0before, .int known_0, .ref a_0slots, .ref a_0isKept, .ref a_0buffer, .int length_0, .int thrown_0, .ref a_0cells, .ref a_0owner, .ref a_0code, .int many_0, .ref a_0table, .ref a_0isOver, .ref a_0isRuled, .ref a_0all, .ref a_0some, .int round_0, .ref a_0chosen, .ref a_0last, .ref a_0corner, .ref a_0wide, .ref a_0cuts, .long seed_0, .ref a_0aside, .long hash_0])), (a_0s, .inl (cI, 84, .inl s_0))]
def fM_numbered_L4 (F : Nat) (s_0 : Nat → Int32) : Nat → Int64 → Int32 → Option (Int64 × Int32)
  | 0, _, _ => none
  | N + 1, l1, l3 =>
    if (42 : Int32) ≤ l3 then
      some (l1, l3)
    else
      (o_rd 84 s_0 l3).bind fun v1 =>
      (show Option (Int64) from
        if v1 ≤ (0 : Int32) then
          some (0 : Int64)
        else
          some ((1 : Int64) <<< (l3.toInt64 &&& 63))).bind fun j2 =>
      fM_numbered_L4 F s_0 N (l1 ||| j2) (l3 + (1 : Int32))
def fM_numbered (F : Nat) (s_0 : Nat → Int32) : Option (Int64) :=
  (fM_numbered_L4 F s_0 F (0 : Int64) (0 : Int32)).bind fun r3 =>
  some r3.1
abbrev wl_fM_numbered (cI cZ cJ cQ : ClassId) (a_0 a_0s a_0before a_0slots a_0isKept a_0buffer a_0cells a_0owner a_0code a_0table a_0isOver a_0isRuled a_0all a_0some a_0chosen a_0last a_0corner a_0wide a_0cuts a_0aside : Nat) (known_0 : Int32) (length_0 : Int32) (thrown_0 : Int32) (many_0 : Int32) (round_0 : Int32) (seed_0 : Int64) (hash_0 : Int64) (s_0 : Nat → Int32) : va_W := [(a_0, .inr (10, [.ref a_0s, .ref a_0before, .int known_0, .ref a_0slots, .ref a_0isKept, .ref a_0buffer, .int length_0, .int thrown_0, .ref a_0cells, .ref a_0owner, .ref a_0code, .int many_0, .ref a_0table, .ref a_0isOver, .ref a_0isRuled, .ref a_0all, .ref a_0some, .int round_0, .ref a_0chosen, .ref a_0last, .ref a_0corner, .ref a_0wide, .ref a_0cuts, .long seed_0, .ref a_0aside, .long hash_0])), (a_0s, .inl (cI, 84, .inl s_0))]
def fM_fieldOf_L5 (F : Nat) (l1 : Int32) (s_0 : Nat → Int32) : Nat → Int64 → Int32 → Option (Int64 × Int32)
  | 0, _, _ => none
  | N + 1, l2, l4 =>
    if (42 : Int32) ≤ l4 then
      some (l2, l4)
    else
      (o_rd 84 s_0 ((42 : Int32) + l4)).bind fun v1 =>
      (o_rd 84 s_0 ((42 : Int32) + l1)).bind fun v2 =>
      (show Option (Int64) from
        if ¬ v1 = v2 then
          some (0 : Int64)
        else
          some ((1 : Int64) <<< (l4.toInt64 &&& 63))).bind fun j3 =>
      fM_fieldOf_L5 F l1 s_0 N (l2 ||| j3) (l4 + (1 : Int32))
def fM_fieldOf (F : Nat) (x1 : Int32) (s_0 : Nat → Int32) : Option (Int64) :=
  (fM_fieldOf_L5 F x1 s_0 F (0 : Int64) (0 : Int32)).bind fun r4 =>
  some r4.1
abbrev wl_fM_fieldOf (cI cZ cJ cQ : ClassId) (a_0 a_0s a_0before a_0slots a_0isKept a_0buffer a_0cells a_0owner a_0code a_0table a_0isOver a_0isRuled a_0all a_0some a_0chosen a_0last a_0corner a_0wide a_0cuts a_0aside : Nat) (known_0 : Int32) (length_0 : Int32) (thrown_0 : Int32) (many_0 : Int32) (round_0 : Int32) (seed_0 : Int64) (hash_0 : Int64) (s_0 : Nat → Int32) : va_W := [(a_0, .inr (10, [.ref a_0s, .ref a_0before, .int known_0, .ref a_0slots, .ref a_0isKept, .ref a_0buffer, .int length_0, .int thrown_0, .ref a_0cells, .ref a_0owner, .ref a_0code, .int many_0, .ref a_0table, .ref a_0isOver, .ref a_0isRuled, .ref a_0all, .ref a_0some, .int round_0, .ref a_0chosen, .ref a_0last, .ref a_0corner, .ref a_0wide, .ref a_0cuts, .long seed_0, .ref a_0aside, .long hash_0])), (a_0s, .inl (cI, 84, .inl s_0))]
def fM_allFields_L4 (F : Nat) (s_0 : Nat → Int32) : Nat → Int32 → Int32 → Option (Int32 × Int32)
  | 0, _, _ => none
  | N + 1, l1, l2 =>
    if (42 : Int32) ≤ l2 then
      some (l1, l2)
    else
      (o_rd 84 s_0 ((42 : Int32) + l2)).bind fun v1 =>
      (show Option (Int32) from
        if ¬ v1 = (l2 + (1 : Int32)) then
          some (0 : Int32)
        else
          some (1 : Int32)).bind fun j2 =>
      fM_allFields_L4 F s_0 N (l1 + j2) (l2 + (1 : Int32))
def fM_allFields (F : Nat) (s_0 : Nat → Int32) : Option (Int32) :=
  (fM_allFields_L4 F s_0 F (0 : Int32) (0 : Int32)).bind fun r3 =>
  some r3.1
abbrev wl_fM_allFields (cI cZ cJ cQ : ClassId) (a_0 a_0s a_0before a_0slots a_0isKept a_0buffer a_0cells a_0owner a_0code a_0table a_0isOver a_0isRuled a_0all a_0some a_0chosen a_0last a_0corner a_0wide a_0cuts a_0aside : Nat) (known_0 : Int32) (length_0 : Int32) (thrown_0 : Int32) (many_0 : Int32) (round_0 : Int32) (seed_0 : Int64) (hash_0 : Int64) (s_0 : Nat → Int32) : va_W := [(a_0, .inr (10, [.ref a_0s, .ref a_0before, .int known_0, .ref a_0slots, .ref a_0isKept, .ref a_0buffer, .int length_0, .int thrown_0, .ref a_0cells, .ref a_0owner, .ref a_0code, .int many_0, .ref a_0table, .ref a_0isOver, .ref a_0isRuled, .ref a_0all, .ref a_0some, .int round_0, .ref a_0chosen, .ref a_0last, .ref a_0corner, .ref a_0wide, .ref a_0cuts, .long seed_0, .ref a_0aside, .long hash_0])), (a_0s, .inl (cI, 84, .inl s_0))]
def fM_against (F : Nat) (x1 : Int64) (s_0 : Nat → Int32) : Option (Int32) :=
  (fM_numbered F s_0).bind fun s1 =>
  (fM_taken F s_0).bind fun s2 =>
  if (x1 &&& s2) = (0 : Int64) then
    if ¬ (x1 &&& s1) = (0 : Int64) then
      (fM_bits F (x1 &&& s1)).bind fun s3 =>
      if s3 ≤ (1 : Int32) then
        (fM_lowest F (x1 &&& s1)).bind fun s4 =>
        (o_rd 84 s_0 s4).bind fun v5 =>
        (fM_bits F x1).bind fun s6 =>
        if v5 = s6 then
          some (0 : Int32)
        else
          some (4 : Int32)
      else
        some (3 : Int32)
    else
      some (2 : Int32)
  else
    some (1 : Int32)
abbrev wl_fM_against (cI cZ cJ cQ : ClassId) (a_0 a_0s a_0before a_0slots a_0isKept a_0buffer a_0cells a_0owner a_0code a_0table a_0isOver a_0isRuled a_0all a_0some a_0chosen a_0last a_0corner a_0wide a_0cuts a_0aside : Nat) (known_0 : Int32) (length_0 : Int32) (thrown_0 : Int32) (many_0 : Int32) (round_0 : Int32) (seed_0 : Int64) (hash_0 : Int64) (s_0 : Nat → Int32) : va_W := [(a_0, .inr (10, [.ref a_0s, .ref a_0before, .int known_0, .ref a_0slots, .ref a_0isKept, .ref a_0buffer, .int length_0, .int thrown_0, .ref a_0cells, .ref a_0owner, .ref a_0code, .int many_0, .ref a_0table, .ref a_0isOver, .ref a_0isRuled, .ref a_0all, .ref a_0some, .int round_0, .ref a_0chosen, .ref a_0last, .ref a_0corner, .ref a_0wide, .ref a_0cuts, .long seed_0, .ref a_0aside, .long hash_0])), (a_0s, .inl (cI, 84, .inl s_0))]
def fM_draws_L8 (F : Nat) (l1 : Int64) (l3 : Int32) : Nat → Int32 → (Nat → Int32) → Option (Int32 × (Nat → Int32))
  | 0, _, _ => none
  | N + 1, l4, s_0 =>
    if (42 : Int32) ≤ l4 then
      some (l4, s_0)
    else
      (fM_has l1 l4).bind fun s2 =>
      (show Option (Int32) from
        if s2 = (0 : Int32) then
          (o_rd 84 s_0 ((42 : Int32) + l4)).bind fun v3 =>
          some v3
        else
          some (l3 + (1 : Int32))).bind fun j4 =>
      (o_wrI 84 s_0 ((42 : Int32) + l4) j4).bind fun w5 =>
      fM_draws_L8 F l1 l3 N (l4 + (1 : Int32)) w5
def fM_draws (F : Nat) (x1 : Int64) (s_0 : Nat → Int32) : Option ((Nat → Int32)) :=
  (fM_lowest F x1).bind fun s1 =>
  (fM_draws_L8 F x1 s1 F (0 : Int32) s_0).bind fun r6 =>
  some r6.2
abbrev wl_fM_draws (cI cZ cJ cQ : ClassId) (a_0 a_0s a_0before a_0slots a_0isKept a_0buffer a_0cells a_0owner a_0code a_0table a_0isOver a_0isRuled a_0all a_0some a_0chosen a_0last a_0corner a_0wide a_0cuts a_0aside : Nat) (known_0 : Int32) (length_0 : Int32) (thrown_0 : Int32) (many_0 : Int32) (round_0 : Int32) (seed_0 : Int64) (hash_0 : Int64) (s_0 : Nat → Int32) : va_W := [(a_0, .inr (10, [.ref a_0s, .ref a_0before, .int known_0, .ref a_0slots, .ref a_0isKept, .ref a_0buffer, .int length_0, .int thrown_0, .ref a_0cells, .ref a_0owner, .ref a_0code, .int many_0, .ref a_0table, .ref a_0isOver, .ref a_0isRuled, .ref a_0all, .ref a_0some, .int round_0, .ref a_0chosen, .ref a_0last, .ref a_0corner, .ref a_0wide, .ref a_0cuts, .long seed_0, .ref a_0aside, .long hash_0])), (a_0s, .inl (cI, 84, .inl s_0))]
def fM_lists_L36 (F : Nat) (l1 : Int32) (l2 : Int64) (l4 : Int64) (l7 : Int32) (l8 : Int32) (l9 : Int32) (s_0 : Nat → Int32) : Nat → Int32 → Int32 → (Nat → Int64) → (Nat → Int32) → (Nat → Int32) → (Nat → Int32) → Option (Int32 × Int32 × (Nat → Int64) × (Nat → Int32) × (Nat → Int32) × (Nat → Int32))
  | 0, _, _, _, _, _, _ => none
  | N + 1, l10, many_0, cells_0, owner_0, code_0, table_0 =>
    if (6 : Int32) ≤ l10 then
      some (l10, many_0, cells_0, owner_0, code_0, table_0)
    else
      (o_rd 84 s_0 l1).bind fun v1 =>
      (o_divI v1 ((l10 - l8) + (1 : Int32))).bind fun v2 =>
      (o_rd 84 s_0 l1).bind fun v3 =>
      (show Option (Int32) from
        if ¬ (v2 * ((l10 - l8) + (1 : Int32))) = v3 then
          some (0 : Int32)
        else
          if ((l9 + v2) - (1 : Int32)) < l7 then
            some (0 : Int32)
          else
            if (7 : Int32) ≤ ((l9 + v2) - (1 : Int32)) then
              some (0 : Int32)
            else
              some (1 : Int32)).bind fun j4 =>
      (show Option (Int64) from
        if j4 = (0 : Int32) then
          some (0 : Int64)
        else
          (fM_rectangle F l8 l9 l10 ((l9 + v2) - (1 : Int32))).bind fun s5 =>
          some s5).bind fun j6 =>
      (show Option (Int32 × (Nat → Int64) × (Nat → Int32) × (Nat → Int32) × (Nat → Int32)) from
        if j4 = (0 : Int32) then
          some (many_0, cells_0, owner_0, code_0, table_0)
        else
          if ¬ (j6 &&& l2) = ((1 : Int64) <<< (l1.toInt64 &&& 63)) then
            some (many_0, cells_0, owner_0, code_0, table_0)
          else
            if ¬ (j6 &&& l4) = (0 : Int64) then
              some (many_0, cells_0, owner_0, code_0, table_0)
            else
              (o_wrJ 1200 cells_0 many_0 j6).bind fun w7 =>
              (o_wrI 1200 owner_0 many_0 l1).bind fun w8 =>
              (o_wrI 1200 code_0 many_0 ((((42 : Int32) * (((7 : Int32) * l8) + l9)) + ((7 : Int32) * l10)) + ((l9 + v2) - (1 : Int32)))).bind fun w9 =>
              (o_wrI 252 table_0 (((6 : Int32) * (((7 : Int32) * l8) + l9)) + l10) many_0).bind fun w10 =>
              some ((many_0 + (1 : Int32)), w7, w8, w9, w10)).bind fun j11 =>
      fM_lists_L36 F l1 l2 l4 l7 l8 l9 s_0 N (l10 + (1 : Int32)) j11.1 j11.2.1 j11.2.2.1 j11.2.2.2.1 j11.2.2.2.2
def fM_lists_L25 (F : Nat) (l1 : Int32) (l2 : Int64) (l4 : Int64) (l6 : Int32) (l7 : Int32) (l8 : Int32) (s_0 : Nat → Int32) : Nat → Int32 → Int32 → (Nat → Int64) → (Nat → Int32) → (Nat → Int32) → (Nat → Int32) → Option (Int32 × Int32 × (Nat → Int64) × (Nat → Int32) × (Nat → Int32) × (Nat → Int32))
  | 0, _, _, _, _, _, _ => none
  | N + 1, l9, many_0, cells_0, owner_0, code_0, table_0 =>
    if l7 < l9 then
      some (l9, many_0, cells_0, owner_0, code_0, table_0)
    else
      (fM_lists_L36 F l1 l2 l4 l7 l8 l9 s_0 F l6 many_0 cells_0 owner_0 code_0 table_0).bind fun r12 =>
      fM_lists_L25 F l1 l2 l4 l6 l7 l8 s_0 N (l9 + (1 : Int32)) r12.2.1 r12.2.2.1 r12.2.2.2.1 r12.2.2.2.2.1 r12.2.2.2.2.2
def fM_lists_L15 (F : Nat) (l1 : Int32) (l2 : Int64) (l4 : Int64) (l6 : Int32) (l7 : Int32) (s_0 : Nat → Int32) : Nat → Int32 → Int32 → (Nat → Int64) → (Nat → Int32) → (Nat → Int32) → (Nat → Int32) → Option (Int32 × Int32 × (Nat → Int64) × (Nat → Int32) × (Nat → Int32) × (Nat → Int32))
  | 0, _, _, _, _, _, _ => none
  | N + 1, l8, many_0, cells_0, owner_0, code_0, table_0 =>
    if l6 < l8 then
      some (l8, many_0, cells_0, owner_0, code_0, table_0)
    else
      (fM_lists_L25 F l1 l2 l4 l6 l7 l8 s_0 F (0 : Int32) many_0 cells_0 owner_0 code_0 table_0).bind fun r13 =>
      fM_lists_L15 F l1 l2 l4 l6 l7 s_0 N (l8 + (1 : Int32)) r13.2.1 r13.2.2.1 r13.2.2.2.1 r13.2.2.2.2.1 r13.2.2.2.2.2
def fM_lists (F : Nat) (x1 : Int32) (x2 : Int64) (x3 : Int64) (s_0 : Nat → Int32) (many_0 : Int32) (cells_0 : Nat → Int64) (owner_0 : Nat → Int32) (code_0 : Nat → Int32) (table_0 : Nat → Int32) : Option ((Nat → Int64) × (Nat → Int32) × (Nat → Int32) × (Nat → Int32) × Int32) :=
  (fM_lists_L15 F x1 x2 x3 (x1 / (7 : Int32)) (x1 - x1 / (7 : Int32) * (7 : Int32)) s_0 F (0 : Int32) many_0 cells_0 owner_0 code_0 table_0).bind fun r14 =>
  some (r14.2.2.1, r14.2.2.2.1, r14.2.2.2.2.1, r14.2.2.2.2.2, r14.2.1)
abbrev wl_fM_lists (cI cZ cJ cQ : ClassId) (a_0 a_0s a_0cells a_0owner a_0code a_0table a_0before a_0slots a_0isKept a_0buffer a_0isOver a_0isRuled a_0all a_0some a_0chosen a_0last a_0corner a_0wide a_0cuts a_0aside : Nat) (known_0 : Int32) (length_0 : Int32) (thrown_0 : Int32) (many_0 : Int32) (round_0 : Int32) (seed_0 : Int64) (hash_0 : Int64) (s_0 : Nat → Int32) (cells_0 : Nat → Int64) (owner_0 : Nat → Int32) (code_0 : Nat → Int32) (table_0 : Nat → Int32) : va_W := [(a_0, .inr (10, [.ref a_0s, .ref a_0before, .int known_0, .ref a_0slots, .ref a_0isKept, .ref a_0buffer, .int length_0, .int thrown_0, .ref a_0cells, .ref a_0owner, .ref a_0code, .int many_0, .ref a_0table, .ref a_0isOver, .ref a_0isRuled, .ref a_0all, .ref a_0some, .int round_0, .ref a_0chosen, .ref a_0last, .ref a_0corner, .ref a_0wide, .ref a_0cuts, .long seed_0, .ref a_0aside, .long hash_0])), (a_0s, .inl (cI, 84, .inl s_0)), (a_0cells, .inl (cJ, 1200, .inr (.inl cells_0))), (a_0owner, .inl (cI, 1200, .inl owner_0)), (a_0code, .inl (cI, 1200, .inl code_0)), (a_0table, .inl (cI, 252, .inl table_0))]
def fM_finds_L7 (F : Nat) : Nat → Int32 → (Nat → Int32) → Option (Int32 × (Nat → Int32))
  | 0, _, _ => none
  | N + 1, l1, table_0 =>
    if (252 : Int32) ≤ l1 then
      some (l1, table_0)
    else
      (o_wrI 252 table_0 l1 (-1 : Int32)).bind fun w1 =>
      fM_finds_L7 F N (l1 + (1 : Int32)) w1
def fM_finds_L40 (F : Nat) (l1 : Int64) (l3 : Int64) (s_0 : Nat → Int32) : Nat → Int32 → Int32 → (Nat → Int64) → (Nat → Int32) → (Nat → Int32) → (Nat → Int32) → Option (Int32 × Int32 × (Nat → Int64) × (Nat → Int32) × (Nat → Int32) × (Nat → Int32))
  | 0, _, _, _, _, _, _ => none
  | N + 1, l5, many_0, cells_0, owner_0, code_0, table_0 =>
    if (42 : Int32) ≤ l5 then
      some (l5, many_0, cells_0, owner_0, code_0, table_0)
    else
      (o_rd 84 s_0 l5).bind fun v5 =>
      (show Option (Int32 × (Nat → Int64) × (Nat → Int32) × (Nat → Int32) × (Nat → Int32)) from
        if v5 ≤ (0 : Int32) then
          some (many_0, cells_0, owner_0, code_0, table_0)
        else
          (o_rd 84 s_0 ((42 : Int32) + l5)).bind fun v6 =>
          if ¬ v6 = (0 : Int32) then
            some (many_0, cells_0, owner_0, code_0, table_0)
          else
            (fM_lists F l5 l1 l3 s_0 many_0 cells_0 owner_0 code_0 table_0).bind fun s7 =>
            some (s7.2.2.2.2, s7.1, s7.2.1, s7.2.2.1, s7.2.2.2.1)).bind fun j8 =>
      fM_finds_L40 F l1 l3 s_0 N (l5 + (1 : Int32)) j8.1 j8.2.1 j8.2.2.1 j8.2.2.2.1 j8.2.2.2.2
def fM_finds (F : Nat) (many_0 : Int32) (table_0 : Nat → Int32) (s_0 : Nat → Int32) (cells_0 : Nat → Int64) (owner_0 : Nat → Int32) (code_0 : Nat → Int32) : Option (Int32 × (Nat → Int32) × (Nat → Int64) × (Nat → Int32) × (Nat → Int32)) :=
  (fM_finds_L7 F F (0 : Int32) table_0).bind fun r2 =>
  (fM_numbered F s_0).bind fun s3 =>
  (fM_taken F s_0).bind fun s4 =>
  (fM_finds_L40 F s3 s4 s_0 F (0 : Int32) (0 : Int32) cells_0 owner_0 code_0 r2.2).bind fun r9 =>
  some (r9.2.1, r9.2.2.2.2.2, r9.2.2.1, r9.2.2.2.1, r9.2.2.2.2.1)
abbrev wl_fM_finds (cI cZ cJ cQ : ClassId) (a_0 a_0table a_0s a_0cells a_0owner a_0code a_0before a_0slots a_0isKept a_0buffer a_0isOver a_0isRuled a_0all a_0some a_0chosen a_0last a_0corner a_0wide a_0cuts a_0aside : Nat) (known_0 : Int32) (length_0 : Int32) (thrown_0 : Int32) (many_0 : Int32) (round_0 : Int32) (seed_0 : Int64) (hash_0 : Int64) (table_0 : Nat → Int32) (s_0 : Nat → Int32) (cells_0 : Nat → Int64) (owner_0 : Nat → Int32) (code_0 : Nat → Int32) : va_W := [(a_0, .inr (10, [.ref a_0s, .ref a_0before, .int known_0, .ref a_0slots, .ref a_0isKept, .ref a_0buffer, .int length_0, .int thrown_0, .ref a_0cells, .ref a_0owner, .ref a_0code, .int many_0, .ref a_0table, .ref a_0isOver, .ref a_0isRuled, .ref a_0all, .ref a_0some, .int round_0, .ref a_0chosen, .ref a_0last, .ref a_0corner, .ref a_0wide, .ref a_0cuts, .long seed_0, .ref a_0aside, .long hash_0])), (a_0table, .inl (cI, 252, .inl table_0)), (a_0s, .inl (cI, 84, .inl s_0)), (a_0cells, .inl (cJ, 1200, .inr (.inl cells_0))), (a_0owner, .inl (cI, 1200, .inl owner_0)), (a_0code, .inl (cI, 1200, .inl code_0))]
def fM_tellsNumbers_L2 (F : Nat) : Nat → Int32 → (Nat → Int64) → (Nat → Int64) → Option (Int32 × (Nat → Int64) × (Nat → Int64))
  | 0, _, _, _ => none
  | N + 1, l1, all_0, some_0 =>
    if (42 : Int32) ≤ l1 then
      some (l1, all_0, some_0)
    else
      (o_wrJ 42 all_0 l1 (4398046511103 : Int64)).bind fun w1 =>
      (o_wrJ 42 some_0 l1 (0 : Int64)).bind fun w2 =>
      fM_tellsNumbers_L2 F N (l1 + (1 : Int32)) w1 w2
def fM_tellsNumbers_L32 (F : Nat) (many_0 : Int32) (isOver_0 : Nat → Int32) (owner_0 : Nat → Int32) (cells_0 : Nat → Int64) : Nat → Int32 → (Nat → Int64) → (Nat → Int64) → Option (Int32 × (Nat → Int64) × (Nat → Int64))
  | 0, _, _, _ => none
  | N + 1, l1, all_0, some_0 =>
    if many_0 ≤ l1 then
      some (l1, all_0, some_0)
    else
      (o_rd 1200 isOver_0 l1).bind fun v4 =>
      (show Option ((Nat → Int64) × (Nat → Int64)) from
        if ¬ v4 = (0 : Int32) then
          some (all_0, some_0)
        else
          (o_rd 1200 owner_0 l1).bind fun v5 =>
          (o_rd 42 all_0 v5).bind fun v6 =>
          (o_rd 1200 cells_0 l1).bind fun v7 =>
          (o_wrJ 42 all_0 v5 (v6 &&& v7)).bind fun w8 =>
          (o_rd 1200 owner_0 l1).bind fun v9 =>
          (o_rd 42 some_0 v9).bind fun v10 =>
          (o_rd 1200 cells_0 l1).bind fun v11 =>
          (o_wrJ 42 some_0 v9 (v10 ||| v11)).bind fun w12 =>
          some (w8, w12)).bind fun j13 =>
      fM_tellsNumbers_L32 F many_0 isOver_0 owner_0 cells_0 N (l1 + (1 : Int32)) j13.1 j13.2
def fM_tellsNumbers (F : Nat) (all_0 : Nat → Int64) (some_0 : Nat → Int64) (many_0 : Int32) (isOver_0 : Nat → Int32) (owner_0 : Nat → Int32) (cells_0 : Nat → Int64) : Option ((Nat → Int64) × (Nat → Int64)) :=
  (fM_tellsNumbers_L2 F F (0 : Int32) all_0 some_0).bind fun r3 =>
  (fM_tellsNumbers_L32 F many_0 isOver_0 owner_0 cells_0 F (0 : Int32) r3.2.1 r3.2.2).bind fun r14 =>
  some (r14.2.1, r14.2.2)
abbrev wl_fM_tellsNumbers (cI cZ cJ cQ : ClassId) (a_0 a_0all a_0some a_0isOver a_0owner a_0cells a_0s a_0before a_0slots a_0isKept a_0buffer a_0code a_0table a_0isRuled a_0chosen a_0last a_0corner a_0wide a_0cuts a_0aside : Nat) (known_0 : Int32) (length_0 : Int32) (thrown_0 : Int32) (many_0 : Int32) (round_0 : Int32) (seed_0 : Int64) (hash_0 : Int64) (all_0 : Nat → Int64) (some_0 : Nat → Int64) (isOver_0 : Nat → Int32) (owner_0 : Nat → Int32) (cells_0 : Nat → Int64) : va_W := [(a_0, .inr (10, [.ref a_0s, .ref a_0before, .int known_0, .ref a_0slots, .ref a_0isKept, .ref a_0buffer, .int length_0, .int thrown_0, .ref a_0cells, .ref a_0owner, .ref a_0code, .int many_0, .ref a_0table, .ref a_0isOver, .ref a_0isRuled, .ref a_0all, .ref a_0some, .int round_0, .ref a_0chosen, .ref a_0last, .ref a_0corner, .ref a_0wide, .ref a_0cuts, .long seed_0, .ref a_0aside, .long hash_0])), (a_0all, .inl (cJ, 42, .inr (.inl all_0))), (a_0some, .inl (cJ, 42, .inr (.inl some_0))), (a_0isOver, .inl (cZ, 1200, .inl isOver_0)), (a_0owner, .inl (cI, 1200, .inl owner_0)), (a_0cells, .inl (cJ, 1200, .inr (.inl cells_0)))]
def fM_isOut_L8 (F : Nat) (l1 : Int32) (owner_0 : Nat → Int32) (some_0 : Nat → Int64) (all_0 : Nat → Int64) (cells_0 : Nat → Int64) : Nat → Int64 → Int32 → Int32 → Option (Int64 × Int32 × Int32)
  | 0, _, _, _ => none
  | N + 1, l2, l4, l5 =>
    if (42 : Int32) ≤ l5 then
      some (l2, l4, l5)
    else
      (o_rd 1200 owner_0 l1).bind fun v1 =>
      (show Option (Int64 × Int32) from
        if l5 = v1 then
          some (l2, l4)
        else
          (o_rd 42 some_0 l5).bind fun v2 =>
          (show Option (Int32) from
            if ¬ l4 = (0 : Int32) then
              some (1 : Int32)
            else
              (o_rd 42 some_0 l5).bind fun v3 =>
              if v3 = (0 : Int64) then
                some (0 : Int32)
              else
                (o_rd 42 all_0 l5).bind fun v4 =>
                (o_rd 1200 cells_0 l1).bind fun v5 =>
                if (v4 &&& v5) = (0 : Int64) then
                  some (0 : Int32)
                else
                  some (1 : Int32)).bind fun j6 =>
          some ((l2 ||| v2), j6)).bind fun j7 =>
      fM_isOut_L8 F l1 owner_0 some_0 all_0 cells_0 N j7.1 j7.2 (l5 + (1 : Int32))
def fM_isOut (F : Nat) (x1 : Int32) (owner_0 : Nat → Int32) (some_0 : Nat → Int64) (all_0 : Nat → Int64) (cells_0 : Nat → Int64) : Option (Int32) :=
  (fM_isOut_L8 F x1 owner_0 some_0 all_0 cells_0 F (0 : Int64) (0 : Int32) (0 : Int32)).bind fun r8 =>
  if ¬ r8.2.1 = (0 : Int32) then
    some (1 : Int32)
  else
    (o_rd 1200 owner_0 x1).bind fun v9 =>
    (o_rd 42 some_0 v9).bind fun v10 =>
    (o_rd 1200 cells_0 x1).bind fun v11 =>
    if ((v10 &&& (r8.1 ^^^ (-1 : Int64))) &&& (v11 ^^^ (-1 : Int64))) = (0 : Int64) then
      some (0 : Int32)
    else
      some (1 : Int32)
abbrev wl_fM_isOut (cI cZ cJ cQ : ClassId) (a_0 a_0owner a_0some a_0all a_0cells a_0s a_0before a_0slots a_0isKept a_0buffer a_0code a_0table a_0isOver a_0isRuled a_0chosen a_0last a_0corner a_0wide a_0cuts a_0aside : Nat) (known_0 : Int32) (length_0 : Int32) (thrown_0 : Int32) (many_0 : Int32) (round_0 : Int32) (seed_0 : Int64) (hash_0 : Int64) (owner_0 : Nat → Int32) (some_0 : Nat → Int64) (all_0 : Nat → Int64) (cells_0 : Nat → Int64) : va_W := [(a_0, .inr (10, [.ref a_0s, .ref a_0before, .int known_0, .ref a_0slots, .ref a_0isKept, .ref a_0buffer, .int length_0, .int thrown_0, .ref a_0cells, .ref a_0owner, .ref a_0code, .int many_0, .ref a_0table, .ref a_0isOver, .ref a_0isRuled, .ref a_0all, .ref a_0some, .int round_0, .ref a_0chosen, .ref a_0last, .ref a_0corner, .ref a_0wide, .ref a_0cuts, .long seed_0, .ref a_0aside, .long hash_0])), (a_0owner, .inl (cI, 1200, .inl owner_0)), (a_0some, .inl (cJ, 42, .inr (.inl some_0))), (a_0all, .inl (cJ, 42, .inr (.inl all_0))), (a_0cells, .inl (cJ, 1200, .inr (.inl cells_0)))]
def fM_rules_L6 (F : Nat) (many_0 : Int32) : Nat → Int32 → (Nat → Int32) → Option (Int32 × (Nat → Int32))
  | 0, _, _ => none
  | N + 1, l1, isOver_0 =>
    if many_0 ≤ l1 then
      some (l1, isOver_0)
    else
      (o_wrZ 1200 isOver_0 l1 (0 : Int32)).bind fun w2 =>
      fM_rules_L6 F many_0 N (l1 + (1 : Int32)) w2
def fM_rules_L46 (F : Nat) (many_0 : Int32) (cells_0 : Nat → Int64) (owner_0 : Nat → Int32) (isOver_0 : Nat → Int32) (all_0 : Nat → Int64) (some_0 : Nat → Int64) : Nat → Int32 → Int32 → (Nat → Int32) → Option (Int32 × Int32 × (Nat → Int32))
  | 0, _, _, _ => none
  | N + 1, l1, l2, isRuled_0 =>
    if many_0 ≤ l2 then
      some (l1, l2, isRuled_0)
    else
      (o_rd 1200 isOver_0 l2).bind fun v5 =>
      (show Option (Int32) from
        if ¬ v5 = (0 : Int32) then
          some (0 : Int32)
        else
          (fM_isOut F l2 owner_0 some_0 all_0 cells_0).bind fun s6 =>
          if s6 = (0 : Int32) then
            some (0 : Int32)
          else
            some (1 : Int32)).bind fun j7 =>
      (o_wrZ 1200 isRuled_0 l2 j7).bind fun w8 =>
      (show Option (Int32) from
        if ¬ l1 = (0 : Int32) then
          some (1 : Int32)
        else
          (o_rd 1200 w8 l2).bind fun v9 =>
          if v9 = (0 : Int32) then
            some (0 : Int32)
          else
            some (1 : Int32)).bind fun j10 =>
      fM_rules_L46 F many_0 cells_0 owner_0 isOver_0 all_0 some_0 N j10 (l2 + (1 : Int32)) w8
def fM_rules_L109 (F : Nat) (many_0 : Int32) (isRuled_0 : Nat → Int32) : Nat → Int32 → (Nat → Int32) → Option (Int32 × (Nat → Int32))
  | 0, _, _ => none
  | N + 1, l2, isOver_0 =>
    if many_0 ≤ l2 then
      some (l2, isOver_0)
    else
      (o_rd 1200 isOver_0 l2).bind fun v12 =>
      (show Option (Int32) from
        if ¬ v12 = (0 : Int32) then
          some (1 : Int32)
        else
          (o_rd 1200 isRuled_0 l2).bind fun v13 =>
          if v13 = (0 : Int32) then
            some (0 : Int32)
          else
            some (1 : Int32)).bind fun j14 =>
      (o_wrZ 1200 isOver_0 l2 j14).bind fun w15 =>
      fM_rules_L109 F many_0 isRuled_0 N (l2 + (1 : Int32)) w15
def fM_rules_L34 (F : Nat) (many_0 : Int32) (cells_0 : Nat → Int64) (owner_0 : Nat → Int32) : Nat → Int32 → (Nat → Int64) → (Nat → Int64) → (Nat → Int32) → (Nat → Int32) → Int32 → Option (Int32 × (Nat → Int64) × (Nat → Int64) × (Nat → Int32) × (Nat → Int32) × Int32)
  | 0, _, _, _, _, _, _ => none
  | N + 1, l1, all_0, some_0, isOver_0, isRuled_0, round_0 =>
    if l1 = (0 : Int32) then
      some (l1, all_0, some_0, isOver_0, isRuled_0, round_0)
    else
      (fM_tellsNumbers F all_0 some_0 many_0 isOver_0 owner_0 cells_0).bind fun s4 =>
      (fM_rules_L46 F many_0 cells_0 owner_0 isOver_0 s4.1 s4.2 F (0 : Int32) (0 : Int32) isRuled_0).bind fun r11 =>
      (fM_rules_L109 F many_0 r11.2.2 F (0 : Int32) isOver_0).bind fun r16 =>
      (show Option (Int32) from
        if r11.1 = (0 : Int32) then
          some (0 : Int32)
        else
          some (1 : Int32)).bind fun j17 =>
      fM_rules_L34 F many_0 cells_0 owner_0 N r11.1 s4.1 s4.2 r16.2 r11.2.2 (round_0 + j17)
def fM_rules (F : Nat) (many_0 : Int32) (table_0 : Nat → Int32) (s_0 : Nat → Int32) (cells_0 : Nat → Int64) (owner_0 : Nat → Int32) (code_0 : Nat → Int32) (isOver_0 : Nat → Int32) (round_0 : Int32) (all_0 : Nat → Int64) (some_0 : Nat → Int64) (isRuled_0 : Nat → Int32) : Option (Int32 × (Nat → Int32) × (Nat → Int64) × (Nat → Int32) × (Nat → Int32) × (Nat → Int32) × Int32 × (Nat → Int64) × (Nat → Int64) × (Nat → Int32)) :=
  (fM_finds F many_0 table_0 s_0 cells_0 owner_0 code_0).bind fun s1 =>
  (fM_rules_L6 F s1.1 F (0 : Int32) isOver_0).bind fun r3 =>
  (fM_rules_L34 F s1.1 s1.2.2.1 s1.2.2.2.1 F (1 : Int32) all_0 some_0 r3.2 isRuled_0 (0 : Int32)).bind fun r18 =>
  some (s1.1, s1.2.1, s1.2.2.1, s1.2.2.2.1, s1.2.2.2.2, r18.2.2.2.1, r18.2.2.2.2.2, r18.2.1, r18.2.2.1, r18.2.2.2.2.1)
abbrev wl_fM_rules (cI cZ cJ cQ : ClassId) (a_0 a_0table a_0s a_0cells a_0owner a_0code a_0isOver a_0all a_0some a_0isRuled a_0before a_0slots a_0isKept a_0buffer a_0chosen a_0last a_0corner a_0wide a_0cuts a_0aside : Nat) (known_0 : Int32) (length_0 : Int32) (thrown_0 : Int32) (many_0 : Int32) (round_0 : Int32) (seed_0 : Int64) (hash_0 : Int64) (table_0 : Nat → Int32) (s_0 : Nat → Int32) (cells_0 : Nat → Int64) (owner_0 : Nat → Int32) (code_0 : Nat → Int32) (isOver_0 : Nat → Int32) (all_0 : Nat → Int64) (some_0 : Nat → Int64) (isRuled_0 : Nat → Int32) : va_W := [(a_0, .inr (10, [.ref a_0s, .ref a_0before, .int known_0, .ref a_0slots, .ref a_0isKept, .ref a_0buffer, .int length_0, .int thrown_0, .ref a_0cells, .ref a_0owner, .ref a_0code, .int many_0, .ref a_0table, .ref a_0isOver, .ref a_0isRuled, .ref a_0all, .ref a_0some, .int round_0, .ref a_0chosen, .ref a_0last, .ref a_0corner, .ref a_0wide, .ref a_0cuts, .long seed_0, .ref a_0aside, .long hash_0])), (a_0table, .inl (cI, 252, .inl table_0)), (a_0s, .inl (cI, 84, .inl s_0)), (a_0cells, .inl (cJ, 1200, .inr (.inl cells_0))), (a_0owner, .inl (cI, 1200, .inl owner_0)), (a_0code, .inl (cI, 1200, .inl code_0)), (a_0isOver, .inl (cZ, 1200, .inl isOver_0)), (a_0all, .inl (cJ, 42, .inr (.inl all_0))), (a_0some, .inl (cJ, 42, .inr (.inl some_0))), (a_0isRuled, .inl (cZ, 1200, .inl isRuled_0))]
def fM_isAgainst_L10 (F : Nat) (s_0 : Nat → Int32) (some_0 : Nat → Int64) : Nat → Int64 → Int32 → Int32 → Option (Int64 × Int32 × Int32)
  | 0, _, _, _ => none
  | N + 1, l1, l3, l4 =>
    if (42 : Int32) ≤ l4 then
      some (l1, l3, l4)
    else
      (o_rd 42 some_0 l4).bind fun v2 =>
      (show Option (Int32) from
        if ¬ l3 = (0 : Int32) then
          some (1 : Int32)
        else
          (o_rd 84 s_0 l4).bind fun v3 =>
          if v3 ≤ (0 : Int32) then
            some (0 : Int32)
          else
            (o_rd 84 s_0 ((42 : Int32) + l4)).bind fun v4 =>
            if ¬ v4 = (0 : Int32) then
              some (0 : Int32)
            else
              (o_rd 42 some_0 l4).bind fun v5 =>
              if ¬ v5 = (0 : Int64) then
                some (0 : Int32)
              else
                some (1 : Int32)).bind fun j6 =>
      fM_isAgainst_L10 F s_0 some_0 N (l1 ||| v2) j6 (l4 + (1 : Int32))
def fM_isAgainst (F : Nat) (s_0 : Nat → Int32) (some_0 : Nat → Int64) : Option (Int32) :=
  (fM_taken F s_0).bind fun s1 =>
  (fM_isAgainst_L10 F s_0 some_0 F s1 (0 : Int32) (0 : Int32)).bind fun r7 =>
  if ¬ r7.2.1 = (0 : Int32) then
    some (1 : Int32)
  else
    if r7.1 = (4398046511103 : Int64) then
      some (0 : Int32)
    else
      some (1 : Int32)
abbrev wl_fM_isAgainst (cI cZ cJ cQ : ClassId) (a_0 a_0s a_0some a_0before a_0slots a_0isKept a_0buffer a_0cells a_0owner a_0code a_0table a_0isOver a_0isRuled a_0all a_0chosen a_0last a_0corner a_0wide a_0cuts a_0aside : Nat) (known_0 : Int32) (length_0 : Int32) (thrown_0 : Int32) (many_0 : Int32) (round_0 : Int32) (seed_0 : Int64) (hash_0 : Int64) (s_0 : Nat → Int32) (some_0 : Nat → Int64) : va_W := [(a_0, .inr (10, [.ref a_0s, .ref a_0before, .int known_0, .ref a_0slots, .ref a_0isKept, .ref a_0buffer, .int length_0, .int thrown_0, .ref a_0cells, .ref a_0owner, .ref a_0code, .int many_0, .ref a_0table, .ref a_0isOver, .ref a_0isRuled, .ref a_0all, .ref a_0some, .int round_0, .ref a_0chosen, .ref a_0last, .ref a_0corner, .ref a_0wide, .ref a_0cuts, .long seed_0, .ref a_0aside, .long hash_0])), (a_0s, .inl (cI, 84, .inl s_0)), (a_0some, .inl (cJ, 42, .inr (.inl some_0)))]
def fM_leftIn_L4 (F : Nat) (l1 : Int32) (many_0 : Int32) (owner_0 : Nat → Int32) (isOver_0 : Nat → Int32) : Nat → Int32 → Int32 → Option (Int32 × Int32)
  | 0, _, _ => none
  | N + 1, l2, l3 =>
    if many_0 ≤ l3 then
      some (l2, l3)
    else
      (o_rd 1200 owner_0 l3).bind fun v1 =>
      (show Option (Int32) from
        if ¬ v1 = l1 then
          some (0 : Int32)
        else
          (o_rd 1200 isOver_0 l3).bind fun v2 =>
          if ¬ v2 = (0 : Int32) then
            some (0 : Int32)
          else
            some (1 : Int32)).bind fun j3 =>
      fM_leftIn_L4 F l1 many_0 owner_0 isOver_0 N (l2 + j3) (l3 + (1 : Int32))
def fM_leftIn (F : Nat) (x1 : Int32) (many_0 : Int32) (owner_0 : Nat → Int32) (isOver_0 : Nat → Int32) : Option (Int32) :=
  (fM_leftIn_L4 F x1 many_0 owner_0 isOver_0 F (0 : Int32) (0 : Int32)).bind fun r4 =>
  some r4.1
abbrev wl_fM_leftIn (cI cZ cJ cQ : ClassId) (a_0 a_0owner a_0isOver a_0s a_0before a_0slots a_0isKept a_0buffer a_0cells a_0code a_0table a_0isRuled a_0all a_0some a_0chosen a_0last a_0corner a_0wide a_0cuts a_0aside : Nat) (known_0 : Int32) (length_0 : Int32) (thrown_0 : Int32) (many_0 : Int32) (round_0 : Int32) (seed_0 : Int64) (hash_0 : Int64) (owner_0 : Nat → Int32) (isOver_0 : Nat → Int32) : va_W := [(a_0, .inr (10, [.ref a_0s, .ref a_0before, .int known_0, .ref a_0slots, .ref a_0isKept, .ref a_0buffer, .int length_0, .int thrown_0, .ref a_0cells, .ref a_0owner, .ref a_0code, .int many_0, .ref a_0table, .ref a_0isOver, .ref a_0isRuled, .ref a_0all, .ref a_0some, .int round_0, .ref a_0chosen, .ref a_0last, .ref a_0corner, .ref a_0wide, .ref a_0cuts, .long seed_0, .ref a_0aside, .long hash_0])), (a_0owner, .inl (cI, 1200, .inl owner_0)), (a_0isOver, .inl (cZ, 1200, .inl isOver_0))]
def fM_leftAll_L4 (F : Nat) (many_0 : Int32) (isOver_0 : Nat → Int32) : Nat → Int32 → Int32 → Option (Int32 × Int32)
  | 0, _, _ => none
  | N + 1, l1, l2 =>
    if many_0 ≤ l2 then
      some (l1, l2)
    else
      (o_rd 1200 isOver_0 l2).bind fun v1 =>
      (show Option (Int32) from
        if v1 = (0 : Int32) then
          some (1 : Int32)
        else
          some (0 : Int32)).bind fun j2 =>
      fM_leftAll_L4 F many_0 isOver_0 N (l1 + j2) (l2 + (1 : Int32))
def fM_leftAll (F : Nat) (many_0 : Int32) (isOver_0 : Nat → Int32) : Option (Int32) :=
  (fM_leftAll_L4 F many_0 isOver_0 F (0 : Int32) (0 : Int32)).bind fun r3 =>
  some r3.1
abbrev wl_fM_leftAll (cI cZ cJ cQ : ClassId) (a_0 a_0isOver a_0s a_0before a_0slots a_0isKept a_0buffer a_0cells a_0owner a_0code a_0table a_0isRuled a_0all a_0some a_0chosen a_0last a_0corner a_0wide a_0cuts a_0aside : Nat) (known_0 : Int32) (length_0 : Int32) (thrown_0 : Int32) (many_0 : Int32) (round_0 : Int32) (seed_0 : Int64) (hash_0 : Int64) (isOver_0 : Nat → Int32) : va_W := [(a_0, .inr (10, [.ref a_0s, .ref a_0before, .int known_0, .ref a_0slots, .ref a_0isKept, .ref a_0buffer, .int length_0, .int thrown_0, .ref a_0cells, .ref a_0owner, .ref a_0code, .int many_0, .ref a_0table, .ref a_0isOver, .ref a_0isRuled, .ref a_0all, .ref a_0some, .int round_0, .ref a_0chosen, .ref a_0last, .ref a_0corner, .ref a_0wide, .ref a_0cuts, .long seed_0, .ref a_0aside, .long hash_0])), (a_0isOver, .inl (cZ, 1200, .inl isOver_0))]
def fM_isSure (F : Nat) (x1 : Int32) (s_0 : Nat → Int32) (many_0 : Int32) (owner_0 : Nat → Int32) (isOver_0 : Nat → Int32) : Option (Int32) :=
  (o_rd 84 s_0 x1).bind fun v1 =>
  if v1 ≤ (0 : Int32) then
    some (0 : Int32)
  else
    (o_rd 84 s_0 ((42 : Int32) + x1)).bind fun v2 =>
    if ¬ v2 = (0 : Int32) then
      some (0 : Int32)
    else
      (fM_leftIn F x1 many_0 owner_0 isOver_0).bind fun s3 =>
      if ¬ s3 = (1 : Int32) then
        some (0 : Int32)
      else
        some (1 : Int32)
abbrev wl_fM_isSure (cI cZ cJ cQ : ClassId) (a_0 a_0s a_0owner a_0isOver a_0before a_0slots a_0isKept a_0buffer a_0cells a_0code a_0table a_0isRuled a_0all a_0some a_0chosen a_0last a_0corner a_0wide a_0cuts a_0aside : Nat) (known_0 : Int32) (length_0 : Int32) (thrown_0 : Int32) (many_0 : Int32) (round_0 : Int32) (seed_0 : Int64) (hash_0 : Int64) (s_0 : Nat → Int32) (owner_0 : Nat → Int32) (isOver_0 : Nat → Int32) : va_W := [(a_0, .inr (10, [.ref a_0s, .ref a_0before, .int known_0, .ref a_0slots, .ref a_0isKept, .ref a_0buffer, .int length_0, .int thrown_0, .ref a_0cells, .ref a_0owner, .ref a_0code, .int many_0, .ref a_0table, .ref a_0isOver, .ref a_0isRuled, .ref a_0all, .ref a_0some, .int round_0, .ref a_0chosen, .ref a_0last, .ref a_0corner, .ref a_0wide, .ref a_0cuts, .long seed_0, .ref a_0aside, .long hash_0])), (a_0s, .inl (cI, 84, .inl s_0)), (a_0owner, .inl (cI, 1200, .inl owner_0)), (a_0isOver, .inl (cZ, 1200, .inl isOver_0))]
def fM_sure_L4 (F : Nat) (s_0 : Nat → Int32) (many_0 : Int32) (owner_0 : Nat → Int32) (isOver_0 : Nat → Int32) : Nat → Int32 → Int32 → Option (Int32 × Int32)
  | 0, _, _ => none
  | N + 1, l1, l2 =>
    if (42 : Int32) ≤ l2 then
      some (l1, l2)
    else
      (fM_isSure F l2 s_0 many_0 owner_0 isOver_0).bind fun s1 =>
      (show Option (Int32) from
        if s1 = (0 : Int32) then
          some (0 : Int32)
        else
          some (1 : Int32)).bind fun j2 =>
      fM_sure_L4 F s_0 many_0 owner_0 isOver_0 N (l1 + j2) (l2 + (1 : Int32))
def fM_sure (F : Nat) (s_0 : Nat → Int32) (many_0 : Int32) (owner_0 : Nat → Int32) (isOver_0 : Nat → Int32) : Option (Int32) :=
  (fM_sure_L4 F s_0 many_0 owner_0 isOver_0 F (0 : Int32) (0 : Int32)).bind fun r3 =>
  some r3.1
abbrev wl_fM_sure (cI cZ cJ cQ : ClassId) (a_0 a_0s a_0owner a_0isOver a_0before a_0slots a_0isKept a_0buffer a_0cells a_0code a_0table a_0isRuled a_0all a_0some a_0chosen a_0last a_0corner a_0wide a_0cuts a_0aside : Nat) (known_0 : Int32) (length_0 : Int32) (thrown_0 : Int32) (many_0 : Int32) (round_0 : Int32) (seed_0 : Int64) (hash_0 : Int64) (s_0 : Nat → Int32) (owner_0 : Nat → Int32) (isOver_0 : Nat → Int32) : va_W := [(a_0, .inr (10, [.ref a_0s, .ref a_0before, .int known_0, .ref a_0slots, .ref a_0isKept, .ref a_0buffer, .int length_0, .int thrown_0, .ref a_0cells, .ref a_0owner, .ref a_0code, .int many_0, .ref a_0table, .ref a_0isOver, .ref a_0isRuled, .ref a_0all, .ref a_0some, .int round_0, .ref a_0chosen, .ref a_0last, .ref a_0corner, .ref a_0wide, .ref a_0cuts, .long seed_0, .ref a_0aside, .long hash_0])), (a_0s, .inl (cI, 84, .inl s_0)), (a_0owner, .inl (cI, 1200, .inl owner_0)), (a_0isOver, .inl (cZ, 1200, .inl isOver_0))]
def fM_firstSure_L2 (F : Nat) (s_0 : Nat → Int32) (many_0 : Int32) (owner_0 : Nat → Int32) (isOver_0 : Nat → Int32) : Nat → Int32 → Option (Int32)
  | 0, _ => none
  | N + 1, l1 =>
    if (42 : Int32) ≤ l1 then
      some (-1 : Int32)
    else
      (fM_isSure F l1 s_0 many_0 owner_0 isOver_0).bind fun s1 =>
      if s1 = (0 : Int32) then
        fM_firstSure_L2 F s_0 many_0 owner_0 isOver_0 N (l1 + (1 : Int32))
      else
        some l1
def fM_firstSure (F : Nat) (s_0 : Nat → Int32) (many_0 : Int32) (owner_0 : Nat → Int32) (isOver_0 : Nat → Int32) : Option (Int32) :=
  (fM_firstSure_L2 F s_0 many_0 owner_0 isOver_0 F (0 : Int32))
abbrev wl_fM_firstSure (cI cZ cJ cQ : ClassId) (a_0 a_0s a_0owner a_0isOver a_0before a_0slots a_0isKept a_0buffer a_0cells a_0code a_0table a_0isRuled a_0all a_0some a_0chosen a_0last a_0corner a_0wide a_0cuts a_0aside : Nat) (known_0 : Int32) (length_0 : Int32) (thrown_0 : Int32) (many_0 : Int32) (round_0 : Int32) (seed_0 : Int64) (hash_0 : Int64) (s_0 : Nat → Int32) (owner_0 : Nat → Int32) (isOver_0 : Nat → Int32) : va_W := [(a_0, .inr (10, [.ref a_0s, .ref a_0before, .int known_0, .ref a_0slots, .ref a_0isKept, .ref a_0buffer, .int length_0, .int thrown_0, .ref a_0cells, .ref a_0owner, .ref a_0code, .int many_0, .ref a_0table, .ref a_0isOver, .ref a_0isRuled, .ref a_0all, .ref a_0some, .int round_0, .ref a_0chosen, .ref a_0last, .ref a_0corner, .ref a_0wide, .ref a_0cuts, .long seed_0, .ref a_0aside, .long hash_0])), (a_0s, .inl (cI, 84, .inl s_0)), (a_0owner, .inl (cI, 1200, .inl owner_0)), (a_0isOver, .inl (cZ, 1200, .inl isOver_0))]
def fM_remembers_L2 (F : Nat) (s_0 : Nat → Int32) : Nat → Int32 → (Nat → Int32) → (Nat → Int32) → Option (Int32 × (Nat → Int32) × (Nat → Int32))
  | 0, _, _, _ => none
  | N + 1, l2, corner_0, wide_0 =>
    if (42 : Int32) ≤ l2 then
      some (l2, corner_0, wide_0)
    else
      (o_rd 84 s_0 ((42 : Int32) + l2)).bind fun v1 =>
      (o_wrI 42 corner_0 l2 (v1 - (1 : Int32))).bind fun w2 =>
      (o_rd 84 s_0 ((42 : Int32) + l2)).bind fun v3 =>
      (show Option (Int32) from
        if v3 ≤ (0 : Int32) then
          some (0 : Int32)
        else
          (fM_fieldOf F l2 s_0).bind fun s4 =>
          (fM_bits F s4).bind fun s5 =>
          some s5).bind fun j6 =>
      (o_wrI 42 wide_0 l2 j6).bind fun w7 =>
      fM_remembers_L2 F s_0 N (l2 + (1 : Int32)) w2 w7
def fM_remembers_L70 (F : Nat) (l2 : Int32) (s_0 : Nat → Int32) (chosen_0 : Nat → Int32) (cells_0 : Nat → Int64) (owner_0 : Nat → Int32) : Nat → Int32 → (Nat → Int32) → (Nat → Int32) → Option (Int32 × (Nat → Int32) × (Nat → Int32))
  | 0, _, _, _ => none
  | N + 1, l3, corner_0, wide_0 =>
    if (42 : Int32) ≤ l3 then
      some (l3, corner_0, wide_0)
    else
      (o_rd 43 chosen_0 l2).bind fun v9 =>
      (o_rd 1200 cells_0 v9).bind fun v10 =>
      (fM_has v10 l3).bind fun s11 =>
      (show Option ((Nat → Int32) × (Nat → Int32)) from
        if s11 = (0 : Int32) then
          some (corner_0, wide_0)
        else
          (o_rd 43 chosen_0 l2).bind fun v12 =>
          (o_rd 1200 cells_0 v12).bind fun v13 =>
          (fM_lowest F v13).bind fun s14 =>
          (o_wrI 42 corner_0 l3 s14).bind fun w15 =>
          (o_rd 43 chosen_0 l2).bind fun v16 =>
          (o_rd 1200 owner_0 v16).bind fun v17 =>
          (o_rd 84 s_0 v17).bind fun v18 =>
          (o_wrI 42 wide_0 l3 v18).bind fun w19 =>
          some (w15, w19)).bind fun j20 =>
      fM_remembers_L70 F l2 s_0 chosen_0 cells_0 owner_0 N (l3 + (1 : Int32)) j20.1 j20.2
def fM_remembers_L63 (F : Nat) (l1 : Int32) (s_0 : Nat → Int32) (chosen_0 : Nat → Int32) (cells_0 : Nat → Int64) (owner_0 : Nat → Int32) : Nat → Int32 → (Nat → Int32) → (Nat → Int32) → Option (Int32 × (Nat → Int32) × (Nat → Int32))
  | 0, _, _, _ => none
  | N + 1, l2, corner_0, wide_0 =>
    if l1 ≤ l2 then
      some (l2, corner_0, wide_0)
    else
      (fM_remembers_L70 F l2 s_0 chosen_0 cells_0 owner_0 F (0 : Int32) corner_0 wide_0).bind fun r21 =>
      fM_remembers_L63 F l1 s_0 chosen_0 cells_0 owner_0 N (l2 + (1 : Int32)) r21.2.1 r21.2.2
def fM_remembers (F : Nat) (x1 : Int32) (s_0 : Nat → Int32) (corner_0 : Nat → Int32) (wide_0 : Nat → Int32) (chosen_0 : Nat → Int32) (cells_0 : Nat → Int64) (owner_0 : Nat → Int32) : Option ((Nat → Int32) × (Nat → Int32)) :=
  (fM_remembers_L2 F s_0 F (0 : Int32) corner_0 wide_0).bind fun r8 =>
  (fM_remembers_L63 F x1 s_0 chosen_0 cells_0 owner_0 F (0 : Int32) r8.2.1 r8.2.2).bind fun r22 =>
  some (r22.2.1, r22.2.2)
abbrev wl_fM_remembers (cI cZ cJ cQ : ClassId) (a_0 a_0s a_0corner a_0wide a_0chosen a_0cells a_0owner a_0before a_0slots a_0isKept a_0buffer a_0code a_0table a_0isOver a_0isRuled a_0all a_0some a_0last a_0cuts a_0aside : Nat) (known_0 : Int32) (length_0 : Int32) (thrown_0 : Int32) (many_0 : Int32) (round_0 : Int32) (seed_0 : Int64) (hash_0 : Int64) (s_0 : Nat → Int32) (corner_0 : Nat → Int32) (wide_0 : Nat → Int32) (chosen_0 : Nat → Int32) (cells_0 : Nat → Int64) (owner_0 : Nat → Int32) : va_W := [(a_0, .inr (10, [.ref a_0s, .ref a_0before, .int known_0, .ref a_0slots, .ref a_0isKept, .ref a_0buffer, .int length_0, .int thrown_0, .ref a_0cells, .ref a_0owner, .ref a_0code, .int many_0, .ref a_0table, .ref a_0isOver, .ref a_0isRuled, .ref a_0all, .ref a_0some, .int round_0, .ref a_0chosen, .ref a_0last, .ref a_0corner, .ref a_0wide, .ref a_0cuts, .long seed_0, .ref a_0aside, .long hash_0])), (a_0s, .inl (cI, 84, .inl s_0)), (a_0corner, .inl (cI, 42, .inl corner_0)), (a_0wide, .inl (cI, 42, .inl wide_0)), (a_0chosen, .inl (cI, 43, .inl chosen_0)), (a_0cells, .inl (cJ, 1200, .inr (.inl cells_0))), (a_0owner, .inl (cI, 1200, .inl owner_0))]
def fM_ways_L72 (F : Nat) (l4 : Int32) (l7 : Int32) (table_0 : Nat → Int32) (cells_0 : Nat → Int64) : Nat → Int64 → Int32 → (Nat → Int32) → (Nat → Int32) → Option (Int64 × Int32 × (Nat → Int32) × (Nat → Int32))
  | 0, _, _, _, _ => none
  | N + 1, l2, l6, last_0, chosen_0 =>
    (o_rd 43 last_0 l4).bind fun v5 =>
    if (6 : Int32) ≤ v5 then
      some (l2, l6, last_0, chosen_0)
    else
      if ¬ l6 = (0 : Int32) then
        some (l2, l6, last_0, chosen_0)
      else
        (o_rd 43 last_0 l4).bind fun v6 =>
        (o_rd 252 table_0 (((6 : Int32) * l7) + v6)).bind fun v7 =>
        (o_rd 43 last_0 l4).bind fun v8 =>
        (o_wrI 43 last_0 l4 (v8 + (1 : Int32))).bind fun w9 =>
        (show Option (Int64 × Int32 × (Nat → Int32)) from
          if v7 = (-1 : Int32) then
            some (l2, l6, chosen_0)
          else
            (o_rd 1200 cells_0 v7).bind fun v10 =>
            if ¬ (v10 &&& l2) = (0 : Int64) then
              some (l2, l6, chosen_0)
            else
              (o_wrI 43 chosen_0 l4 v7).bind fun w11 =>
              (o_rd 1200 cells_0 v7).bind fun v12 =>
              some ((l2 ||| v12), (1 : Int32), w11)).bind fun j13 =>
        fM_ways_L72 F l4 l7 table_0 cells_0 N j13.1 j13.2.1 w9 j13.2.2
def fM_ways_L22 (F : Nat) (l1 : Int32) (many_0 : Int32) (table_0 : Nat → Int32) (s_0 : Nat → Int32) (cells_0 : Nat → Int64) (owner_0 : Nat → Int32) (code_0 : Nat → Int32) : Nat → Int64 → Int32 → Int32 → (Nat → Int32) → (Nat → Int32) → (Nat → Int32) → (Nat → Int32) → Option (Int32 × Int32 × (Nat → Int32) × (Nat → Int64) × (Nat → Int32) × (Nat → Int32) × (Nat → Int32) × (Nat → Int32) × (Nat → Int32) × (Nat → Int32))
  | 0, _, _, _, _, _, _, _ => none
  | N + 1, l2, l4, l5, last_0, chosen_0, corner_0, wide_0 =>
    if l4 < (0 : Int32) then
      some (l5, many_0, table_0, cells_0, owner_0, code_0, last_0, chosen_0, corner_0, wide_0)
    else
      if ¬ l2 = (4398046511103 : Int64) then
        (fM_lowest F (l2 ^^^ (-1 : Int64))).bind fun s4 =>
        (fM_ways_L72 F l4 s4 table_0 cells_0 F l2 (0 : Int32) last_0 chosen_0).bind fun r14 =>
        (show Option (Int64 × Int32 × (Nat → Int32)) from
          if r14.2.1 = (0 : Int32) then
            (show Option (Int64) from
              if (l4 + (-1 : Int32)) < (0 : Int32) then
                some r14.1
              else
                (o_rd 43 r14.2.2.2 (l4 + (-1 : Int32))).bind fun v15 =>
                (o_rd 1200 cells_0 v15).bind fun v16 =>
                some (r14.1 &&& (v16 ^^^ (-1 : Int64)))).bind fun j17 =>
            some (j17, (l4 + (-1 : Int32)), r14.2.2.1)
          else
            (o_wrI 43 r14.2.2.1 (l4 + (1 : Int32)) (0 : Int32)).bind fun w18 =>
            some (r14.1, (l4 + (1 : Int32)), w18)).bind fun j19 =>
        fM_ways_L22 F l1 many_0 table_0 s_0 cells_0 owner_0 code_0 N j19.1 j19.2.1 l5 j19.2.2 r14.2.2.2 corner_0 wide_0
      else
        (show Option ((Nat → Int32) × (Nat → Int32)) from
          if ¬ (l5 + (1 : Int32)) = (1 : Int32) then
            some (corner_0, wide_0)
          else
            (fM_remembers F l4 s_0 corner_0 wide_0 chosen_0 cells_0 owner_0).bind fun s20 =>
            some (s20.1, s20.2)).bind fun j21 =>
        if ¬ (l5 + (1 : Int32)) = l1 then
          (show Option (Int64) from
            if (l4 + (-1 : Int32)) < (0 : Int32) then
              some l2
            else
              (o_rd 43 chosen_0 (l4 + (-1 : Int32))).bind fun v22 =>
              (o_rd 1200 cells_0 v22).bind fun v23 =>
              some (l2 &&& (v23 ^^^ (-1 : Int64)))).bind fun j24 =>
          fM_ways_L22 F l1 many_0 table_0 s_0 cells_0 owner_0 code_0 N j24 (l4 + (-1 : Int32)) (l5 + (1 : Int32)) last_0 chosen_0 j21.1 j21.2
        else
          some ((l5 + (1 : Int32)), many_0, table_0, cells_0, owner_0, code_0, last_0, chosen_0, j21.1, j21.2)
def fM_ways (F : Nat) (x1 : Int32) (many_0 : Int32) (table_0 : Nat → Int32) (s_0 : Nat → Int32) (cells_0 : Nat → Int64) (owner_0 : Nat → Int32) (code_0 : Nat → Int32) (last_0 : Nat → Int32) (chosen_0 : Nat → Int32) (corner_0 : Nat → Int32) (wide_0 : Nat → Int32) : Option (Int32 × Int32 × (Nat → Int32) × (Nat → Int64) × (Nat → Int32) × (Nat → Int32) × (Nat → Int32) × (Nat → Int32) × (Nat → Int32) × (Nat → Int32)) :=
  (fM_finds F many_0 table_0 s_0 cells_0 owner_0 code_0).bind fun s1 =>
  (fM_taken F s_0).bind fun s2 =>
  (o_wrI 43 last_0 (0 : Int32) (0 : Int32)).bind fun w3 =>
  (fM_ways_L22 F x1 s1.1 s1.2.1 s_0 s1.2.2.1 s1.2.2.2.1 s1.2.2.2.2 F s2 (0 : Int32) (0 : Int32) w3 chosen_0 corner_0 wide_0)
abbrev wl_fM_ways (cI cZ cJ cQ : ClassId) (a_0 a_0table a_0s a_0cells a_0owner a_0code a_0last a_0chosen a_0corner a_0wide a_0before a_0slots a_0isKept a_0buffer a_0isOver a_0isRuled a_0all a_0some a_0cuts a_0aside : Nat) (known_0 : Int32) (length_0 : Int32) (thrown_0 : Int32) (many_0 : Int32) (round_0 : Int32) (seed_0 : Int64) (hash_0 : Int64) (table_0 : Nat → Int32) (s_0 : Nat → Int32) (cells_0 : Nat → Int64) (owner_0 : Nat → Int32) (code_0 : Nat → Int32) (last_0 : Nat → Int32) (chosen_0 : Nat → Int32) (corner_0 : Nat → Int32) (wide_0 : Nat → Int32) : va_W := [(a_0, .inr (10, [.ref a_0s, .ref a_0before, .int known_0, .ref a_0slots, .ref a_0isKept, .ref a_0buffer, .int length_0, .int thrown_0, .ref a_0cells, .ref a_0owner, .ref a_0code, .int many_0, .ref a_0table, .ref a_0isOver, .ref a_0isRuled, .ref a_0all, .ref a_0some, .int round_0, .ref a_0chosen, .ref a_0last, .ref a_0corner, .ref a_0wide, .ref a_0cuts, .long seed_0, .ref a_0aside, .long hash_0])), (a_0table, .inl (cI, 252, .inl table_0)), (a_0s, .inl (cI, 84, .inl s_0)), (a_0cells, .inl (cJ, 1200, .inr (.inl cells_0))), (a_0owner, .inl (cI, 1200, .inl owner_0)), (a_0code, .inl (cI, 1200, .inl code_0)), (a_0last, .inl (cI, 43, .inl last_0)), (a_0chosen, .inl (cI, 43, .inl chosen_0)), (a_0corner, .inl (cI, 42, .inl corner_0)), (a_0wide, .inl (cI, 42, .inl wide_0))]
set_option maxHeartbeats 4000000 in
set_option maxRecDepth 100000 in
theorem c_fM_thrown (l : Launch) (dC : Nat → ClassId) (dI : Nat → Nat → Nat) (cI cZ cJ cQ : ClassId) (a_0 a_0s a_0before a_0slots a_0isKept a_0buffer a_0cells a_0owner a_0code a_0table a_0isOver a_0isRuled a_0all a_0some a_0chosen a_0last a_0corner a_0wide a_0cuts a_0aside : Nat) (known_0 : Int32) (length_0 : Int32) (many_0 : Int32) (round_0 : Int32) (seed_0 : Int64) (hash_0 : Int64) (sz : Nat) {thrown_0 : Int32} {out : Int32} (hf : fM_thrown thrown_0 = some out) : Met l yX10_thrown wsX10_thrown ({ frames := 0, cells := 0, slots := 0, locals := 0 } : Room) (va_Pc [.ref a_0] (wlP (dC, dI) (wlT cI cZ cJ cQ) (wl_fM_thrown cI cZ cJ cQ a_0 a_0s a_0before a_0slots a_0isKept a_0buffer a_0cells a_0owner a_0code a_0table a_0isOver a_0isRuled a_0all a_0some a_0chosen a_0last a_0corner a_0wide a_0cuts a_0aside known_0 length_0 thrown_0 many_0 round_0 seed_0 hash_0) sz)) (va_Qi (fun (v : Int32) (_ : Unit) => v = out) (wlQ (dC, dI) (va_A (wl_fM_thrown cI cZ cJ cQ a_0 a_0s a_0before a_0slots a_0isKept a_0buffer a_0cells a_0owner a_0code a_0table a_0isOver a_0isRuled a_0all a_0some a_0chosen a_0last a_0corner a_0wide a_0cuts a_0aside known_0 length_0 thrown_0 many_0 round_0 seed_0 hash_0) sz) (wl_fM_thrown cI cZ cJ cQ a_0 a_0s a_0before a_0slots a_0isKept a_0buffer a_0cells a_0owner a_0code a_0table a_0isOver a_0isRuled a_0all a_0some a_0chosen a_0last a_0corner a_0wide a_0cuts a_0aside known_0 length_0 thrown_0 many_0 round_0 seed_0 hash_0)) (va_A (wl_fM_thrown cI cZ cJ cQ a_0 a_0s a_0before a_0slots a_0isKept a_0buffer a_0cells a_0owner a_0code a_0table a_0isOver a_0isRuled a_0all a_0some a_0chosen a_0last a_0corner a_0wide a_0cuts a_0aside known_0 length_0 thrown_0 many_0 round_0 seed_0 hash_0) sz)) 0 0 (va_A (wl_fM_thrown cI cZ cJ cQ a_0 a_0s a_0before a_0slots a_0isKept a_0buffer a_0cells a_0owner a_0code a_0table a_0isOver a_0isRuled a_0all a_0some a_0chosen a_0last a_0corner a_0wide a_0cuts a_0aside known_0 length_0 thrown_0 many_0 round_0 seed_0 hash_0) sz) := by
  refine wh_ofWi (lv := [(0, .ref a_0)]) RX10 (by decide) rfl rfl (Nat.le_of_ble_eq_true rfl) rfl ?_
  intro p e s m below meth c A QQ hx hb hml hown hts hP hK hN hD hA hret ls hl
  have hS : va_S A s.heap s.heap [] := va_S.rf
  have hiX10 : ∀ w ∈ wsX100, w ∈ wsX10_thrown := (fun _ h => List.mem_cons_of_mem _ (List.mem_append_right _ (h)))
  unfold fM_thrown at hf
  refine lv_aload_n hx hb dX10_thrown_0 rfl (lv_at hl 0 rfl) ?_
  refine va_get (D := (dC, dI)) (ci := 10) (C := RX10) (T := TX10) (N := 26) hx hb hts hiX10 hown hK hP 0 rfl rfl 7 (by decide) (hts (.fieldLink RX10 69 "PaddockFieldsModel" "thrown" "I") (List.mem_cons_of_mem _ (List.mem_append_left _ (List.mem_of_getElem? (i := 0) rfl)))) (fun _ h9 => h9) rfl dX10_thrown_1 ?_
  obtain rfl := Option.some.inj hf
  exact hret _ _ _ _ hP hD hS dX10_thrown_4
set_option maxHeartbeats 4000000 in
set_option maxRecDepth 100000 in
theorem c_fM_throwing (l : Launch) (dC : Nat → ClassId) (dI : Nat → Nat → Nat) (cI cZ cJ cQ : ClassId) (a_0 a_0s a_0before a_0slots a_0isKept a_0buffer a_0cells a_0owner a_0code a_0table a_0isOver a_0isRuled a_0all a_0some a_0chosen a_0last a_0corner a_0wide a_0cuts a_0aside : Nat) (known_0 : Int32) (length_0 : Int32) (many_0 : Int32) (round_0 : Int32) (seed_0 : Int64) (hash_0 : Int64) (sz : Nat) {x1 : Int32} {thrown_0 : Int32} {out : Int32 × Int32} (hf : fM_throwing x1 thrown_0 = some out) : Met l yX10_throwing wsX10_throwing ({ frames := 0, cells := 0, slots := 0, locals := 0 } : Room) (va_Pc [.ref a_0, .int x1] (wlP (dC, dI) (wlT cI cZ cJ cQ) (wl_fM_throwing cI cZ cJ cQ a_0 a_0s a_0before a_0slots a_0isKept a_0buffer a_0cells a_0owner a_0code a_0table a_0isOver a_0isRuled a_0all a_0some a_0chosen a_0last a_0corner a_0wide a_0cuts a_0aside known_0 length_0 thrown_0 many_0 round_0 seed_0 hash_0) sz)) (va_Qi (fun (v : Int32) (_ : Unit) => v = out.1) (wlQ (dC, dI) (va_A (wl_fM_throwing cI cZ cJ cQ a_0 a_0s a_0before a_0slots a_0isKept a_0buffer a_0cells a_0owner a_0code a_0table a_0isOver a_0isRuled a_0all a_0some a_0chosen a_0last a_0corner a_0wide a_0cuts a_0aside known_0 length_0 thrown_0 many_0 round_0 seed_0 hash_0) sz) (wl_fM_throwing cI cZ cJ cQ a_0 a_0s a_0before a_0slots a_0isKept a_0buffer a_0cells a_0owner a_0code a_0table a_0isOver a_0isRuled a_0all a_0some a_0chosen a_0last a_0corner a_0wide a_0cuts a_0aside known_0 length_0 out.2 many_0 round_0 seed_0 hash_0)) (va_A (wl_fM_throwing cI cZ cJ cQ a_0 a_0s a_0before a_0slots a_0isKept a_0buffer a_0cells a_0owner a_0code a_0table a_0isOver a_0isRuled a_0all a_0some a_0chosen a_0last a_0corner a_0wide a_0cuts a_0aside known_0 length_0 thrown_0 many_0 round_0 seed_0 hash_0) sz)) 0 0 (va_A (wl_fM_throwing cI cZ cJ cQ a_0 a_0s a_0before a_0slots a_0isKept a_0buffer a_0cells a_0owner a_0code a_0table a_0isOver a_0isRuled a_0all a_0some a_0chosen a_0last a_0corner a_0wide a_0cuts a_0aside known_0 length_0 thrown_0 many_0 round_0 seed_0 hash_0) sz) := by
  refine wh_ofWi (lv := [(0, .ref a_0), (1, .int x1)]) RX10 (by decide) rfl rfl (Nat.le_of_ble_eq_true rfl) rfl ?_
  intro p e s m below meth c A QQ hx hb hml hown hts hP hK hN hD hA hret ls hl
  have hS : va_S A s.heap s.heap [] := va_S.rf
  have hiX10 : ∀ w ∈ wsX100, w ∈ wsX10_throwing := (fun _ h => List.mem_cons_of_mem _ (List.mem_append_right _ (h)))
  unfold fM_throwing at hf
  refine lv_aload_n hx hb dX10_throwing_0 rfl (lv_at hl 0 rfl) ?_
  refine lv_iload_n hx hb dX10_throwing_1 rfl (lv_at hl 1 rfl) ?_
  refine wh_put (D := (dC, dI)) (ci := 10) (C := RX10) (T := TX10) (N := 26) (ty := .int) (v := .int x1) (ws' := (wl_fM_throwing cI cZ cJ cQ a_0 a_0s a_0before a_0slots a_0isKept a_0buffer a_0cells a_0owner a_0code a_0table a_0isOver a_0isRuled a_0all a_0some a_0chosen a_0last a_0corner a_0wide a_0cuts a_0aside known_0 length_0 x1 many_0 round_0 seed_0 hash_0)) hx hb hts hiX10 tyX10 tyX10_ok nmX10 hown hK hP hD hS 0 rfl rfl 7 (by decide) (hts (.fieldLink RX10 69 "PaddockFieldsModel" "thrown" "I") (List.mem_cons_of_mem _ (List.mem_append_left _ (List.mem_of_getElem? (i := 0) rfl)))) (fun _ h9 => h9) rfl rfl rfl rfl (Nat.le_of_ble_eq_true rfl) rfl dX10_throwing_2 (fun H locs hP hD hS => ?_)
  refine lv_iconst (v := 0) hx hb dX10_throwing_5 (by decide) ?_
  obtain rfl := Option.some.inj hf
  exact hret _ _ _ _ hP hD hS dX10_throwing_6
set_option maxHeartbeats 4000000 in
set_option maxRecDepth 100000 in
theorem c_fM_in (l : Launch) (dC : Nat → ClassId) (dI : Nat → Nat → Nat) (cI cZ cJ cQ : ClassId) (sz : Nat) {x0 : Int32} {x1 : Int32} {x2 : Int32} {out : Int32} (hf : fM_in x0 x1 x2 = some out) : Met l yX10_in wsX10_in ({ frames := 0, cells := 0, slots := 0, locals := 0 } : Room) (va_Pc [.int x0, .int x1, .int x2] (wlP (dC, dI) (wlT cI cZ cJ cQ) (wl_fM_in cI cZ cJ cQ) sz)) (va_Qi (fun (v : Int32) (_ : Unit) => v = out) (wlQ (dC, dI) (va_A (wl_fM_in cI cZ cJ cQ) sz) (wl_fM_in cI cZ cJ cQ)) (va_A (wl_fM_in cI cZ cJ cQ) sz)) 0 0 (va_A (wl_fM_in cI cZ cJ cQ) sz) := by
  refine wh_ofWz (lv := [(0, .int x0), (1, .int x1), (2, .int x2)]) RX10 (by decide) rfl rfl (Nat.le_of_ble_eq_true rfl) rfl ?_
  intro p e s m below meth c A QQ hx hb hml hown hts hP hK hN hD hA hret ls hl
  have hS : va_S A s.heap s.heap [] := va_S.rf
  unfold fM_in at hf
  refine lv_iload_n hx hb dX10_in_0 rfl (lv_at hl 0 rfl) ?_
  refine lv_iload_n hx hb dX10_in_1 rfl (lv_at hl 1 rfl) ?_
  refine lv_icmp_lt (tgt := 14) hx hb dX10_in_2 (by decide) (fun cc => ?_) (fun cc => ?_)
  · replace hf := hf_pos cc hf
    refine lv_iconst (v := 0) hx hb dX10_in_14 (by decide) ?_
    obtain rfl := Option.some.inj hf
    exact hret _ _ _ _ (by decide) hP hD hS dX10_in_15
  · replace hf := hf_neg cc hf
    refine lv_iload_n hx hb dX10_in_5 rfl (lv_at hl 0 rfl) ?_
    refine lv_iload_n hx hb dX10_in_6 rfl (lv_at hl 2 rfl) ?_
    refine lv_icmp_gt (tgt := 14) hx hb dX10_in_7 (by decide) (fun cc => ?_) (fun cc => ?_)
    · replace hf := hf_pos cc hf
      refine lv_iconst (v := 0) hx hb dX10_in_14 (by decide) ?_
      obtain rfl := Option.some.inj hf
      exact hret _ _ _ _ (by decide) hP hD hS dX10_in_15
    · replace hf := hf_neg cc hf
      refine lv_iconst (v := 1) hx hb dX10_in_10 (by decide) ?_
      refine lv_goto (tgt := 15) hx hb dX10_in_11 (by decide) ?_
      obtain rfl := Option.some.inj hf
      exact hret _ _ _ _ (by decide) hP hD hS dX10_in_15
set_option maxHeartbeats 4000000 in
set_option maxRecDepth 100000 in
theorem c_fM_isCell (l : Launch) (dC : Nat → ClassId) (dI : Nat → Nat → Nat) (cI cZ cJ cQ : ClassId) (sz : Nat) {x0 : Int32} {x1 : Int32} {out : Int32} (hf : fM_isCell x0 x1 = some out) : Met l yX10_isCell wsX10_isCell ({ frames := 1, cells := 0, slots := 0, locals := 22 } : Room) (va_Pc [.int x0, .int x1] (wlP (dC, dI) (wlT cI cZ cJ cQ) (wl_fM_isCell cI cZ cJ cQ) sz)) (va_Qi (fun (v : Int32) (_ : Unit) => v = out) (wlQ (dC, dI) (va_A (wl_fM_isCell cI cZ cJ cQ) sz) (wl_fM_isCell cI cZ cJ cQ)) (va_A (wl_fM_isCell cI cZ cJ cQ) sz)) 0 0 (va_A (wl_fM_isCell cI cZ cJ cQ) sz) := by
  refine wh_ofWz (lv := [(0, .int x0), (1, .int x1)]) RX10 (by decide) rfl rfl (Nat.le_of_ble_eq_true rfl) rfl ?_
  intro p e s m below meth c A QQ hx hb hml hown hts hP hK hN hD hA hret ls hl
  have hS : va_S A s.heap s.heap [] := va_S.rf
  unfold fM_isCell at hf
  refine lv_iload_n hx hb dX10_isCell_0 rfl (lv_at hl 0 rfl) ?_
  refine lv_iconst (v := 0) hx hb dX10_isCell_1 (by decide) ?_
  refine lv_iconst (v := 5) hx hb dX10_isCell_2 (by decide) ?_
  obtain ⟨s1, h_s1, hf⟩ := hf_bind hf
  refine wh_calli (D := (dC, dI)) (ws' := (wl_fM_isCell cI cZ cJ cQ)) (va_runS (As := [.int x0, .int (0 : Int32), .int (5 : Int32)]) (rest := []) ⟨hx, hb, hml, hown, hts⟩ (c_fM_in l dC dI cI cZ cJ cQ _ h_s1) (va_cwS 3 hts gX10_isCell_X10_in rfl rfl rfl (by decide +kernel) ⟨Nat.le_of_ble_eq_true rfl, Nat.le_of_ble_eq_true rfl⟩) (wh_preS hK hN hP hD [] rfl rfl) rfl rfl hl.1 rfl (lv_room (Nat.le_of_ble_eq_true rfl)) dX10_isCell_3 ⟨Nat.le_refl _, Nat.le_refl _⟩) hP hD hS hA [] [] [] rfl rfl rfl rfl (fun H locs hP hD hS => ?_)
  refine lv_if_eq (tgt := 23) hx hb dX10_isCell_6 (by decide) (fun cc => ?_) (fun cc => ?_)
  · replace hf := hf_pos cc hf
    refine lv_iconst (v := 0) hx hb dX10_isCell_23 (by decide) ?_
    obtain rfl := Option.some.inj hf
    exact hret _ _ _ _ (by decide) hP hD hS dX10_isCell_24
  · replace hf := hf_neg cc hf
    refine lv_iload_n hx hb dX10_isCell_9 rfl (lv_at hl 1 rfl) ?_
    refine lv_iconst (v := 0) hx hb dX10_isCell_10 (by decide) ?_
    refine lv_bipush (v := 6) hx hb dX10_isCell_11 (by decide) ?_
    obtain ⟨s2, h_s2, hf⟩ := hf_bind hf
    refine wh_calli (D := (dC, dI)) (ws' := (wl_fM_isCell cI cZ cJ cQ)) (va_runS (As := [.int x1, .int (0 : Int32), .int (6 : Int32)]) (rest := []) ⟨hx, hb, hml, hown, hts⟩ (c_fM_in l dC dI cI cZ cJ cQ _ h_s2) (va_cwS 3 hts gX10_isCell_X10_in rfl rfl rfl (by decide +kernel) ⟨Nat.le_of_ble_eq_true rfl, Nat.le_of_ble_eq_true rfl⟩) (wh_preS hK hN hP hD [] rfl rfl) rfl rfl hl.1 rfl (lv_room (Nat.le_of_ble_eq_true rfl)) dX10_isCell_13 ⟨Nat.le_refl _, Nat.le_refl _⟩) hP hD hS hA [] [] [] rfl rfl rfl rfl (fun H locs hP hD hS => ?_)
    refine lv_if_eq (tgt := 23) hx hb dX10_isCell_16 (by decide) (fun cc => ?_) (fun cc => ?_)
    · replace hf := hf_pos cc hf
      refine lv_iconst (v := 0) hx hb dX10_isCell_23 (by decide) ?_
      obtain rfl := Option.some.inj hf
      exact hret _ _ _ _ (by decide) hP hD hS dX10_isCell_24
    · replace hf := hf_neg cc hf
      refine lv_iconst (v := 1) hx hb dX10_isCell_19 (by decide) ?_
      refine lv_goto (tgt := 24) hx hb dX10_isCell_20 (by decide) ?_
      obtain rfl := Option.some.inj hf
      exact hret _ _ _ _ (by decide) hP hD hS dX10_isCell_24
set_option maxHeartbeats 4000000 in
set_option maxRecDepth 100000 in
theorem c_fM_save (l : Launch) (dC : Nat → ClassId) (dI : Nat → Nat → Nat) (cI cZ cJ cQ : ClassId) (a_0 a_0before a_0s a_0slots a_0isKept a_0buffer a_0cells a_0owner a_0code a_0table a_0isOver a_0isRuled a_0all a_0some a_0chosen a_0last a_0corner a_0wide a_0cuts a_0aside : Nat) (length_0 : Int32) (thrown_0 : Int32) (many_0 : Int32) (round_0 : Int32) (seed_0 : Int64) (hash_0 : Int64) (sz : Nat) {F : Nat} {known_0 : Int32} {before_0 : Nat → Int32} {s_0 : Nat → Int32} {out : (Nat → Int32) × Int32} (hf : fM_save F known_0 before_0 s_0 = some out) : Met l yX10_save wsX10_save ({ frames := 0, cells := 0, slots := 0, locals := 0 } : Room) (va_Pc [.ref a_0] (wlP (dC, dI) (wlT cI cZ cJ cQ) (wl_fM_save cI cZ cJ cQ a_0 a_0before a_0s a_0slots a_0isKept a_0buffer a_0cells a_0owner a_0code a_0table a_0isOver a_0isRuled a_0all a_0some a_0chosen a_0last a_0corner a_0wide a_0cuts a_0aside known_0 length_0 thrown_0 many_0 round_0 seed_0 hash_0 before_0 s_0) sz)) (va_Qv (fun (_ : Unit) => True) (wlQ (dC, dI) (va_A (wl_fM_save cI cZ cJ cQ a_0 a_0before a_0s a_0slots a_0isKept a_0buffer a_0cells a_0owner a_0code a_0table a_0isOver a_0isRuled a_0all a_0some a_0chosen a_0last a_0corner a_0wide a_0cuts a_0aside known_0 length_0 thrown_0 many_0 round_0 seed_0 hash_0 before_0 s_0) sz) (wl_fM_save cI cZ cJ cQ a_0 a_0before a_0s a_0slots a_0isKept a_0buffer a_0cells a_0owner a_0code a_0table a_0isOver a_0isRuled a_0all a_0some a_0chosen a_0last a_0corner a_0wide a_0cuts a_0aside out.2 length_0 thrown_0 many_0 round_0 seed_0 hash_0 out.1 s_0)) (va_A (wl_fM_save cI cZ cJ cQ a_0 a_0before a_0s a_0slots a_0isKept a_0buffer a_0cells a_0owner a_0code a_0table a_0isOver a_0isRuled a_0all a_0some a_0chosen a_0last a_0corner a_0wide a_0cuts a_0aside known_0 length_0 thrown_0 many_0 round_0 seed_0 hash_0 before_0 s_0) sz)) 0 0 (va_A (wl_fM_save cI cZ cJ cQ a_0 a_0before a_0s a_0slots a_0isKept a_0buffer a_0cells a_0owner a_0code a_0table a_0isOver a_0isRuled a_0all a_0some a_0chosen a_0last a_0corner a_0wide a_0cuts a_0aside known_0 length_0 thrown_0 many_0 round_0 seed_0 hash_0 before_0 s_0) sz) := by
  refine wh_ofWv (lv := [(0, .ref a_0)]) RX10 (by decide) rfl rfl (Nat.le_of_ble_eq_true rfl) rfl ?_
  intro p e s m below meth c A QQ hx hb hml hown hts hP hK hN hD hA hret ls hl
  have hS : va_S A s.heap s.heap [] := va_S.rf
  have hiX10 : ∀ w ∈ wsX100, w ∈ wsX10_save := (fun _ h => List.mem_cons_of_mem _ (List.mem_append_right _ (h)))
  unfold fM_save at hf
  refine lv_aload_n hx hb dX10_save_0 rfl (lv_at hl 0 rfl) ?_
  refine va_get (D := (dC, dI)) (ci := 10) (C := RX10) (T := TX10) (N := 26) hx hb hts hiX10 hown hK hP 0 rfl rfl 2 (by decide) (hts (.fieldLink RX10 77 "PaddockFieldsModel" "known" "I") (List.mem_cons_of_mem _ (List.mem_append_left _ (List.mem_of_getElem? (i := 0) rfl)))) (fun _ h9 => h9) rfl dX10_save_1 ?_
  refine lv_bipush (v := 6) hx hb dX10_save_4 (by decide) ?_
  obtain ⟨j4, h_j4, hf⟩ := hf_bind hf
  have hJ_1 : ∀ (H : Heap) (locs : List Loc) (ls : Array Slot), lv_has ls 2 [(0, .ref a_0)] → va_P (dC, dI) vwCl (wl_fM_save cI cZ cJ cQ a_0 a_0before a_0s a_0slots a_0isKept a_0buffer a_0cells a_0owner a_0code a_0table a_0isOver a_0isRuled a_0all a_0some a_0chosen a_0last a_0corner a_0wide a_0cuts a_0aside j4.1 length_0 thrown_0 many_0 round_0 seed_0 hash_0 j4.2 s_0) H → va_D A (wl_fM_save cI cZ cJ cQ a_0 a_0before a_0s a_0slots a_0isKept a_0buffer a_0cells a_0owner a_0code a_0table a_0isOver a_0isRuled a_0all a_0some a_0chosen a_0last a_0corner a_0wide a_0cuts a_0aside j4.1 length_0 thrown_0 many_0 round_0 seed_0 hash_0 j4.2 s_0) → va_S A s.heap H locs → W p l e ({ frames := 0, cells := 0, slots := 0, locals := 0 } : Room) s m [.ref a_0].toArray below meth c H locs 0 0 QQ (F0 m 49 ls []) := by
    intro H locs ls hl hP hD hS
    refine lv_iconst (v := 0) hx hb dX10_save_49 (by decide) ?_
    refine lv_istore_n (lv' := [(1, .int (0 : Int32)), (0, .ref a_0)]) hx hb dX10_save_50 rfl hl (by decide) rfl (fun ls hl => ?_)
    obtain ⟨r7, h_r7, hf⟩ := hf_bind hf
    have hE_2 : ∀ (H : Heap) (locs : List Loc) (ls : Array Slot), lv_has ls 2 [(0, .ref a_0)] → va_P (dC, dI) vwCl (wl_fM_save cI cZ cJ cQ a_0 a_0before a_0s a_0slots a_0isKept a_0buffer a_0cells a_0owner a_0code a_0table a_0isOver a_0isRuled a_0all a_0some a_0chosen a_0last a_0corner a_0wide a_0cuts a_0aside j4.1 length_0 thrown_0 many_0 round_0 seed_0 hash_0 r7.2 s_0) H → va_D A (wl_fM_save cI cZ cJ cQ a_0 a_0before a_0s a_0slots a_0isKept a_0buffer a_0cells a_0owner a_0code a_0table a_0isOver a_0isRuled a_0all a_0some a_0chosen a_0last a_0corner a_0wide a_0cuts a_0aside j4.1 length_0 thrown_0 many_0 round_0 seed_0 hash_0 r7.2 s_0) → va_S A s.heap H locs → W p l e ({ frames := 0, cells := 0, slots := 0, locals := 0 } : Room) s m [.ref a_0].toArray below meth c H locs 0 0 QQ (F0 m 83 ls []) := by
      intro H locs ls hl hP hD hS
      refine lv_aload_n hx hb dX10_save_83 rfl (lv_at hl 0 rfl) ?_
      refine lv_dup hx hb dX10_save_84 rfl ?_
      refine va_get (D := (dC, dI)) (ci := 10) (C := RX10) (T := TX10) (N := 26) hx hb hts hiX10 hown hK hP 0 rfl rfl 2 (by decide) (hts (.fieldLink RX10 77 "PaddockFieldsModel" "known" "I") (List.mem_cons_of_mem _ (List.mem_append_left _ (List.mem_of_getElem? (i := 0) rfl)))) (fun _ h9 => h9) rfl dX10_save_85 ?_
      refine lv_iconst (v := 1) hx hb dX10_save_88 (by decide) ?_
      refine lv_iadd hx hb dX10_save_89 ?_
      refine wh_put (D := (dC, dI)) (ci := 10) (C := RX10) (T := TX10) (N := 26) (ty := .int) (v := .int (j4.1 + (1 : Int32))) (ws' := (wl_fM_save cI cZ cJ cQ a_0 a_0before a_0s a_0slots a_0isKept a_0buffer a_0cells a_0owner a_0code a_0table a_0isOver a_0isRuled a_0all a_0some a_0chosen a_0last a_0corner a_0wide a_0cuts a_0aside (j4.1 + (1 : Int32)) length_0 thrown_0 many_0 round_0 seed_0 hash_0 r7.2 s_0)) hx hb hts hiX10 tyX10 tyX10_ok nmX10 hown hK hP hD hS 0 rfl rfl 2 (by decide) (hts (.fieldLink RX10 77 "PaddockFieldsModel" "known" "I") (List.mem_cons_of_mem _ (List.mem_append_left _ (List.mem_of_getElem? (i := 0) rfl)))) (fun _ h9 => h9) rfl rfl rfl rfl (Nat.le_of_ble_eq_true rfl) rfl dX10_save_90 (fun H locs hP hD hS => ?_)
      obtain rfl := Option.some.inj hf
      exact hret _ _ _ _ hP hD hS dX10_save_93
    have hL_3 : ∀ (N : Nat) (l1_4 : Int32) (before_0_5 : Nat → Int32), fM_save_L51 F j4.1 s_0 N l1_4 before_0_5 = some r7 → ∀ (H : Heap) (locs : List Loc) (ls : Array Slot), lv_has ls 2 [(0, .ref a_0), (1, .int l1_4)] → va_P (dC, dI) vwCl (wl_fM_save cI cZ cJ cQ a_0 a_0before a_0s a_0slots a_0isKept a_0buffer a_0cells a_0owner a_0code a_0table a_0isOver a_0isRuled a_0all a_0some a_0chosen a_0last a_0corner a_0wide a_0cuts a_0aside j4.1 length_0 thrown_0 many_0 round_0 seed_0 hash_0 before_0_5 s_0) H → va_D A (wl_fM_save cI cZ cJ cQ a_0 a_0before a_0s a_0slots a_0isKept a_0buffer a_0cells a_0owner a_0code a_0table a_0isOver a_0isRuled a_0all a_0some a_0chosen a_0last a_0corner a_0wide a_0cuts a_0aside j4.1 length_0 thrown_0 many_0 round_0 seed_0 hash_0 before_0_5 s_0) → va_S A s.heap H locs → W p l e ({ frames := 0, cells := 0, slots := 0, locals := 0 } : Room) s m [.ref a_0].toArray below meth c H locs 0 0 QQ (F0 m 51 ls []) := by
      intro N
      induction N with
      | zero => intro l1_4 before_0_5 hf; exact nomatch (show none = some _ from hf)
      | succ N ih =>
        intro l1_4 before_0_5 hf H locs ls hl hP hD hS
        rw [fM_save_L51] at hf
        refine lv_iload_n hx hb dX10_save_51 rfl (lv_at hl 1 rfl) ?_
        refine lv_bipush (v := 84) hx hb dX10_save_52 (by decide) ?_
        refine lv_icmp_ge (tgt := 83) hx hb dX10_save_54 (by decide) (fun cc => ?_) (fun cc => ?_)
        · replace hf := hf_pos cc hf
          obtain rfl := Option.some.inj hf
          exact hE_2 _ _ _ (lv_sub hl [0] rfl) hP hD hS
        · replace hf := hf_neg cc hf
          refine lv_aload_n hx hb dX10_save_57 rfl (lv_at hl 0 rfl) ?_
          refine va_get (D := (dC, dI)) (ci := 10) (C := RX10) (T := TX10) (N := 26) hx hb hts hiX10 hown hK hP 0 rfl rfl 1 (by decide) (hts (.fieldLink RX10 13 "PaddockFieldsModel" "before" "[I") (List.mem_cons_of_mem _ (List.mem_append_left _ (List.mem_of_getElem? (i := 1) rfl)))) (fun _ h9 => h9) rfl dX10_save_58 ?_
          refine lv_bipush (v := 84) hx hb dX10_save_61 (by decide) ?_
          refine lv_aload_n hx hb dX10_save_63 rfl (lv_at hl 0 rfl) ?_
          refine va_get (D := (dC, dI)) (ci := 10) (C := RX10) (T := TX10) (N := 26) hx hb hts hiX10 hown hK hP 0 rfl rfl 2 (by decide) (hts (.fieldLink RX10 77 "PaddockFieldsModel" "known" "I") (List.mem_cons_of_mem _ (List.mem_append_left _ (List.mem_of_getElem? (i := 0) rfl)))) (fun _ h9 => h9) rfl dX10_save_64 ?_
          refine lv_imul hx hb dX10_save_67 ?_
          refine lv_iload_n hx hb dX10_save_68 rfl (lv_at hl 1 rfl) ?_
          refine lv_iadd hx hb dX10_save_69 ?_
          refine lv_aload_n hx hb dX10_save_70 rfl (lv_at hl 0 rfl) ?_
          refine va_get (D := (dC, dI)) (ci := 10) (C := RX10) (T := TX10) (N := 26) hx hb hts hiX10 hown hK hP 0 rfl rfl 0 (by decide) (hts (.fieldLink RX10 7 "PaddockFieldsModel" "s" "[I") (List.mem_cons_of_mem _ (List.mem_append_left _ (List.mem_of_getElem? (i := 2) rfl)))) (fun _ h9 => h9) rfl dX10_save_71 ?_
          refine lv_iload_n hx hb dX10_save_74 rfl (lv_at hl 1 rfl) ?_
          obtain ⟨v5, h_v5, hf⟩ := hf_bind hf
          refine wh_ldI (D := (dC, dI)) hx hb hK hP 2 0 rfl rfl h_v5 dX10_save_75 ?_
          obtain ⟨w6, h_w6, hf⟩ := hf_bind hf
          refine wh_stI (D := (dC, dI)) (ws' := (wl_fM_save cI cZ cJ cQ a_0 a_0before a_0s a_0slots a_0isKept a_0buffer a_0cells a_0owner a_0code a_0table a_0isOver a_0isRuled a_0all a_0some a_0chosen a_0last a_0corner a_0wide a_0cuts a_0aside j4.1 length_0 thrown_0 many_0 round_0 seed_0 hash_0 w6 s_0)) hx hb hK hP hD hS 1 0 rfl rfl rfl h_w6 dX10_save_76 (fun H locs hP hD hS => ?_)
          refine lv_iinc (v := (l1_4 + (1 : Int32))) (lv' := [(1, .int (l1_4 + (1 : Int32))), (0, .ref a_0)]) hx hb dX10_save_77 hl (k := 1) rfl rfl (by decide) rfl (fun ls hl => ?_)
          refine lv_goto (tgt := 51) hx hb dX10_save_80 (by decide) ?_
          exact ih _ _ hf _ _ _ (lv_sub hl [1, 0] rfl) hP hD hS
    exact hL_3 _ _ _ h_r7 _ _ _ (lv_sub hl [1, 0] rfl) hP hD hS
  clear hf
  have hf := h_j4
  clear h_j4
  refine lv_icmp_ne (tgt := 49) hx hb dX10_save_6 (by decide) (fun cc => ?_) (fun cc => ?_)
  · replace hf := hf_pos cc hf
    obtain rfl := Option.some.inj hf
    exact hJ_1 _ _ _ (lv_sub hl [0] rfl) hP hD hS
  · replace hf := hf_neg (not_not_intro cc) hf
    refine lv_iconst (v := 0) hx hb dX10_save_9 (by decide) ?_
    refine lv_istore_n (lv' := [(1, .int (0 : Int32)), (0, .ref a_0)]) hx hb dX10_save_10 rfl hl (by decide) rfl (fun ls hl => ?_)
    obtain ⟨r3, h_r3, hf⟩ := hf_bind hf
    have hE_6 : ∀ (H : Heap) (locs : List Loc) (ls : Array Slot), lv_has ls 2 [(0, .ref a_0)] → va_P (dC, dI) vwCl (wl_fM_save cI cZ cJ cQ a_0 a_0before a_0s a_0slots a_0isKept a_0buffer a_0cells a_0owner a_0code a_0table a_0isOver a_0isRuled a_0all a_0some a_0chosen a_0last a_0corner a_0wide a_0cuts a_0aside known_0 length_0 thrown_0 many_0 round_0 seed_0 hash_0 r3.2 s_0) H → va_D A (wl_fM_save cI cZ cJ cQ a_0 a_0before a_0s a_0slots a_0isKept a_0buffer a_0cells a_0owner a_0code a_0table a_0isOver a_0isRuled a_0all a_0some a_0chosen a_0last a_0corner a_0wide a_0cuts a_0aside known_0 length_0 thrown_0 many_0 round_0 seed_0 hash_0 r3.2 s_0) → va_S A s.heap H locs → W p l e ({ frames := 0, cells := 0, slots := 0, locals := 0 } : Room) s m [.ref a_0].toArray below meth c H locs 0 0 QQ (F0 m 39 ls []) := by
      intro H locs ls hl hP hD hS
      refine lv_aload_n hx hb dX10_save_39 rfl (lv_at hl 0 rfl) ?_
      refine lv_dup hx hb dX10_save_40 rfl ?_
      refine va_get (D := (dC, dI)) (ci := 10) (C := RX10) (T := TX10) (N := 26) hx hb hts hiX10 hown hK hP 0 rfl rfl 2 (by decide) (hts (.fieldLink RX10 77 "PaddockFieldsModel" "known" "I") (List.mem_cons_of_mem _ (List.mem_append_left _ (List.mem_of_getElem? (i := 0) rfl)))) (fun _ h9 => h9) rfl dX10_save_41 ?_
      refine lv_iconst (v := 1) hx hb dX10_save_44 (by decide) ?_
      refine lv_isub hx hb dX10_save_45 ?_
      refine wh_put (D := (dC, dI)) (ci := 10) (C := RX10) (T := TX10) (N := 26) (ty := .int) (v := .int (known_0 - (1 : Int32))) (ws' := (wl_fM_save cI cZ cJ cQ a_0 a_0before a_0s a_0slots a_0isKept a_0buffer a_0cells a_0owner a_0code a_0table a_0isOver a_0isRuled a_0all a_0some a_0chosen a_0last a_0corner a_0wide a_0cuts a_0aside (known_0 - (1 : Int32)) length_0 thrown_0 many_0 round_0 seed_0 hash_0 r3.2 s_0)) hx hb hts hiX10 tyX10 tyX10_ok nmX10 hown hK hP hD hS 0 rfl rfl 2 (by decide) (hts (.fieldLink RX10 77 "PaddockFieldsModel" "known" "I") (List.mem_cons_of_mem _ (List.mem_append_left _ (List.mem_of_getElem? (i := 0) rfl)))) (fun _ h9 => h9) rfl rfl rfl rfl (Nat.le_of_ble_eq_true rfl) rfl dX10_save_46 (fun H locs hP hD hS => ?_)
      obtain rfl := Option.some.inj hf
      exact hJ_1 _ _ _ (lv_sub hl [0] rfl) hP hD hS
    have hL_7 : ∀ (N : Nat) (l1_8 : Int32) (before_0_9 : Nat → Int32), fM_save_L11 F N l1_8 before_0_9 = some r3 → ∀ (H : Heap) (locs : List Loc) (ls : Array Slot), lv_has ls 2 [(0, .ref a_0), (1, .int l1_8)] → va_P (dC, dI) vwCl (wl_fM_save cI cZ cJ cQ a_0 a_0before a_0s a_0slots a_0isKept a_0buffer a_0cells a_0owner a_0code a_0table a_0isOver a_0isRuled a_0all a_0some a_0chosen a_0last a_0corner a_0wide a_0cuts a_0aside known_0 length_0 thrown_0 many_0 round_0 seed_0 hash_0 before_0_9 s_0) H → va_D A (wl_fM_save cI cZ cJ cQ a_0 a_0before a_0s a_0slots a_0isKept a_0buffer a_0cells a_0owner a_0code a_0table a_0isOver a_0isRuled a_0all a_0some a_0chosen a_0last a_0corner a_0wide a_0cuts a_0aside known_0 length_0 thrown_0 many_0 round_0 seed_0 hash_0 before_0_9 s_0) → va_S A s.heap H locs → W p l e ({ frames := 0, cells := 0, slots := 0, locals := 0 } : Room) s m [.ref a_0].toArray below meth c H locs 0 0 QQ (F0 m 11 ls []) := by
      intro N
      induction N with
      | zero => intro l1_8 before_0_9 hf; exact nomatch (show none = some _ from hf)
      | succ N ih =>
        intro l1_8 before_0_9 hf H locs ls hl hP hD hS
        rw [fM_save_L11] at hf
        refine lv_iload_n hx hb dX10_save_11 rfl (lv_at hl 1 rfl) ?_
        refine lv_sipush (v := 420) hx hb dX10_save_12 (by decide) ?_
        refine lv_icmp_ge (tgt := 39) hx hb dX10_save_15 (by decide) (fun cc => ?_) (fun cc => ?_)
        · replace hf := hf_pos cc hf
          obtain rfl := Option.some.inj hf
          exact hE_6 _ _ _ (lv_sub hl [0] rfl) hP hD hS
        · replace hf := hf_neg cc hf
          refine lv_aload_n hx hb dX10_save_18 rfl (lv_at hl 0 rfl) ?_
          refine va_get (D := (dC, dI)) (ci := 10) (C := RX10) (T := TX10) (N := 26) hx hb hts hiX10 hown hK hP 0 rfl rfl 1 (by decide) (hts (.fieldLink RX10 13 "PaddockFieldsModel" "before" "[I") (List.mem_cons_of_mem _ (List.mem_append_left _ (List.mem_of_getElem? (i := 1) rfl)))) (fun _ h9 => h9) rfl dX10_save_19 ?_
          refine lv_iload_n hx hb dX10_save_22 rfl (lv_at hl 1 rfl) ?_
          refine lv_aload_n hx hb dX10_save_23 rfl (lv_at hl 0 rfl) ?_
          refine va_get (D := (dC, dI)) (ci := 10) (C := RX10) (T := TX10) (N := 26) hx hb hts hiX10 hown hK hP 0 rfl rfl 1 (by decide) (hts (.fieldLink RX10 13 "PaddockFieldsModel" "before" "[I") (List.mem_cons_of_mem _ (List.mem_append_left _ (List.mem_of_getElem? (i := 1) rfl)))) (fun _ h9 => h9) rfl dX10_save_24 ?_
          refine lv_bipush (v := 84) hx hb dX10_save_27 (by decide) ?_
          refine lv_iload_n hx hb dX10_save_29 rfl (lv_at hl 1 rfl) ?_
          refine lv_iadd hx hb dX10_save_30 ?_
          obtain ⟨v1, h_v1, hf⟩ := hf_bind hf
          refine wh_ldI (D := (dC, dI)) hx hb hK hP 1 0 rfl rfl h_v1 dX10_save_31 ?_
          obtain ⟨w2, h_w2, hf⟩ := hf_bind hf
          refine wh_stI (D := (dC, dI)) (ws' := (wl_fM_save cI cZ cJ cQ a_0 a_0before a_0s a_0slots a_0isKept a_0buffer a_0cells a_0owner a_0code a_0table a_0isOver a_0isRuled a_0all a_0some a_0chosen a_0last a_0corner a_0wide a_0cuts a_0aside known_0 length_0 thrown_0 many_0 round_0 seed_0 hash_0 w2 s_0)) hx hb hK hP hD hS 1 0 rfl rfl rfl h_w2 dX10_save_32 (fun H locs hP hD hS => ?_)
          refine lv_iinc (v := (l1_8 + (1 : Int32))) (lv' := [(1, .int (l1_8 + (1 : Int32))), (0, .ref a_0)]) hx hb dX10_save_33 hl (k := 1) rfl rfl (by decide) rfl (fun ls hl => ?_)
          refine lv_goto (tgt := 11) hx hb dX10_save_36 (by decide) ?_
          exact ih _ _ hf _ _ _ (lv_sub hl [1, 0] rfl) hP hD hS
    exact hL_7 _ _ _ h_r3 _ _ _ (lv_sub hl [1, 0] rfl) hP hD hS
set_option maxHeartbeats 4000000 in
set_option maxRecDepth 100000 in
theorem c_fM_rectangle (l : Launch) (dC : Nat → ClassId) (dI : Nat → Nat → Nat) (cI cZ cJ cQ : ClassId) (sz : Nat) {F : Nat} {x0 : Int32} {x1 : Int32} {x2 : Int32} {x3 : Int32} {out : Int64} (hf : fM_rectangle F x0 x1 x2 x3 = some out) : Met l yX10_rectangle wsX10_rectangle ({ frames := 0, cells := 0, slots := 0, locals := 0 } : Room) (va_Pc [.int x0, .int x1, .int x2, .int x3] (wlP (dC, dI) (wlT cI cZ cJ cQ) (wl_fM_rectangle cI cZ cJ cQ) sz)) (va_Ql (fun (v : Int64) (_ : Unit) => v = out) (wlQ (dC, dI) (va_A (wl_fM_rectangle cI cZ cJ cQ) sz) (wl_fM_rectangle cI cZ cJ cQ)) (va_A (wl_fM_rectangle cI cZ cJ cQ) sz)) 0 0 (va_A (wl_fM_rectangle cI cZ cJ cQ) sz) := by
  refine wh_ofWl (lv := [(0, .int x0), (1, .int x1), (2, .int x2), (3, .int x3)]) RX10 (by decide) rfl rfl (Nat.le_of_ble_eq_true rfl) rfl ?_
  intro p e s m below meth c A QQ hx hb hml hown hts hP hK hN hD hA hret ls hl
  have hS : va_S A s.heap s.heap [] := va_S.rf
  unfold fM_rectangle at hf
  refine lv_lconst (v := 0) hx hb dX10_rectangle_0 (by decide) ?_
  refine lv_lstore (lv' := [(4, .long (0 : Int64)), (0, .int x0), (1, .int x1), (2, .int x2), (3, .int x3)]) hx hb dX10_rectangle_1 hl (by decide) rfl (fun ls hl => ?_)
  refine lv_iload_n hx hb dX10_rectangle_3 rfl (lv_at hl 1 rfl) ?_
  refine lv_istore (lv' := [(6, .int x0), (4, .long (0 : Int64)), (0, .int x0), (1, .int x1), (2, .int x2), (3, .int x3)]) hx hb dX10_rectangle_4 hl (by decide) rfl (fun ls hl => ?_)
  obtain ⟨r2, h_r2, hf⟩ := hf_bind hf
  have hE_1 : ∀ (H : Heap) (locs : List Loc) (ls : Array Slot), lv_has ls 8 [(4, .long r2.1)] → va_P (dC, dI) vwCl (wl_fM_rectangle cI cZ cJ cQ) H → va_D A (wl_fM_rectangle cI cZ cJ cQ) → va_S A s.heap H locs → W p l e ({ frames := 0, cells := 0, slots := 0, locals := 0 } : Room) s m [.int x0, .int x1, .int x2, .int x3].toArray below meth c H locs 0 0 QQ (F0 m 48 ls []) := by
    intro H locs ls hl hP hD hS
    refine lv_lload hx hb dX10_rectangle_48 (lv_at hl 0 rfl) ?_
    obtain rfl := Option.some.inj hf
    exact hret _ _ _ _ hP hD hS dX10_rectangle_50
  have hL_2 : ∀ (N : Nat) (l4_3 : Int64) (l6_4 : Int32), fM_rectangle_L6 F x1 x2 x3 N l4_3 l6_4 = some r2 → ∀ (H : Heap) (locs : List Loc) (ls : Array Slot), lv_has ls 8 [(1, .int x1), (2, .int x2), (3, .int x3), (4, .long l4_3), (6, .int l6_4)] → va_P (dC, dI) vwCl (wl_fM_rectangle cI cZ cJ cQ) H → va_D A (wl_fM_rectangle cI cZ cJ cQ) → va_S A s.heap H locs → W p l e ({ frames := 0, cells := 0, slots := 0, locals := 0 } : Room) s m [.int x0, .int x1, .int x2, .int x3].toArray below meth c H locs 0 0 QQ (F0 m 6 ls []) := by
    intro N
    induction N with
    | zero => intro l4_3 l6_4 hf; exact nomatch (show none = some _ from hf)
    | succ N ih =>
      intro l4_3 l6_4 hf H locs ls hl hP hD hS
      rw [fM_rectangle_L6] at hf
      refine lv_iload hx hb dX10_rectangle_6 (lv_at hl 4 rfl) ?_
      refine lv_iload_n hx hb dX10_rectangle_8 rfl (lv_at hl 1 rfl) ?_
      refine lv_icmp_gt (tgt := 48) hx hb dX10_rectangle_9 (by decide) (fun cc => ?_) (fun cc => ?_)
      · replace hf := hf_pos cc hf
        obtain rfl := Option.some.inj hf
        exact hE_1 _ _ _ (lv_sub hl [3] rfl) hP hD hS
      · replace hf := hf_neg cc hf
        refine lv_iload_n hx hb dX10_rectangle_12 rfl (lv_at hl 0 rfl) ?_
        refine lv_istore (lv' := [(7, .int x1), (1, .int x1), (2, .int x2), (3, .int x3), (4, .long l4_3), (6, .int l6_4)]) hx hb dX10_rectangle_13 hl (by decide) rfl (fun ls hl => ?_)
        obtain ⟨r1, h_r1, hf⟩ := hf_bind hf
        have hE_5 : ∀ (H : Heap) (locs : List Loc) (ls : Array Slot), lv_has ls 8 [(1, .int x1), (2, .int x2), (3, .int x3), (4, .long r1.1), (6, .int l6_4)] → va_P (dC, dI) vwCl (wl_fM_rectangle cI cZ cJ cQ) H → va_D A (wl_fM_rectangle cI cZ cJ cQ) → va_S A s.heap H locs → W p l e ({ frames := 0, cells := 0, slots := 0, locals := 0 } : Room) s m [.int x0, .int x1, .int x2, .int x3].toArray below meth c H locs 0 0 QQ (F0 m 42 ls []) := by
          intro H locs ls hl hP hD hS
          refine lv_iinc (v := (l6_4 + (1 : Int32))) (lv' := [(6, .int (l6_4 + (1 : Int32))), (1, .int x1), (2, .int x2), (3, .int x3), (4, .long r1.1)]) hx hb dX10_rectangle_42 hl (k := 4) rfl rfl (by decide) rfl (fun ls hl => ?_)
          refine lv_goto (tgt := 6) hx hb dX10_rectangle_45 (by decide) ?_
          exact ih _ _ hf _ _ _ (lv_sub hl [1, 2, 3, 4, 0] rfl) hP hD hS
        have hL_6 : ∀ (N : Nat) (l4_7 : Int64) (l7_8 : Int32), fM_rectangle_L15 F x3 l6_4 N l4_7 l7_8 = some r1 → ∀ (H : Heap) (locs : List Loc) (ls : Array Slot), lv_has ls 8 [(1, .int x1), (2, .int x2), (3, .int x3), (4, .long l4_7), (6, .int l6_4), (7, .int l7_8)] → va_P (dC, dI) vwCl (wl_fM_rectangle cI cZ cJ cQ) H → va_D A (wl_fM_rectangle cI cZ cJ cQ) → va_S A s.heap H locs → W p l e ({ frames := 0, cells := 0, slots := 0, locals := 0 } : Room) s m [.int x0, .int x1, .int x2, .int x3].toArray below meth c H locs 0 0 QQ (F0 m 15 ls []) := by
          intro N
          induction N with
          | zero => intro l4_7 l7_8 hf; exact nomatch (show none = some _ from hf)
          | succ N ih =>
            intro l4_7 l7_8 hf H locs ls hl hP hD hS
            rw [fM_rectangle_L15] at hf
            refine lv_iload hx hb dX10_rectangle_15 (lv_at hl 5 rfl) ?_
            refine lv_iload_n hx hb dX10_rectangle_17 rfl (lv_at hl 2 rfl) ?_
            refine lv_icmp_gt (tgt := 42) hx hb dX10_rectangle_18 (by decide) (fun cc => ?_) (fun cc => ?_)
            · replace hf := hf_pos cc hf
              obtain rfl := Option.some.inj hf
              exact hE_5 _ _ _ (lv_sub hl [0, 1, 2, 3, 4] rfl) hP hD hS
            · replace hf := hf_neg cc hf
              refine lv_lload hx hb dX10_rectangle_21 (lv_at hl 3 rfl) ?_
              refine lv_lconst (v := 1) hx hb dX10_rectangle_23 (by decide) ?_
              refine lv_bipush (v := 7) hx hb dX10_rectangle_24 (by decide) ?_
              refine lv_iload hx hb dX10_rectangle_26 (lv_at hl 4 rfl) ?_
              refine lv_imul hx hb dX10_rectangle_28 ?_
              refine lv_iload hx hb dX10_rectangle_29 (lv_at hl 5 rfl) ?_
              refine lv_iadd hx hb dX10_rectangle_31 ?_
              refine lv_lshl hx hb dX10_rectangle_32 rfl ?_
              refine lv_lor hx hb dX10_rectangle_33 ?_
              refine lv_lstore (lv' := [(4, .long (l4_7 ||| ((1 : Int64) <<< ((((7 : Int32) * l6_4) + l7_8).toInt64 &&& 63)))), (1, .int x1), (2, .int x2), (3, .int x3), (6, .int l6_4), (7, .int l7_8)]) hx hb dX10_rectangle_34 hl (by decide) rfl (fun ls hl => ?_)
              refine lv_iinc (v := (l7_8 + (1 : Int32))) (lv' := [(7, .int (l7_8 + (1 : Int32))), (4, .long (l4_7 ||| ((1 : Int64) <<< ((((7 : Int32) * l6_4) + l7_8).toInt64 &&& 63)))), (1, .int x1), (2, .int x2), (3, .int x3), (6, .int l6_4)]) hx hb dX10_rectangle_36 hl (k := 5) rfl rfl (by decide) rfl (fun ls hl => ?_)
              refine lv_goto (tgt := 15) hx hb dX10_rectangle_39 (by decide) ?_
              exact ih _ _ hf _ _ _ (lv_sub hl [2, 3, 4, 1, 5, 0] rfl) hP hD hS
        exact hL_6 _ _ _ h_r1 _ _ _ (lv_sub hl [1, 2, 3, 4, 5, 0] rfl) hP hD hS
  exact hL_2 _ _ _ h_r2 _ _ _ (lv_sub hl [3, 4, 5, 1, 0] rfl) hP hD hS
set_option maxHeartbeats 4000000 in
set_option maxRecDepth 100000 in
theorem c_fM_has (l : Launch) (dC : Nat → ClassId) (dI : Nat → Nat → Nat) (cI cZ cJ cQ : ClassId) (sz : Nat) {x0 : Int64} {x1 : Int32} {out : Int32} (hf : fM_has x0 x1 = some out) : Met l yX10_has wsX10_has ({ frames := 0, cells := 0, slots := 0, locals := 0 } : Room) (va_Pc [.long x0, .int x1] (wlP (dC, dI) (wlT cI cZ cJ cQ) (wl_fM_has cI cZ cJ cQ) sz)) (va_Qi (fun (v : Int32) (_ : Unit) => v = out) (wlQ (dC, dI) (va_A (wl_fM_has cI cZ cJ cQ) sz) (wl_fM_has cI cZ cJ cQ)) (va_A (wl_fM_has cI cZ cJ cQ) sz)) 0 0 (va_A (wl_fM_has cI cZ cJ cQ) sz) := by
  refine wh_ofWz (lv := [(0, .long x0), (2, .int x1)]) RX10 (by decide) rfl rfl (Nat.le_of_ble_eq_true rfl) rfl ?_
  intro p e s m below meth c A QQ hx hb hml hown hts hP hK hN hD hA hret ls hl
  have hS : va_S A s.heap s.heap [] := va_S.rf
  unfold fM_has at hf
  refine lv_lload_n hx hb dX10_has_0 rfl (lv_at hl 0 rfl) ?_
  refine lv_iload_n hx hb dX10_has_1 rfl (lv_at hl 1 rfl) ?_
  refine lv_lshr hx hb dX10_has_2 rfl ?_
  refine lv_lconst (v := 1) hx hb dX10_has_3 (by decide) ?_
  refine lv_land hx hb dX10_has_4 ?_
  refine lv_lconst (v := 1) hx hb dX10_has_5 (by decide) ?_
  refine W.lcmp hx hb dX10_has_6 ?_
  refine lv_if_ne (tgt := 14) hx hb dX10_has_7 (by decide) (fun cc => ?_) (fun cc => ?_)
  · replace hf := hf_pos (mt (lg_cmp_eq _ _).mpr cc) hf
    refine lv_iconst (v := 0) hx hb dX10_has_14 (by decide) ?_
    obtain rfl := Option.some.inj hf
    exact hret _ _ _ _ (by decide) hP hD hS dX10_has_15
  · replace hf := hf_neg (not_not_intro ((lg_cmp_eq _ _).mp cc)) hf
    refine lv_iconst (v := 1) hx hb dX10_has_10 (by decide) ?_
    refine lv_goto (tgt := 15) hx hb dX10_has_11 (by decide) ?_
    obtain rfl := Option.some.inj hf
    exact hret _ _ _ _ (by decide) hP hD hS dX10_has_15
set_option maxHeartbeats 4000000 in
set_option maxRecDepth 100000 in
theorem c_fM_bits (l : Launch) (dC : Nat → ClassId) (dI : Nat → Nat → Nat) (cI cZ cJ cQ : ClassId) (sz : Nat) {F : Nat} {x0 : Int64} {out : Int32} (hf : fM_bits F x0 = some out) : Met l yX10_bits wsX10_bits ({ frames := 1, cells := 0, slots := 0, locals := 22 } : Room) (va_Pc [.long x0] (wlP (dC, dI) (wlT cI cZ cJ cQ) (wl_fM_bits cI cZ cJ cQ) sz)) (va_Qi (fun (v : Int32) (_ : Unit) => v = out) (wlQ (dC, dI) (va_A (wl_fM_bits cI cZ cJ cQ) sz) (wl_fM_bits cI cZ cJ cQ)) (va_A (wl_fM_bits cI cZ cJ cQ) sz)) 0 0 (va_A (wl_fM_bits cI cZ cJ cQ) sz) := by
  refine wh_ofWi (lv := [(0, .long x0)]) RX10 (by decide) rfl rfl (Nat.le_of_ble_eq_true rfl) rfl ?_
  intro p e s m below meth c A QQ hx hb hml hown hts hP hK hN hD hA hret ls hl
  have hS : va_S A s.heap s.heap [] := va_S.rf
  unfold fM_bits at hf
  refine lv_iconst (v := 0) hx hb dX10_bits_0 (by decide) ?_
  refine lv_istore_n (lv' := [(2, .int (0 : Int32)), (0, .long x0)]) hx hb dX10_bits_1 rfl hl (by decide) rfl (fun ls hl => ?_)
  refine lv_iconst (v := 0) hx hb dX10_bits_2 (by decide) ?_
  refine lv_istore_n (lv' := [(3, .int (0 : Int32)), (2, .int (0 : Int32)), (0, .long x0)]) hx hb dX10_bits_3 rfl hl (by decide) rfl (fun ls hl => ?_)
  obtain ⟨r3, h_r3, hf⟩ := hf_bind hf
  have hE_1 : ∀ (H : Heap) (locs : List Loc) (ls : Array Slot), lv_has ls 4 [(2, .int r3.1)] → va_P (dC, dI) vwCl (wl_fM_bits cI cZ cJ cQ) H → va_D A (wl_fM_bits cI cZ cJ cQ) → va_S A s.heap H locs → W p l e ({ frames := 1, cells := 0, slots := 0, locals := 22 } : Room) s m [.long x0].toArray below meth c H locs 0 0 QQ (F0 m 32 ls []) := by
    intro H locs ls hl hP hD hS
    refine lv_iload_n hx hb dX10_bits_32 rfl (lv_at hl 0 rfl) ?_
    obtain rfl := Option.some.inj hf
    exact hret _ _ _ _ hP hD hS dX10_bits_33
  have hL_2 : ∀ (N : Nat) (l2_3 : Int32) (l3_4 : Int32), fM_bits_L4 F x0 N l2_3 l3_4 = some r3 → ∀ (H : Heap) (locs : List Loc) (ls : Array Slot), lv_has ls 4 [(0, .long x0), (2, .int l2_3), (3, .int l3_4)] → va_P (dC, dI) vwCl (wl_fM_bits cI cZ cJ cQ) H → va_D A (wl_fM_bits cI cZ cJ cQ) → va_S A s.heap H locs → W p l e ({ frames := 1, cells := 0, slots := 0, locals := 22 } : Room) s m [.long x0].toArray below meth c H locs 0 0 QQ (F0 m 4 ls []) := by
    intro N
    induction N with
    | zero => intro l2_3 l3_4 hf; exact nomatch (show none = some _ from hf)
    | succ N ih =>
      intro l2_3 l3_4 hf H locs ls hl hP hD hS
      rw [fM_bits_L4] at hf
      refine lv_iload_n hx hb dX10_bits_4 rfl (lv_at hl 2 rfl) ?_
      refine lv_bipush (v := 42) hx hb dX10_bits_5 (by decide) ?_
      refine lv_icmp_ge (tgt := 32) hx hb dX10_bits_7 (by decide) (fun cc => ?_) (fun cc => ?_)
      · replace hf := hf_pos cc hf
        obtain rfl := Option.some.inj hf
        exact hE_1 _ _ _ (lv_sub hl [1] rfl) hP hD hS
      · replace hf := hf_neg cc hf
        refine lv_iload_n hx hb dX10_bits_10 rfl (lv_at hl 1 rfl) ?_
        refine lv_lload_n hx hb dX10_bits_11 rfl (lv_at hl 0 rfl) ?_
        refine lv_iload_n hx hb dX10_bits_12 rfl (lv_at hl 2 rfl) ?_
        obtain ⟨s1, h_s1, hf⟩ := hf_bind hf
        refine wh_calli (D := (dC, dI)) (ws' := (wl_fM_bits cI cZ cJ cQ)) (va_runS (As := [.long x0, .int l3_4]) (rest := [.int l2_3]) ⟨hx, hb, hml, hown, hts⟩ (c_fM_has l dC dI cI cZ cJ cQ _ h_s1) (va_cwS 2 hts gX10_bits_X10_has rfl rfl rfl (by decide +kernel) ⟨Nat.le_of_ble_eq_true rfl, Nat.le_of_ble_eq_true rfl⟩) (wh_preS hK hN hP hD [] rfl rfl) rfl rfl hl.1 rfl (lv_room (Nat.le_of_ble_eq_true rfl)) dX10_bits_13 ⟨Nat.le_refl _, Nat.le_refl _⟩) hP hD hS hA [] [] [] rfl rfl rfl rfl (fun H locs hP hD hS => ?_)
        obtain ⟨j2, h_j2, hf⟩ := hf_bind hf
        have hJ_5 : ∀ (H : Heap) (locs : List Loc) (ls : Array Slot), lv_has ls 4 [(0, .long x0), (3, .int l3_4)] → va_P (dC, dI) vwCl (wl_fM_bits cI cZ cJ cQ) H → va_D A (wl_fM_bits cI cZ cJ cQ) → va_S A s.heap H locs → W p l e ({ frames := 1, cells := 0, slots := 0, locals := 22 } : Room) s m [.long x0].toArray below meth c H locs 0 0 QQ (F0 m 24 ls [.int j2, .int l2_3]) := by
          intro H locs ls hl hP hD hS
          refine lv_iadd hx hb dX10_bits_24 ?_
          refine lv_istore_n (lv' := [(2, .int (l2_3 + j2)), (0, .long x0), (3, .int l3_4)]) hx hb dX10_bits_25 rfl hl (by decide) rfl (fun ls hl => ?_)
          refine lv_iinc (v := (l3_4 + (1 : Int32))) (lv' := [(3, .int (l3_4 + (1 : Int32))), (2, .int (l2_3 + j2)), (0, .long x0)]) hx hb dX10_bits_26 hl (k := 2) rfl rfl (by decide) rfl (fun ls hl => ?_)
          refine lv_goto (tgt := 4) hx hb dX10_bits_29 (by decide) ?_
          exact ih _ _ hf _ _ _ (lv_sub hl [2, 1, 0] rfl) hP hD hS
        clear hf
        have hf := h_j2
        clear h_j2
        refine lv_if_eq (tgt := 23) hx hb dX10_bits_16 (by decide) (fun cc => ?_) (fun cc => ?_)
        · replace hf := hf_pos cc hf
          refine lv_iconst (v := 0) hx hb dX10_bits_23 (by decide) ?_
          obtain rfl := Option.some.inj hf
          exact hJ_5 _ _ _ (lv_sub hl [0, 2] rfl) hP hD hS
        · replace hf := hf_neg cc hf
          refine lv_iconst (v := 1) hx hb dX10_bits_19 (by decide) ?_
          refine lv_goto (tgt := 24) hx hb dX10_bits_20 (by decide) ?_
          obtain rfl := Option.some.inj hf
          exact hJ_5 _ _ _ (lv_sub hl [0, 2] rfl) hP hD hS
  exact hL_2 _ _ _ h_r3 _ _ _ (lv_sub hl [2, 1, 0] rfl) hP hD hS
set_option maxHeartbeats 4000000 in
set_option maxRecDepth 100000 in
theorem c_fM_lowest (l : Launch) (dC : Nat → ClassId) (dI : Nat → Nat → Nat) (cI cZ cJ cQ : ClassId) (sz : Nat) {F : Nat} {x0 : Int64} {out : Int32} (hf : fM_lowest F x0 = some out) : Met l yX10_lowest wsX10_lowest ({ frames := 1, cells := 0, slots := 0, locals := 22 } : Room) (va_Pc [.long x0] (wlP (dC, dI) (wlT cI cZ cJ cQ) (wl_fM_lowest cI cZ cJ cQ) sz)) (va_Qi (fun (v : Int32) (_ : Unit) => v = out) (wlQ (dC, dI) (va_A (wl_fM_lowest cI cZ cJ cQ) sz) (wl_fM_lowest cI cZ cJ cQ)) (va_A (wl_fM_lowest cI cZ cJ cQ) sz)) 0 0 (va_A (wl_fM_lowest cI cZ cJ cQ) sz) := by
  refine wh_ofWi (lv := [(0, .long x0)]) RX10 (by decide) rfl rfl (Nat.le_of_ble_eq_true rfl) rfl ?_
  intro p e s m below meth c A QQ hx hb hml hown hts hP hK hN hD hA hret ls hl
  have hS : va_S A s.heap s.heap [] := va_S.rf
  unfold fM_lowest at hf
  refine lv_iconst (v := 0) hx hb dX10_lowest_0 (by decide) ?_
  refine lv_istore_n (lv' := [(2, .int (0 : Int32)), (0, .long x0)]) hx hb dX10_lowest_1 rfl hl (by decide) rfl (fun ls hl => ?_)
  obtain ⟨r2, h_r2, hf⟩ := hf_bind hf
  have hE_1 : ∀ (H : Heap) (locs : List Loc) (ls : Array Slot), lv_has ls 3 [(2, .int r2)] → va_P (dC, dI) vwCl (wl_fM_lowest cI cZ cJ cQ) H → va_D A (wl_fM_lowest cI cZ cJ cQ) → va_S A s.heap H locs → W p l e ({ frames := 1, cells := 0, slots := 0, locals := 22 } : Room) s m [.long x0].toArray below meth c H locs 0 0 QQ (F0 m 22 ls []) := by
    intro H locs ls hl hP hD hS
    refine lv_iload_n hx hb dX10_lowest_22 rfl (lv_at hl 0 rfl) ?_
    obtain rfl := Option.some.inj hf
    exact hret _ _ _ _ hP hD hS dX10_lowest_23
  have hL_2 : ∀ (N : Nat) (l2_3 : Int32), fM_lowest_L2 F x0 N l2_3 = some r2 → ∀ (H : Heap) (locs : List Loc) (ls : Array Slot), lv_has ls 3 [(0, .long x0), (2, .int l2_3)] → va_P (dC, dI) vwCl (wl_fM_lowest cI cZ cJ cQ) H → va_D A (wl_fM_lowest cI cZ cJ cQ) → va_S A s.heap H locs → W p l e ({ frames := 1, cells := 0, slots := 0, locals := 22 } : Room) s m [.long x0].toArray below meth c H locs 0 0 QQ (F0 m 2 ls []) := by
    intro N
    induction N with
    | zero => intro l2_3 hf; exact nomatch (show none = some _ from hf)
    | succ N ih =>
      intro l2_3 hf H locs ls hl hP hD hS
      rw [fM_lowest_L2] at hf
      refine lv_iload_n hx hb dX10_lowest_2 rfl (lv_at hl 1 rfl) ?_
      refine lv_bipush (v := 42) hx hb dX10_lowest_3 (by decide) ?_
      refine lv_icmp_ge (tgt := 22) hx hb dX10_lowest_5 (by decide) (fun cc => ?_) (fun cc => ?_)
      · replace hf := hf_pos cc hf
        obtain rfl := Option.some.inj hf
        exact hE_1 _ _ _ (lv_sub hl [1] rfl) hP hD hS
      · replace hf := hf_neg cc hf
        refine lv_lload_n hx hb dX10_lowest_8 rfl (lv_at hl 0 rfl) ?_
        refine lv_iload_n hx hb dX10_lowest_9 rfl (lv_at hl 1 rfl) ?_
        obtain ⟨s1, h_s1, hf⟩ := hf_bind hf
        refine wh_calli (D := (dC, dI)) (ws' := (wl_fM_lowest cI cZ cJ cQ)) (va_runS (As := [.long x0, .int l2_3]) (rest := []) ⟨hx, hb, hml, hown, hts⟩ (c_fM_has l dC dI cI cZ cJ cQ _ h_s1) (va_cwS 2 hts gX10_lowest_X10_has rfl rfl rfl (by decide +kernel) ⟨Nat.le_of_ble_eq_true rfl, Nat.le_of_ble_eq_true rfl⟩) (wh_preS hK hN hP hD [] rfl rfl) rfl rfl hl.1 rfl (lv_room (Nat.le_of_ble_eq_true rfl)) dX10_lowest_10 ⟨Nat.le_refl _, Nat.le_refl _⟩) hP hD hS hA [] [] [] rfl rfl rfl rfl (fun H locs hP hD hS => ?_)
        refine lv_if_ne (tgt := 22) hx hb dX10_lowest_13 (by decide) (fun cc => ?_) (fun cc => ?_)
        · replace hf := hf_pos cc hf
          obtain rfl := Option.some.inj hf
          exact hE_1 _ _ _ (lv_sub hl [1] rfl) hP hD hS
        · replace hf := hf_neg (not_not_intro cc) hf
          refine lv_iinc (v := (l2_3 + (1 : Int32))) (lv' := [(2, .int (l2_3 + (1 : Int32))), (0, .long x0)]) hx hb dX10_lowest_16 hl (k := 1) rfl rfl (by decide) rfl (fun ls hl => ?_)
          refine lv_goto (tgt := 2) hx hb dX10_lowest_19 (by decide) ?_
          exact ih _ hf _ _ _ (lv_sub hl [1, 0] rfl) hP hD hS
  exact hL_2 _ _ h_r2 _ _ _ (lv_sub hl [1, 0] rfl) hP hD hS
set_option maxHeartbeats 4000000 in
set_option maxRecDepth 100000 in
theorem c_fM_taken (l : Launch) (dC : Nat → ClassId) (dI : Nat → Nat → Nat) (cI cZ cJ cQ : ClassId) (a_0 a_0s a_0before a_0slots a_0isKept a_0buffer a_0cells a_0owner a_0code a_0table a_0isOver a_0isRuled a_0all a_0some a_0chosen a_0last a_0corner a_0wide a_0cuts a_0aside : Nat) (known_0 : Int32) (length_0 : Int32) (thrown_0 : Int32) (many_0 : Int32) (round_0 : Int32) (seed_0 : Int64) (hash_0 : Int64) (sz : Nat) {F : Nat} {s_0 : Nat → Int32} {out : Int64} (hf : fM_taken F s_0 = some out) : Met l yX10_taken wsX10_taken ({ frames := 0, cells := 0, slots := 0, locals := 0 } : Room) (va_Pc [.ref a_0] (wlP (dC, dI) (wlT cI cZ cJ cQ) (wl_fM_taken cI cZ cJ cQ a_0 a_0s a_0before a_0slots a_0isKept a_0buffer a_0cells a_0owner a_0code a_0table a_0isOver a_0isRuled a_0all a_0some a_0chosen a_0last a_0corner a_0wide a_0cuts a_0aside known_0 length_0 thrown_0 many_0 round_0 seed_0 hash_0 s_0) sz)) (va_Ql (fun (v : Int64) (_ : Unit) => v = out) (wlQ (dC, dI) (va_A (wl_fM_taken cI cZ cJ cQ a_0 a_0s a_0before a_0slots a_0isKept a_0buffer a_0cells a_0owner a_0code a_0table a_0isOver a_0isRuled a_0all a_0some a_0chosen a_0last a_0corner a_0wide a_0cuts a_0aside known_0 length_0 thrown_0 many_0 round_0 seed_0 hash_0 s_0) sz) (wl_fM_taken cI cZ cJ cQ a_0 a_0s a_0before a_0slots a_0isKept a_0buffer a_0cells a_0owner a_0code a_0table a_0isOver a_0isRuled a_0all a_0some a_0chosen a_0last a_0corner a_0wide a_0cuts a_0aside known_0 length_0 thrown_0 many_0 round_0 seed_0 hash_0 s_0)) (va_A (wl_fM_taken cI cZ cJ cQ a_0 a_0s a_0before a_0slots a_0isKept a_0buffer a_0cells a_0owner a_0code a_0table a_0isOver a_0isRuled a_0all a_0some a_0chosen a_0last a_0corner a_0wide a_0cuts a_0aside known_0 length_0 thrown_0 many_0 round_0 seed_0 hash_0 s_0) sz)) 0 0 (va_A (wl_fM_taken cI cZ cJ cQ a_0 a_0s a_0before a_0slots a_0isKept a_0buffer a_0cells a_0owner a_0code a_0table a_0isOver a_0isRuled a_0all a_0some a_0chosen a_0last a_0corner a_0wide a_0cuts a_0aside known_0 length_0 thrown_0 many_0 round_0 seed_0 hash_0 s_0) sz) := by
  refine wh_ofWl (lv := [(0, .ref a_0)]) RX10 (by decide) rfl rfl (Nat.le_of_ble_eq_true rfl) rfl ?_
  intro p e s m below meth c A QQ hx hb hml hown hts hP hK hN hD hA hret ls hl
  have hS : va_S A s.heap s.heap [] := va_S.rf
  have hiX10 : ∀ w ∈ wsX100, w ∈ wsX10_taken := (fun _ h => List.mem_cons_of_mem _ (List.mem_append_right _ (h)))
  unfold fM_taken at hf
  refine lv_lconst (v := 0) hx hb dX10_taken_0 (by decide) ?_
  refine lv_lstore_n (lv' := [(1, .long (0 : Int64)), (0, .ref a_0)]) hx hb dX10_taken_1 rfl hl (by decide) rfl (fun ls hl => ?_)
  refine lv_iconst (v := 0) hx hb dX10_taken_2 (by decide) ?_
  refine lv_istore_n (lv' := [(3, .int (0 : Int32)), (1, .long (0 : Int64)), (0, .ref a_0)]) hx hb dX10_taken_3 rfl hl (by decide) rfl (fun ls hl => ?_)
  obtain ⟨r3, h_r3, hf⟩ := hf_bind hf
  have hE_1 : ∀ (H : Heap) (locs : List Loc) (ls : Array Slot), lv_has ls 4 [(1, .long r3.1)] → va_P (dC, dI) vwCl (wl_fM_taken cI cZ cJ cQ a_0 a_0s a_0before a_0slots a_0isKept a_0buffer a_0cells a_0owner a_0code a_0table a_0isOver a_0isRuled a_0all a_0some a_0chosen a_0last a_0corner a_0wide a_0cuts a_0aside known_0 length_0 thrown_0 many_0 round_0 seed_0 hash_0 s_0) H → va_D A (wl_fM_taken cI cZ cJ cQ a_0 a_0s a_0before a_0slots a_0isKept a_0buffer a_0cells a_0owner a_0code a_0table a_0isOver a_0isRuled a_0all a_0some a_0chosen a_0last a_0corner a_0wide a_0cuts a_0aside known_0 length_0 thrown_0 many_0 round_0 seed_0 hash_0 s_0) → va_S A s.heap H locs → W p l e ({ frames := 0, cells := 0, slots := 0, locals := 0 } : Room) s m [.ref a_0].toArray below meth c H locs 0 0 QQ (F0 m 38 ls []) := by
    intro H locs ls hl hP hD hS
    refine lv_lload_n hx hb dX10_taken_38 rfl (lv_at hl 0 rfl) ?_
    obtain rfl := Option.some.inj hf
    exact hret _ _ _ _ hP hD hS dX10_taken_39
  have hL_2 : ∀ (N : Nat) (l1_3 : Int64) (l3_4 : Int32), fM_taken_L4 F s_0 N l1_3 l3_4 = some r3 → ∀ (H : Heap) (locs : List Loc) (ls : Array Slot), lv_has ls 4 [(0, .ref a_0), (1, .long l1_3), (3, .int l3_4)] → va_P (dC, dI) vwCl (wl_fM_taken cI cZ cJ cQ a_0 a_0s a_0before a_0slots a_0isKept a_0buffer a_0cells a_0owner a_0code a_0table a_0isOver a_0isRuled a_0all a_0some a_0chosen a_0last a_0corner a_0wide a_0cuts a_0aside known_0 length_0 thrown_0 many_0 round_0 seed_0 hash_0 s_0) H → va_D A (wl_fM_taken cI cZ cJ cQ a_0 a_0s a_0before a_0slots a_0isKept a_0buffer a_0cells a_0owner a_0code a_0table a_0isOver a_0isRuled a_0all a_0some a_0chosen a_0last a_0corner a_0wide a_0cuts a_0aside known_0 length_0 thrown_0 many_0 round_0 seed_0 hash_0 s_0) → va_S A s.heap H locs → W p l e ({ frames := 0, cells := 0, slots := 0, locals := 0 } : Room) s m [.ref a_0].toArray below meth c H locs 0 0 QQ (F0 m 4 ls []) := by
    intro N
    induction N with
    | zero => intro l1_3 l3_4 hf; exact nomatch (show none = some _ from hf)
    | succ N ih =>
      intro l1_3 l3_4 hf H locs ls hl hP hD hS
      rw [fM_taken_L4] at hf
      refine lv_iload_n hx hb dX10_taken_4 rfl (lv_at hl 2 rfl) ?_
      refine lv_bipush (v := 42) hx hb dX10_taken_5 (by decide) ?_
      refine lv_icmp_ge (tgt := 38) hx hb dX10_taken_7 (by decide) (fun cc => ?_) (fun cc => ?_)
      · replace hf := hf_pos cc hf
        obtain rfl := Option.some.inj hf
        exact hE_1 _ _ _ (lv_sub hl [1] rfl) hP hD hS
      · replace hf := hf_neg cc hf
        refine lv_lload_n hx hb dX10_taken_10 rfl (lv_at hl 1 rfl) ?_
        refine lv_aload_n hx hb dX10_taken_11 rfl (lv_at hl 0 rfl) ?_
        refine va_get (D := (dC, dI)) (ci := 10) (C := RX10) (T := TX10) (N := 26) hx hb hts hiX10 hown hK hP 0 rfl rfl 0 (by decide) (hts (.fieldLink RX10 7 "PaddockFieldsModel" "s" "[I") (List.mem_cons_of_mem _ (List.mem_append_left _ (List.mem_of_getElem? (i := 0) rfl)))) (fun _ h9 => h9) rfl dX10_taken_12 ?_
        refine lv_bipush (v := 42) hx hb dX10_taken_15 (by decide) ?_
        refine lv_iload_n hx hb dX10_taken_17 rfl (lv_at hl 2 rfl) ?_
        refine lv_iadd hx hb dX10_taken_18 ?_
        obtain ⟨v1, h_v1, hf⟩ := hf_bind hf
        refine wh_ldI (D := (dC, dI)) hx hb hK hP 1 0 rfl rfl h_v1 dX10_taken_19 ?_
        obtain ⟨j2, h_j2, hf⟩ := hf_bind hf
        have hJ_5 : ∀ (H : Heap) (locs : List Loc) (ls : Array Slot), lv_has ls 4 [(0, .ref a_0), (3, .int l3_4)] → va_P (dC, dI) vwCl (wl_fM_taken cI cZ cJ cQ a_0 a_0s a_0before a_0slots a_0isKept a_0buffer a_0cells a_0owner a_0code a_0table a_0isOver a_0isRuled a_0all a_0some a_0chosen a_0last a_0corner a_0wide a_0cuts a_0aside known_0 length_0 thrown_0 many_0 round_0 seed_0 hash_0 s_0) H → va_D A (wl_fM_taken cI cZ cJ cQ a_0 a_0s a_0before a_0slots a_0isKept a_0buffer a_0cells a_0owner a_0code a_0table a_0isOver a_0isRuled a_0all a_0some a_0chosen a_0last a_0corner a_0wide a_0cuts a_0aside known_0 length_0 thrown_0 many_0 round_0 seed_0 hash_0 s_0) → va_S A s.heap H locs → W p l e ({ frames := 0, cells := 0, slots := 0, locals := 0 } : Room) s m [.ref a_0].toArray below meth c H locs 0 0 QQ (F0 m 30 ls [.long j2, .long l1_3]) := by
          intro H locs ls hl hP hD hS
          refine lv_lor hx hb dX10_taken_30 ?_
          refine lv_lstore_n (lv' := [(1, .long (l1_3 ||| j2)), (0, .ref a_0), (3, .int l3_4)]) hx hb dX10_taken_31 rfl hl (by decide) rfl (fun ls hl => ?_)
          refine lv_iinc (v := (l3_4 + (1 : Int32))) (lv' := [(3, .int (l3_4 + (1 : Int32))), (1, .long (l1_3 ||| j2)), (0, .ref a_0)]) hx hb dX10_taken_32 hl (k := 2) rfl rfl (by decide) rfl (fun ls hl => ?_)
          refine lv_goto (tgt := 4) hx hb dX10_taken_35 (by decide) ?_
          exact ih _ _ hf _ _ _ (lv_sub hl [2, 1, 0] rfl) hP hD hS
        clear hf
        have hf := h_j2
        clear h_j2
        refine lv_if_le (tgt := 29) hx hb dX10_taken_20 (by decide) (fun cc => ?_) (fun cc => ?_)
        · replace hf := hf_pos cc hf
          refine lv_lconst (v := 0) hx hb dX10_taken_29 (by decide) ?_
          obtain rfl := Option.some.inj hf
          exact hJ_5 _ _ _ (lv_sub hl [0, 2] rfl) hP hD hS
        · replace hf := hf_neg cc hf
          refine lv_lconst (v := 1) hx hb dX10_taken_23 (by decide) ?_
          refine lv_iload_n hx hb dX10_taken_24 rfl (lv_at hl 2 rfl) ?_
          refine lv_lshl hx hb dX10_taken_25 rfl ?_
          refine lv_goto (tgt := 30) hx hb dX10_taken_26 (by decide) ?_
          obtain rfl := Option.some.inj hf
          exact hJ_5 _ _ _ (lv_sub hl [0, 2] rfl) hP hD hS
  exact hL_2 _ _ _ h_r3 _ _ _ (lv_sub hl [2, 1, 0] rfl) hP hD hS
set_option maxHeartbeats 4000000 in
set_option maxRecDepth 100000 in
theorem c_fM_numbered (l : Launch) (dC : Nat → ClassId) (dI : Nat → Nat → Nat) (cI cZ cJ cQ : ClassId) (a_0 a_0s a_0before a_0slots a_0isKept a_0buffer a_0cells a_0owner a_0code a_0table a_0isOver a_0isRuled a_0all a_0some a_0chosen a_0last a_0corner a_0wide a_0cuts a_0aside : Nat) (known_0 : Int32) (length_0 : Int32) (thrown_0 : Int32) (many_0 : Int32) (round_0 : Int32) (seed_0 : Int64) (hash_0 : Int64) (sz : Nat) {F : Nat} {s_0 : Nat → Int32} {out : Int64} (hf : fM_numbered F s_0 = some out) : Met l yX10_numbered wsX10_numbered ({ frames := 0, cells := 0, slots := 0, locals := 0 } : Room) (va_Pc [.ref a_0] (wlP (dC, dI) (wlT cI cZ cJ cQ) (wl_fM_numbered cI cZ cJ cQ a_0 a_0s a_0before a_0slots a_0isKept a_0buffer a_0cells a_0owner a_0code a_0table a_0isOver a_0isRuled a_0all a_0some a_0chosen a_0last a_0corner a_0wide a_0cuts a_0aside known_0 length_0 thrown_0 many_0 round_0 seed_0 hash_0 s_0) sz)) (va_Ql (fun (v : Int64) (_ : Unit) => v = out) (wlQ (dC, dI) (va_A (wl_fM_numbered cI cZ cJ cQ a_0 a_0s a_0before a_0slots a_0isKept a_0buffer a_0cells a_0owner a_0code a_0table a_0isOver a_0isRuled a_0all a_0some a_0chosen a_0last a_0corner a_0wide a_0cuts a_0aside known_0 length_0 thrown_0 many_0 round_0 seed_0 hash_0 s_0) sz) (wl_fM_numbered cI cZ cJ cQ a_0 a_0s a_0before a_0slots a_0isKept a_0buffer a_0cells a_0owner a_0code a_0table a_0isOver a_0isRuled a_0all a_0some a_0chosen a_0last a_0corner a_0wide a_0cuts a_0aside known_0 length_0 thrown_0 many_0 round_0 seed_0 hash_0 s_0)) (va_A (wl_fM_numbered cI cZ cJ cQ a_0 a_0s a_0before a_0slots a_0isKept a_0buffer a_0cells a_0owner a_0code a_0table a_0isOver a_0isRuled a_0all a_0some a_0chosen a_0last a_0corner a_0wide a_0cuts a_0aside known_0 length_0 thrown_0 many_0 round_0 seed_0 hash_0 s_0) sz)) 0 0 (va_A (wl_fM_numbered cI cZ cJ cQ a_0 a_0s a_0before a_0slots a_0isKept a_0buffer a_0cells a_0owner a_0code a_0table a_0isOver a_0isRuled a_0all a_0some a_0chosen a_0last a_0corner a_0wide a_0cuts a_0aside known_0 length_0 thrown_0 many_0 round_0 seed_0 hash_0 s_0) sz) := by
  refine wh_ofWl (lv := [(0, .ref a_0)]) RX10 (by decide) rfl rfl (Nat.le_of_ble_eq_true rfl) rfl ?_
  intro p e s m below meth c A QQ hx hb hml hown hts hP hK hN hD hA hret ls hl
  have hS : va_S A s.heap s.heap [] := va_S.rf
  have hiX10 : ∀ w ∈ wsX100, w ∈ wsX10_numbered := (fun _ h => List.mem_cons_of_mem _ (List.mem_append_right _ (h)))
  unfold fM_numbered at hf
  refine lv_lconst (v := 0) hx hb dX10_numbered_0 (by decide) ?_
  refine lv_lstore_n (lv' := [(1, .long (0 : Int64)), (0, .ref a_0)]) hx hb dX10_numbered_1 rfl hl (by decide) rfl (fun ls hl => ?_)
  refine lv_iconst (v := 0) hx hb dX10_numbered_2 (by decide) ?_
  refine lv_istore_n (lv' := [(3, .int (0 : Int32)), (1, .long (0 : Int64)), (0, .ref a_0)]) hx hb dX10_numbered_3 rfl hl (by decide) rfl (fun ls hl => ?_)
  obtain ⟨r3, h_r3, hf⟩ := hf_bind hf
  have hE_1 : ∀ (H : Heap) (locs : List Loc) (ls : Array Slot), lv_has ls 4 [(1, .long r3.1)] → va_P (dC, dI) vwCl (wl_fM_numbered cI cZ cJ cQ a_0 a_0s a_0before a_0slots a_0isKept a_0buffer a_0cells a_0owner a_0code a_0table a_0isOver a_0isRuled a_0all a_0some a_0chosen a_0last a_0corner a_0wide a_0cuts a_0aside known_0 length_0 thrown_0 many_0 round_0 seed_0 hash_0 s_0) H → va_D A (wl_fM_numbered cI cZ cJ cQ a_0 a_0s a_0before a_0slots a_0isKept a_0buffer a_0cells a_0owner a_0code a_0table a_0isOver a_0isRuled a_0all a_0some a_0chosen a_0last a_0corner a_0wide a_0cuts a_0aside known_0 length_0 thrown_0 many_0 round_0 seed_0 hash_0 s_0) → va_S A s.heap H locs → W p l e ({ frames := 0, cells := 0, slots := 0, locals := 0 } : Room) s m [.ref a_0].toArray below meth c H locs 0 0 QQ (F0 m 35 ls []) := by
    intro H locs ls hl hP hD hS
    refine lv_lload_n hx hb dX10_numbered_35 rfl (lv_at hl 0 rfl) ?_
    obtain rfl := Option.some.inj hf
    exact hret _ _ _ _ hP hD hS dX10_numbered_36
  have hL_2 : ∀ (N : Nat) (l1_3 : Int64) (l3_4 : Int32), fM_numbered_L4 F s_0 N l1_3 l3_4 = some r3 → ∀ (H : Heap) (locs : List Loc) (ls : Array Slot), lv_has ls 4 [(0, .ref a_0), (1, .long l1_3), (3, .int l3_4)] → va_P (dC, dI) vwCl (wl_fM_numbered cI cZ cJ cQ a_0 a_0s a_0before a_0slots a_0isKept a_0buffer a_0cells a_0owner a_0code a_0table a_0isOver a_0isRuled a_0all a_0some a_0chosen a_0last a_0corner a_0wide a_0cuts a_0aside known_0 length_0 thrown_0 many_0 round_0 seed_0 hash_0 s_0) H → va_D A (wl_fM_numbered cI cZ cJ cQ a_0 a_0s a_0before a_0slots a_0isKept a_0buffer a_0cells a_0owner a_0code a_0table a_0isOver a_0isRuled a_0all a_0some a_0chosen a_0last a_0corner a_0wide a_0cuts a_0aside known_0 length_0 thrown_0 many_0 round_0 seed_0 hash_0 s_0) → va_S A s.heap H locs → W p l e ({ frames := 0, cells := 0, slots := 0, locals := 0 } : Room) s m [.ref a_0].toArray below meth c H locs 0 0 QQ (F0 m 4 ls []) := by
    intro N
    induction N with
    | zero => intro l1_3 l3_4 hf; exact nomatch (show none = some _ from hf)
    | succ N ih =>
      intro l1_3 l3_4 hf H locs ls hl hP hD hS
      rw [fM_numbered_L4] at hf
      refine lv_iload_n hx hb dX10_numbered_4 rfl (lv_at hl 2 rfl) ?_
      refine lv_bipush (v := 42) hx hb dX10_numbered_5 (by decide) ?_
      refine lv_icmp_ge (tgt := 35) hx hb dX10_numbered_7 (by decide) (fun cc => ?_) (fun cc => ?_)
      · replace hf := hf_pos cc hf
        obtain rfl := Option.some.inj hf
        exact hE_1 _ _ _ (lv_sub hl [1] rfl) hP hD hS
      · replace hf := hf_neg cc hf
        refine lv_lload_n hx hb dX10_numbered_10 rfl (lv_at hl 1 rfl) ?_
        refine lv_aload_n hx hb dX10_numbered_11 rfl (lv_at hl 0 rfl) ?_
        refine va_get (D := (dC, dI)) (ci := 10) (C := RX10) (T := TX10) (N := 26) hx hb hts hiX10 hown hK hP 0 rfl rfl 0 (by decide) (hts (.fieldLink RX10 7 "PaddockFieldsModel" "s" "[I") (List.mem_cons_of_mem _ (List.mem_append_left _ (List.mem_of_getElem? (i := 0) rfl)))) (fun _ h9 => h9) rfl dX10_numbered_12 ?_
        refine lv_iload_n hx hb dX10_numbered_15 rfl (lv_at hl 2 rfl) ?_
        obtain ⟨v1, h_v1, hf⟩ := hf_bind hf
        refine wh_ldI (D := (dC, dI)) hx hb hK hP 1 0 rfl rfl h_v1 dX10_numbered_16 ?_
        obtain ⟨j2, h_j2, hf⟩ := hf_bind hf
        have hJ_5 : ∀ (H : Heap) (locs : List Loc) (ls : Array Slot), lv_has ls 4 [(0, .ref a_0), (3, .int l3_4)] → va_P (dC, dI) vwCl (wl_fM_numbered cI cZ cJ cQ a_0 a_0s a_0before a_0slots a_0isKept a_0buffer a_0cells a_0owner a_0code a_0table a_0isOver a_0isRuled a_0all a_0some a_0chosen a_0last a_0corner a_0wide a_0cuts a_0aside known_0 length_0 thrown_0 many_0 round_0 seed_0 hash_0 s_0) H → va_D A (wl_fM_numbered cI cZ cJ cQ a_0 a_0s a_0before a_0slots a_0isKept a_0buffer a_0cells a_0owner a_0code a_0table a_0isOver a_0isRuled a_0all a_0some a_0chosen a_0last a_0corner a_0wide a_0cuts a_0aside known_0 length_0 thrown_0 many_0 round_0 seed_0 hash_0 s_0) → va_S A s.heap H locs → W p l e ({ frames := 0, cells := 0, slots := 0, locals := 0 } : Room) s m [.ref a_0].toArray below meth c H locs 0 0 QQ (F0 m 27 ls [.long j2, .long l1_3]) := by
          intro H locs ls hl hP hD hS
          refine lv_lor hx hb dX10_numbered_27 ?_
          refine lv_lstore_n (lv' := [(1, .long (l1_3 ||| j2)), (0, .ref a_0), (3, .int l3_4)]) hx hb dX10_numbered_28 rfl hl (by decide) rfl (fun ls hl => ?_)
          refine lv_iinc (v := (l3_4 + (1 : Int32))) (lv' := [(3, .int (l3_4 + (1 : Int32))), (1, .long (l1_3 ||| j2)), (0, .ref a_0)]) hx hb dX10_numbered_29 hl (k := 2) rfl rfl (by decide) rfl (fun ls hl => ?_)
          refine lv_goto (tgt := 4) hx hb dX10_numbered_32 (by decide) ?_
          exact ih _ _ hf _ _ _ (lv_sub hl [2, 1, 0] rfl) hP hD hS
        clear hf
        have hf := h_j2
        clear h_j2
        refine lv_if_le (tgt := 26) hx hb dX10_numbered_17 (by decide) (fun cc => ?_) (fun cc => ?_)
        · replace hf := hf_pos cc hf
          refine lv_lconst (v := 0) hx hb dX10_numbered_26 (by decide) ?_
          obtain rfl := Option.some.inj hf
          exact hJ_5 _ _ _ (lv_sub hl [0, 2] rfl) hP hD hS
        · replace hf := hf_neg cc hf
          refine lv_lconst (v := 1) hx hb dX10_numbered_20 (by decide) ?_
          refine lv_iload_n hx hb dX10_numbered_21 rfl (lv_at hl 2 rfl) ?_
          refine lv_lshl hx hb dX10_numbered_22 rfl ?_
          refine lv_goto (tgt := 27) hx hb dX10_numbered_23 (by decide) ?_
          obtain rfl := Option.some.inj hf
          exact hJ_5 _ _ _ (lv_sub hl [0, 2] rfl) hP hD hS
  exact hL_2 _ _ _ h_r3 _ _ _ (lv_sub hl [2, 1, 0] rfl) hP hD hS
set_option maxHeartbeats 4000000 in
set_option maxRecDepth 100000 in
theorem c_fM_fieldOf (l : Launch) (dC : Nat → ClassId) (dI : Nat → Nat → Nat) (cI cZ cJ cQ : ClassId) (a_0 a_0s a_0before a_0slots a_0isKept a_0buffer a_0cells a_0owner a_0code a_0table a_0isOver a_0isRuled a_0all a_0some a_0chosen a_0last a_0corner a_0wide a_0cuts a_0aside : Nat) (known_0 : Int32) (length_0 : Int32) (thrown_0 : Int32) (many_0 : Int32) (round_0 : Int32) (seed_0 : Int64) (hash_0 : Int64) (sz : Nat) {F : Nat} {x1 : Int32} {s_0 : Nat → Int32} {out : Int64} (hf : fM_fieldOf F x1 s_0 = some out) : Met l yX10_fieldOf wsX10_fieldOf ({ frames := 0, cells := 0, slots := 0, locals := 0 } : Room) (va_Pc [.ref a_0, .int x1] (wlP (dC, dI) (wlT cI cZ cJ cQ) (wl_fM_fieldOf cI cZ cJ cQ a_0 a_0s a_0before a_0slots a_0isKept a_0buffer a_0cells a_0owner a_0code a_0table a_0isOver a_0isRuled a_0all a_0some a_0chosen a_0last a_0corner a_0wide a_0cuts a_0aside known_0 length_0 thrown_0 many_0 round_0 seed_0 hash_0 s_0) sz)) (va_Ql (fun (v : Int64) (_ : Unit) => v = out) (wlQ (dC, dI) (va_A (wl_fM_fieldOf cI cZ cJ cQ a_0 a_0s a_0before a_0slots a_0isKept a_0buffer a_0cells a_0owner a_0code a_0table a_0isOver a_0isRuled a_0all a_0some a_0chosen a_0last a_0corner a_0wide a_0cuts a_0aside known_0 length_0 thrown_0 many_0 round_0 seed_0 hash_0 s_0) sz) (wl_fM_fieldOf cI cZ cJ cQ a_0 a_0s a_0before a_0slots a_0isKept a_0buffer a_0cells a_0owner a_0code a_0table a_0isOver a_0isRuled a_0all a_0some a_0chosen a_0last a_0corner a_0wide a_0cuts a_0aside known_0 length_0 thrown_0 many_0 round_0 seed_0 hash_0 s_0)) (va_A (wl_fM_fieldOf cI cZ cJ cQ a_0 a_0s a_0before a_0slots a_0isKept a_0buffer a_0cells a_0owner a_0code a_0table a_0isOver a_0isRuled a_0all a_0some a_0chosen a_0last a_0corner a_0wide a_0cuts a_0aside known_0 length_0 thrown_0 many_0 round_0 seed_0 hash_0 s_0) sz)) 0 0 (va_A (wl_fM_fieldOf cI cZ cJ cQ a_0 a_0s a_0before a_0slots a_0isKept a_0buffer a_0cells a_0owner a_0code a_0table a_0isOver a_0isRuled a_0all a_0some a_0chosen a_0last a_0corner a_0wide a_0cuts a_0aside known_0 length_0 thrown_0 many_0 round_0 seed_0 hash_0 s_0) sz) := by
  refine wh_ofWl (lv := [(0, .ref a_0), (1, .int x1)]) RX10 (by decide) rfl rfl (Nat.le_of_ble_eq_true rfl) rfl ?_
  intro p e s m below meth c A QQ hx hb hml hown hts hP hK hN hD hA hret ls hl
  have hS : va_S A s.heap s.heap [] := va_S.rf
  have hiX10 : ∀ w ∈ wsX100, w ∈ wsX10_fieldOf := (fun _ h => List.mem_cons_of_mem _ (List.mem_append_right _ (h)))
  unfold fM_fieldOf at hf
  refine lv_lconst (v := 0) hx hb dX10_fieldOf_0 (by decide) ?_
  refine lv_lstore_n (lv' := [(2, .long (0 : Int64)), (0, .ref a_0), (1, .int x1)]) hx hb dX10_fieldOf_1 rfl hl (by decide) rfl (fun ls hl => ?_)
  refine lv_iconst (v := 0) hx hb dX10_fieldOf_2 (by decide) ?_
  refine lv_istore (lv' := [(4, .int (0 : Int32)), (2, .long (0 : Int64)), (0, .ref a_0), (1, .int x1)]) hx hb dX10_fieldOf_3 hl (by decide) rfl (fun ls hl => ?_)
  obtain ⟨r4, h_r4, hf⟩ := hf_bind hf
  have hE_1 : ∀ (H : Heap) (locs : List Loc) (ls : Array Slot), lv_has ls 5 [(2, .long r4.1)] → va_P (dC, dI) vwCl (wl_fM_fieldOf cI cZ cJ cQ a_0 a_0s a_0before a_0slots a_0isKept a_0buffer a_0cells a_0owner a_0code a_0table a_0isOver a_0isRuled a_0all a_0some a_0chosen a_0last a_0corner a_0wide a_0cuts a_0aside known_0 length_0 thrown_0 many_0 round_0 seed_0 hash_0 s_0) H → va_D A (wl_fM_fieldOf cI cZ cJ cQ a_0 a_0s a_0before a_0slots a_0isKept a_0buffer a_0cells a_0owner a_0code a_0table a_0isOver a_0isRuled a_0all a_0some a_0chosen a_0last a_0corner a_0wide a_0cuts a_0aside known_0 length_0 thrown_0 many_0 round_0 seed_0 hash_0 s_0) → va_S A s.heap H locs → W p l e ({ frames := 0, cells := 0, slots := 0, locals := 0 } : Room) s m [.ref a_0, .int x1].toArray below meth c H locs 0 0 QQ (F0 m 51 ls []) := by
    intro H locs ls hl hP hD hS
    refine lv_lload_n hx hb dX10_fieldOf_51 rfl (lv_at hl 0 rfl) ?_
    obtain rfl := Option.some.inj hf
    exact hret _ _ _ _ hP hD hS dX10_fieldOf_52
  have hL_2 : ∀ (N : Nat) (l2_3 : Int64) (l4_4 : Int32), fM_fieldOf_L5 F x1 s_0 N l2_3 l4_4 = some r4 → ∀ (H : Heap) (locs : List Loc) (ls : Array Slot), lv_has ls 5 [(0, .ref a_0), (1, .int x1), (2, .long l2_3), (4, .int l4_4)] → va_P (dC, dI) vwCl (wl_fM_fieldOf cI cZ cJ cQ a_0 a_0s a_0before a_0slots a_0isKept a_0buffer a_0cells a_0owner a_0code a_0table a_0isOver a_0isRuled a_0all a_0some a_0chosen a_0last a_0corner a_0wide a_0cuts a_0aside known_0 length_0 thrown_0 many_0 round_0 seed_0 hash_0 s_0) H → va_D A (wl_fM_fieldOf cI cZ cJ cQ a_0 a_0s a_0before a_0slots a_0isKept a_0buffer a_0cells a_0owner a_0code a_0table a_0isOver a_0isRuled a_0all a_0some a_0chosen a_0last a_0corner a_0wide a_0cuts a_0aside known_0 length_0 thrown_0 many_0 round_0 seed_0 hash_0 s_0) → va_S A s.heap H locs → W p l e ({ frames := 0, cells := 0, slots := 0, locals := 0 } : Room) s m [.ref a_0, .int x1].toArray below meth c H locs 0 0 QQ (F0 m 5 ls []) := by
    intro N
    induction N with
    | zero => intro l2_3 l4_4 hf; exact nomatch (show none = some _ from hf)
    | succ N ih =>
      intro l2_3 l4_4 hf H locs ls hl hP hD hS
      rw [fM_fieldOf_L5] at hf
      refine lv_iload hx hb dX10_fieldOf_5 (lv_at hl 3 rfl) ?_
      refine lv_bipush (v := 42) hx hb dX10_fieldOf_7 (by decide) ?_
      refine lv_icmp_ge (tgt := 51) hx hb dX10_fieldOf_9 (by decide) (fun cc => ?_) (fun cc => ?_)
      · replace hf := hf_pos cc hf
        obtain rfl := Option.some.inj hf
        exact hE_1 _ _ _ (lv_sub hl [2] rfl) hP hD hS
      · replace hf := hf_neg cc hf
        refine lv_lload_n hx hb dX10_fieldOf_12 rfl (lv_at hl 2 rfl) ?_
        refine lv_aload_n hx hb dX10_fieldOf_13 rfl (lv_at hl 0 rfl) ?_
        refine va_get (D := (dC, dI)) (ci := 10) (C := RX10) (T := TX10) (N := 26) hx hb hts hiX10 hown hK hP 0 rfl rfl 0 (by decide) (hts (.fieldLink RX10 7 "PaddockFieldsModel" "s" "[I") (List.mem_cons_of_mem _ (List.mem_append_left _ (List.mem_of_getElem? (i := 0) rfl)))) (fun _ h9 => h9) rfl dX10_fieldOf_14 ?_
        refine lv_bipush (v := 42) hx hb dX10_fieldOf_17 (by decide) ?_
        refine lv_iload hx hb dX10_fieldOf_19 (lv_at hl 3 rfl) ?_
        refine lv_iadd hx hb dX10_fieldOf_21 ?_
        obtain ⟨v1, h_v1, hf⟩ := hf_bind hf
        refine wh_ldI (D := (dC, dI)) hx hb hK hP 1 0 rfl rfl h_v1 dX10_fieldOf_22 ?_
        refine lv_aload_n hx hb dX10_fieldOf_23 rfl (lv_at hl 0 rfl) ?_
        refine va_get (D := (dC, dI)) (ci := 10) (C := RX10) (T := TX10) (N := 26) hx hb hts hiX10 hown hK hP 0 rfl rfl 0 (by decide) (hts (.fieldLink RX10 7 "PaddockFieldsModel" "s" "[I") (List.mem_cons_of_mem _ (List.mem_append_left _ (List.mem_of_getElem? (i := 0) rfl)))) (fun _ h9 => h9) rfl dX10_fieldOf_24 ?_
        refine lv_bipush (v := 42) hx hb dX10_fieldOf_27 (by decide) ?_
        refine lv_iload_n hx hb dX10_fieldOf_29 rfl (lv_at hl 1 rfl) ?_
        refine lv_iadd hx hb dX10_fieldOf_30 ?_
        obtain ⟨v2, h_v2, hf⟩ := hf_bind hf
        refine wh_ldI (D := (dC, dI)) hx hb hK hP 1 0 rfl rfl h_v2 dX10_fieldOf_31 ?_
        obtain ⟨j3, h_j3, hf⟩ := hf_bind hf
        have hJ_5 : ∀ (H : Heap) (locs : List Loc) (ls : Array Slot), lv_has ls 5 [(0, .ref a_0), (1, .int x1), (4, .int l4_4)] → va_P (dC, dI) vwCl (wl_fM_fieldOf cI cZ cJ cQ a_0 a_0s a_0before a_0slots a_0isKept a_0buffer a_0cells a_0owner a_0code a_0table a_0isOver a_0isRuled a_0all a_0some a_0chosen a_0last a_0corner a_0wide a_0cuts a_0aside known_0 length_0 thrown_0 many_0 round_0 seed_0 hash_0 s_0) H → va_D A (wl_fM_fieldOf cI cZ cJ cQ a_0 a_0s a_0before a_0slots a_0isKept a_0buffer a_0cells a_0owner a_0code a_0table a_0isOver a_0isRuled a_0all a_0some a_0chosen a_0last a_0corner a_0wide a_0cuts a_0aside known_0 length_0 thrown_0 many_0 round_0 seed_0 hash_0 s_0) → va_S A s.heap H locs → W p l e ({ frames := 0, cells := 0, slots := 0, locals := 0 } : Room) s m [.ref a_0, .int x1].toArray below meth c H locs 0 0 QQ (F0 m 43 ls [.long j3, .long l2_3]) := by
          intro H locs ls hl hP hD hS
          refine lv_lor hx hb dX10_fieldOf_43 ?_
          refine lv_lstore_n (lv' := [(2, .long (l2_3 ||| j3)), (0, .ref a_0), (1, .int x1), (4, .int l4_4)]) hx hb dX10_fieldOf_44 rfl hl (by decide) rfl (fun ls hl => ?_)
          refine lv_iinc (v := (l4_4 + (1 : Int32))) (lv' := [(4, .int (l4_4 + (1 : Int32))), (2, .long (l2_3 ||| j3)), (0, .ref a_0), (1, .int x1)]) hx hb dX10_fieldOf_45 hl (k := 3) rfl rfl (by decide) rfl (fun ls hl => ?_)
          refine lv_goto (tgt := 5) hx hb dX10_fieldOf_48 (by decide) ?_
          exact ih _ _ hf _ _ _ (lv_sub hl [2, 3, 1, 0] rfl) hP hD hS
        clear hf
        have hf := h_j3
        clear h_j3
        refine lv_icmp_ne (tgt := 42) hx hb dX10_fieldOf_32 (by decide) (fun cc => ?_) (fun cc => ?_)
        · replace hf := hf_pos cc hf
          refine lv_lconst (v := 0) hx hb dX10_fieldOf_42 (by decide) ?_
          obtain rfl := Option.some.inj hf
          exact hJ_5 _ _ _ (lv_sub hl [0, 1, 3] rfl) hP hD hS
        · replace hf := hf_neg (not_not_intro cc) hf
          refine lv_lconst (v := 1) hx hb dX10_fieldOf_35 (by decide) ?_
          refine lv_iload hx hb dX10_fieldOf_36 (lv_at hl 3 rfl) ?_
          refine lv_lshl hx hb dX10_fieldOf_38 rfl ?_
          refine lv_goto (tgt := 43) hx hb dX10_fieldOf_39 (by decide) ?_
          obtain rfl := Option.some.inj hf
          exact hJ_5 _ _ _ (lv_sub hl [0, 1, 3] rfl) hP hD hS
  exact hL_2 _ _ _ h_r4 _ _ _ (lv_sub hl [2, 3, 1, 0] rfl) hP hD hS
set_option maxHeartbeats 4000000 in
set_option maxRecDepth 100000 in
theorem c_fM_allFields (l : Launch) (dC : Nat → ClassId) (dI : Nat → Nat → Nat) (cI cZ cJ cQ : ClassId) (a_0 a_0s a_0before a_0slots a_0isKept a_0buffer a_0cells a_0owner a_0code a_0table a_0isOver a_0isRuled a_0all a_0some a_0chosen a_0last a_0corner a_0wide a_0cuts a_0aside : Nat) (known_0 : Int32) (length_0 : Int32) (thrown_0 : Int32) (many_0 : Int32) (round_0 : Int32) (seed_0 : Int64) (hash_0 : Int64) (sz : Nat) {F : Nat} {s_0 : Nat → Int32} {out : Int32} (hf : fM_allFields F s_0 = some out) : Met l yX10_allFields wsX10_allFields ({ frames := 0, cells := 0, slots := 0, locals := 0 } : Room) (va_Pc [.ref a_0] (wlP (dC, dI) (wlT cI cZ cJ cQ) (wl_fM_allFields cI cZ cJ cQ a_0 a_0s a_0before a_0slots a_0isKept a_0buffer a_0cells a_0owner a_0code a_0table a_0isOver a_0isRuled a_0all a_0some a_0chosen a_0last a_0corner a_0wide a_0cuts a_0aside known_0 length_0 thrown_0 many_0 round_0 seed_0 hash_0 s_0) sz)) (va_Qi (fun (v : Int32) (_ : Unit) => v = out) (wlQ (dC, dI) (va_A (wl_fM_allFields cI cZ cJ cQ a_0 a_0s a_0before a_0slots a_0isKept a_0buffer a_0cells a_0owner a_0code a_0table a_0isOver a_0isRuled a_0all a_0some a_0chosen a_0last a_0corner a_0wide a_0cuts a_0aside known_0 length_0 thrown_0 many_0 round_0 seed_0 hash_0 s_0) sz) (wl_fM_allFields cI cZ cJ cQ a_0 a_0s a_0before a_0slots a_0isKept a_0buffer a_0cells a_0owner a_0code a_0table a_0isOver a_0isRuled a_0all a_0some a_0chosen a_0last a_0corner a_0wide a_0cuts a_0aside known_0 length_0 thrown_0 many_0 round_0 seed_0 hash_0 s_0)) (va_A (wl_fM_allFields cI cZ cJ cQ a_0 a_0s a_0before a_0slots a_0isKept a_0buffer a_0cells a_0owner a_0code a_0table a_0isOver a_0isRuled a_0all a_0some a_0chosen a_0last a_0corner a_0wide a_0cuts a_0aside known_0 length_0 thrown_0 many_0 round_0 seed_0 hash_0 s_0) sz)) 0 0 (va_A (wl_fM_allFields cI cZ cJ cQ a_0 a_0s a_0before a_0slots a_0isKept a_0buffer a_0cells a_0owner a_0code a_0table a_0isOver a_0isRuled a_0all a_0some a_0chosen a_0last a_0corner a_0wide a_0cuts a_0aside known_0 length_0 thrown_0 many_0 round_0 seed_0 hash_0 s_0) sz) := by
  refine wh_ofWi (lv := [(0, .ref a_0)]) RX10 (by decide) rfl rfl (Nat.le_of_ble_eq_true rfl) rfl ?_
  intro p e s m below meth c A QQ hx hb hml hown hts hP hK hN hD hA hret ls hl
  have hS : va_S A s.heap s.heap [] := va_S.rf
  have hiX10 : ∀ w ∈ wsX100, w ∈ wsX10_allFields := (fun _ h => List.mem_cons_of_mem _ (List.mem_append_right _ (h)))
  unfold fM_allFields at hf
  refine lv_iconst (v := 0) hx hb dX10_allFields_0 (by decide) ?_
  refine lv_istore_n (lv' := [(1, .int (0 : Int32)), (0, .ref a_0)]) hx hb dX10_allFields_1 rfl hl (by decide) rfl (fun ls hl => ?_)
  refine lv_iconst (v := 0) hx hb dX10_allFields_2 (by decide) ?_
  refine lv_istore_n (lv' := [(2, .int (0 : Int32)), (1, .int (0 : Int32)), (0, .ref a_0)]) hx hb dX10_allFields_3 rfl hl (by decide) rfl (fun ls hl => ?_)
  obtain ⟨r3, h_r3, hf⟩ := hf_bind hf
  have hE_1 : ∀ (H : Heap) (locs : List Loc) (ls : Array Slot), lv_has ls 3 [(1, .int r3.1)] → va_P (dC, dI) vwCl (wl_fM_allFields cI cZ cJ cQ a_0 a_0s a_0before a_0slots a_0isKept a_0buffer a_0cells a_0owner a_0code a_0table a_0isOver a_0isRuled a_0all a_0some a_0chosen a_0last a_0corner a_0wide a_0cuts a_0aside known_0 length_0 thrown_0 many_0 round_0 seed_0 hash_0 s_0) H → va_D A (wl_fM_allFields cI cZ cJ cQ a_0 a_0s a_0before a_0slots a_0isKept a_0buffer a_0cells a_0owner a_0code a_0table a_0isOver a_0isRuled a_0all a_0some a_0chosen a_0last a_0corner a_0wide a_0cuts a_0aside known_0 length_0 thrown_0 many_0 round_0 seed_0 hash_0 s_0) → va_S A s.heap H locs → W p l e ({ frames := 0, cells := 0, slots := 0, locals := 0 } : Room) s m [.ref a_0].toArray below meth c H locs 0 0 QQ (F0 m 39 ls []) := by
    intro H locs ls hl hP hD hS
    refine lv_iload_n hx hb dX10_allFields_39 rfl (lv_at hl 0 rfl) ?_
    obtain rfl := Option.some.inj hf
    exact hret _ _ _ _ hP hD hS dX10_allFields_40
  have hL_2 : ∀ (N : Nat) (l1_3 : Int32) (l2_4 : Int32), fM_allFields_L4 F s_0 N l1_3 l2_4 = some r3 → ∀ (H : Heap) (locs : List Loc) (ls : Array Slot), lv_has ls 3 [(0, .ref a_0), (1, .int l1_3), (2, .int l2_4)] → va_P (dC, dI) vwCl (wl_fM_allFields cI cZ cJ cQ a_0 a_0s a_0before a_0slots a_0isKept a_0buffer a_0cells a_0owner a_0code a_0table a_0isOver a_0isRuled a_0all a_0some a_0chosen a_0last a_0corner a_0wide a_0cuts a_0aside known_0 length_0 thrown_0 many_0 round_0 seed_0 hash_0 s_0) H → va_D A (wl_fM_allFields cI cZ cJ cQ a_0 a_0s a_0before a_0slots a_0isKept a_0buffer a_0cells a_0owner a_0code a_0table a_0isOver a_0isRuled a_0all a_0some a_0chosen a_0last a_0corner a_0wide a_0cuts a_0aside known_0 length_0 thrown_0 many_0 round_0 seed_0 hash_0 s_0) → va_S A s.heap H locs → W p l e ({ frames := 0, cells := 0, slots := 0, locals := 0 } : Room) s m [.ref a_0].toArray below meth c H locs 0 0 QQ (F0 m 4 ls []) := by
    intro N
    induction N with
    | zero => intro l1_3 l2_4 hf; exact nomatch (show none = some _ from hf)
    | succ N ih =>
      intro l1_3 l2_4 hf H locs ls hl hP hD hS
      rw [fM_allFields_L4] at hf
      refine lv_iload_n hx hb dX10_allFields_4 rfl (lv_at hl 2 rfl) ?_
      refine lv_bipush (v := 42) hx hb dX10_allFields_5 (by decide) ?_
      refine lv_icmp_ge (tgt := 39) hx hb dX10_allFields_7 (by decide) (fun cc => ?_) (fun cc => ?_)
      · replace hf := hf_pos cc hf
        obtain rfl := Option.some.inj hf
        exact hE_1 _ _ _ (lv_sub hl [1] rfl) hP hD hS
      · replace hf := hf_neg cc hf
        refine lv_iload_n hx hb dX10_allFields_10 rfl (lv_at hl 1 rfl) ?_
        refine lv_aload_n hx hb dX10_allFields_11 rfl (lv_at hl 0 rfl) ?_
        refine va_get (D := (dC, dI)) (ci := 10) (C := RX10) (T := TX10) (N := 26) hx hb hts hiX10 hown hK hP 0 rfl rfl 0 (by decide) (hts (.fieldLink RX10 7 "PaddockFieldsModel" "s" "[I") (List.mem_cons_of_mem _ (List.mem_append_left _ (List.mem_of_getElem? (i := 0) rfl)))) (fun _ h9 => h9) rfl dX10_allFields_12 ?_
        refine lv_bipush (v := 42) hx hb dX10_allFields_15 (by decide) ?_
        refine lv_iload_n hx hb dX10_allFields_17 rfl (lv_at hl 2 rfl) ?_
        refine lv_iadd hx hb dX10_allFields_18 ?_
        obtain ⟨v1, h_v1, hf⟩ := hf_bind hf
        refine wh_ldI (D := (dC, dI)) hx hb hK hP 1 0 rfl rfl h_v1 dX10_allFields_19 ?_
        refine lv_iload_n hx hb dX10_allFields_20 rfl (lv_at hl 2 rfl) ?_
        refine lv_iconst (v := 1) hx hb dX10_allFields_21 (by decide) ?_
        refine lv_iadd hx hb dX10_allFields_22 ?_
        obtain ⟨j2, h_j2, hf⟩ := hf_bind hf
        have hJ_5 : ∀ (H : Heap) (locs : List Loc) (ls : Array Slot), lv_has ls 3 [(0, .ref a_0), (2, .int l2_4)] → va_P (dC, dI) vwCl (wl_fM_allFields cI cZ cJ cQ a_0 a_0s a_0before a_0slots a_0isKept a_0buffer a_0cells a_0owner a_0code a_0table a_0isOver a_0isRuled a_0all a_0some a_0chosen a_0last a_0corner a_0wide a_0cuts a_0aside known_0 length_0 thrown_0 many_0 round_0 seed_0 hash_0 s_0) H → va_D A (wl_fM_allFields cI cZ cJ cQ a_0 a_0s a_0before a_0slots a_0isKept a_0buffer a_0cells a_0owner a_0code a_0table a_0isOver a_0isRuled a_0all a_0some a_0chosen a_0last a_0corner a_0wide a_0cuts a_0aside known_0 length_0 thrown_0 many_0 round_0 seed_0 hash_0 s_0) → va_S A s.heap H locs → W p l e ({ frames := 0, cells := 0, slots := 0, locals := 0 } : Room) s m [.ref a_0].toArray below meth c H locs 0 0 QQ (F0 m 31 ls [.int j2, .int l1_3]) := by
          intro H locs ls hl hP hD hS
          refine lv_iadd hx hb dX10_allFields_31 ?_
          refine lv_istore_n (lv' := [(1, .int (l1_3 + j2)), (0, .ref a_0), (2, .int l2_4)]) hx hb dX10_allFields_32 rfl hl (by decide) rfl (fun ls hl => ?_)
          refine lv_iinc (v := (l2_4 + (1 : Int32))) (lv' := [(2, .int (l2_4 + (1 : Int32))), (1, .int (l1_3 + j2)), (0, .ref a_0)]) hx hb dX10_allFields_33 hl (k := 2) rfl rfl (by decide) rfl (fun ls hl => ?_)
          refine lv_goto (tgt := 4) hx hb dX10_allFields_36 (by decide) ?_
          exact ih _ _ hf _ _ _ (lv_sub hl [2, 1, 0] rfl) hP hD hS
        clear hf
        have hf := h_j2
        clear h_j2
        refine lv_icmp_ne (tgt := 30) hx hb dX10_allFields_23 (by decide) (fun cc => ?_) (fun cc => ?_)
        · replace hf := hf_pos cc hf
          refine lv_iconst (v := 0) hx hb dX10_allFields_30 (by decide) ?_
          obtain rfl := Option.some.inj hf
          exact hJ_5 _ _ _ (lv_sub hl [0, 2] rfl) hP hD hS
        · replace hf := hf_neg (not_not_intro cc) hf
          refine lv_iconst (v := 1) hx hb dX10_allFields_26 (by decide) ?_
          refine lv_goto (tgt := 31) hx hb dX10_allFields_27 (by decide) ?_
          obtain rfl := Option.some.inj hf
          exact hJ_5 _ _ _ (lv_sub hl [0, 2] rfl) hP hD hS
  exact hL_2 _ _ _ h_r3 _ _ _ (lv_sub hl [2, 1, 0] rfl) hP hD hS
set_option maxHeartbeats 4000000 in
set_option maxRecDepth 100000 in
theorem c_fM_against (l : Launch) (dC : Nat → ClassId) (dI : Nat → Nat → Nat) (cI cZ cJ cQ : ClassId) (a_0 a_0s a_0before a_0slots a_0isKept a_0buffer a_0cells a_0owner a_0code a_0table a_0isOver a_0isRuled a_0all a_0some a_0chosen a_0last a_0corner a_0wide a_0cuts a_0aside : Nat) (known_0 : Int32) (length_0 : Int32) (thrown_0 : Int32) (many_0 : Int32) (round_0 : Int32) (seed_0 : Int64) (hash_0 : Int64) (sz : Nat) {F : Nat} {x1 : Int64} {s_0 : Nat → Int32} {out : Int32} (hf : fM_against F x1 s_0 = some out) : Met l yX10_against wsX10_against ({ frames := 2, cells := 0, slots := 0, locals := 45 } : Room) (va_Pc [.ref a_0, .long x1] (wlP (dC, dI) (wlT cI cZ cJ cQ) (wl_fM_against cI cZ cJ cQ a_0 a_0s a_0before a_0slots a_0isKept a_0buffer a_0cells a_0owner a_0code a_0table a_0isOver a_0isRuled a_0all a_0some a_0chosen a_0last a_0corner a_0wide a_0cuts a_0aside known_0 length_0 thrown_0 many_0 round_0 seed_0 hash_0 s_0) sz)) (va_Qi (fun (v : Int32) (_ : Unit) => v = out) (wlQ (dC, dI) (va_A (wl_fM_against cI cZ cJ cQ a_0 a_0s a_0before a_0slots a_0isKept a_0buffer a_0cells a_0owner a_0code a_0table a_0isOver a_0isRuled a_0all a_0some a_0chosen a_0last a_0corner a_0wide a_0cuts a_0aside known_0 length_0 thrown_0 many_0 round_0 seed_0 hash_0 s_0) sz) (wl_fM_against cI cZ cJ cQ a_0 a_0s a_0before a_0slots a_0isKept a_0buffer a_0cells a_0owner a_0code a_0table a_0isOver a_0isRuled a_0all a_0some a_0chosen a_0last a_0corner a_0wide a_0cuts a_0aside known_0 length_0 thrown_0 many_0 round_0 seed_0 hash_0 s_0)) (va_A (wl_fM_against cI cZ cJ cQ a_0 a_0s a_0before a_0slots a_0isKept a_0buffer a_0cells a_0owner a_0code a_0table a_0isOver a_0isRuled a_0all a_0some a_0chosen a_0last a_0corner a_0wide a_0cuts a_0aside known_0 length_0 thrown_0 many_0 round_0 seed_0 hash_0 s_0) sz)) 0 0 (va_A (wl_fM_against cI cZ cJ cQ a_0 a_0s a_0before a_0slots a_0isKept a_0buffer a_0cells a_0owner a_0code a_0table a_0isOver a_0isRuled a_0all a_0some a_0chosen a_0last a_0corner a_0wide a_0cuts a_0aside known_0 length_0 thrown_0 many_0 round_0 seed_0 hash_0 s_0) sz) := by
  refine wh_ofWi (lv := [(0, .ref a_0), (1, .long x1)]) RX10 (by decide) rfl rfl (Nat.le_of_ble_eq_true rfl) rfl ?_
  intro p e s m below meth c A QQ hx hb hml hown hts hP hK hN hD hA hret ls hl
  have hS : va_S A s.heap s.heap [] := va_S.rf
  have hiX10 : ∀ w ∈ wsX100, w ∈ wsX10_against := (fun _ h => List.mem_cons_of_mem _ (List.mem_append_right _ (h)))
  unfold fM_against at hf
  refine lv_lload_n hx hb dX10_against_0 rfl (lv_at hl 1 rfl) ?_
  refine lv_aload_n hx hb dX10_against_1 rfl (lv_at hl 0 rfl) ?_
  obtain ⟨s1, h_s1, hf⟩ := hf_bind hf
  refine wh_calll (D := (dC, dI)) (ws' := (wl_fM_against cI cZ cJ cQ a_0 a_0s a_0before a_0slots a_0isKept a_0buffer a_0cells a_0owner a_0code a_0table a_0isOver a_0isRuled a_0all a_0some a_0chosen a_0last a_0corner a_0wide a_0cuts a_0aside known_0 length_0 thrown_0 many_0 round_0 seed_0 hash_0 s_0)) (va_runV (As := []) (rest := [.long x1]) ⟨hx, hb, hml, hown, hts⟩ (c_fM_numbered l dC dI cI cZ cJ cQ a_0 a_0s a_0before a_0slots a_0isKept a_0buffer a_0cells a_0owner a_0code a_0table a_0isOver a_0isRuled a_0all a_0some a_0chosen a_0last a_0corner a_0wide a_0cuts a_0aside known_0 length_0 thrown_0 many_0 round_0 seed_0 hash_0 _ h_s1) (cwV 0 hts gX10_against_X10_numbered rfl rfl rfl (by decide +kernel) ⟨Nat.le_of_ble_eq_true rfl, Nat.le_of_ble_eq_true rfl⟩) (wh_preV (C := RX10) (T := TX10) (N := 26) hK hN hP hD [0, 1] rfl rfl 10 0 rfl rfl) rfl rfl hl.1 rfl (lv_room (Nat.le_of_ble_eq_true rfl)) dX10_against_2 ⟨Nat.le_refl _, Nat.le_refl _⟩) hP hD hS hA [0, 1] [] [0, 1] rfl rfl rfl rfl (fun H locs hP hD hS => ?_)
  refine lv_land hx hb dX10_against_5 ?_
  refine lv_lstore_n (lv' := [(3, .long (x1 &&& s1)), (0, .ref a_0), (1, .long x1)]) hx hb dX10_against_6 rfl hl (by decide) rfl (fun ls hl => ?_)
  refine lv_lload_n hx hb dX10_against_7 rfl (lv_at hl 2 rfl) ?_
  refine lv_aload_n hx hb dX10_against_8 rfl (lv_at hl 1 rfl) ?_
  obtain ⟨s2, h_s2, hf⟩ := hf_bind hf
  refine wh_calll (D := (dC, dI)) (ws' := (wl_fM_against cI cZ cJ cQ a_0 a_0s a_0before a_0slots a_0isKept a_0buffer a_0cells a_0owner a_0code a_0table a_0isOver a_0isRuled a_0all a_0some a_0chosen a_0last a_0corner a_0wide a_0cuts a_0aside known_0 length_0 thrown_0 many_0 round_0 seed_0 hash_0 s_0)) (va_runV (As := []) (rest := [.long x1]) ⟨hx, hb, hml, hown, hts⟩ (c_fM_taken l dC dI cI cZ cJ cQ a_0 a_0s a_0before a_0slots a_0isKept a_0buffer a_0cells a_0owner a_0code a_0table a_0isOver a_0isRuled a_0all a_0some a_0chosen a_0last a_0corner a_0wide a_0cuts a_0aside known_0 length_0 thrown_0 many_0 round_0 seed_0 hash_0 _ h_s2) (cwV 0 hts gX10_against_X10_taken rfl rfl rfl (by decide +kernel) ⟨Nat.le_of_ble_eq_true rfl, Nat.le_of_ble_eq_true rfl⟩) (wh_preV (C := RX10) (T := TX10) (N := 26) hK hN hP hD [0, 1] rfl rfl 10 0 rfl rfl) rfl rfl hl.1 rfl (lv_room (Nat.le_of_ble_eq_true rfl)) dX10_against_9 ⟨Nat.le_refl _, Nat.le_refl _⟩) hP hD hS hA [0, 1] [] [0, 1] rfl rfl rfl rfl (fun H locs hP hD hS => ?_)
  refine lv_land hx hb dX10_against_12 ?_
  refine lv_lconst (v := 0) hx hb dX10_against_13 (by decide) ?_
  refine W.lcmp hx hb dX10_against_14 ?_
  refine lv_if_eq (tgt := 22) hx hb dX10_against_15 (by decide) (fun cc => ?_) (fun cc => ?_)
  · replace hf := hf_pos ((lg_cmp_eq _ _).mp cc) hf
    refine lv_lload_n hx hb dX10_against_22 rfl (lv_at hl 0 rfl) ?_
    refine lv_lconst (v := 0) hx hb dX10_against_23 (by decide) ?_
    refine W.lcmp hx hb dX10_against_24 ?_
    refine lv_if_ne (tgt := 32) hx hb dX10_against_25 (by decide) (fun cc => ?_) (fun cc => ?_)
    · replace hf := hf_pos (mt (lg_cmp_eq _ _).mpr cc) hf
      refine lv_lload_n hx hb dX10_against_32 rfl (lv_at hl 0 rfl) ?_
      obtain ⟨s3, h_s3, hf⟩ := hf_bind hf
      refine wh_calli (D := (dC, dI)) (ws' := (wl_fM_against cI cZ cJ cQ a_0 a_0s a_0before a_0slots a_0isKept a_0buffer a_0cells a_0owner a_0code a_0table a_0isOver a_0isRuled a_0all a_0some a_0chosen a_0last a_0corner a_0wide a_0cuts a_0aside known_0 length_0 thrown_0 many_0 round_0 seed_0 hash_0 s_0)) (va_runS (As := [.long (x1 &&& s1)]) (rest := []) ⟨hx, hb, hml, hown, hts⟩ (c_fM_bits l dC dI cI cZ cJ cQ _ h_s3) (va_cwS 1 hts gX10_against_X10_bits rfl rfl rfl (by decide +kernel) ⟨Nat.le_of_ble_eq_true rfl, Nat.le_of_ble_eq_true rfl⟩) (wh_preS hK hN hP hD [] rfl rfl) rfl rfl hl.1 rfl (lv_room (Nat.le_of_ble_eq_true rfl)) dX10_against_33 ⟨Nat.le_refl _, Nat.le_refl _⟩) hP hD hS hA [] [0, 1] [0, 1] rfl rfl rfl rfl (fun H locs hP hD hS => ?_)
      refine lv_iconst (v := 1) hx hb dX10_against_36 (by decide) ?_
      refine lv_icmp_le (tgt := 44) hx hb dX10_against_37 (by decide) (fun cc => ?_) (fun cc => ?_)
      · replace hf := hf_pos cc hf
        refine lv_aload_n hx hb dX10_against_44 rfl (lv_at hl 1 rfl) ?_
        refine va_get (D := (dC, dI)) (ci := 10) (C := RX10) (T := TX10) (N := 26) hx hb hts hiX10 hown hK hP 0 rfl rfl 0 (by decide) (hts (.fieldLink RX10 7 "PaddockFieldsModel" "s" "[I") (List.mem_cons_of_mem _ (List.mem_append_left _ (List.mem_of_getElem? (i := 0) rfl)))) (fun _ h9 => h9) rfl dX10_against_45 ?_
        refine lv_lload_n hx hb dX10_against_48 rfl (lv_at hl 0 rfl) ?_
        obtain ⟨s4, h_s4, hf⟩ := hf_bind hf
        refine wh_calli (D := (dC, dI)) (ws' := (wl_fM_against cI cZ cJ cQ a_0 a_0s a_0before a_0slots a_0isKept a_0buffer a_0cells a_0owner a_0code a_0table a_0isOver a_0isRuled a_0all a_0some a_0chosen a_0last a_0corner a_0wide a_0cuts a_0aside known_0 length_0 thrown_0 many_0 round_0 seed_0 hash_0 s_0)) (va_runS (As := [.long (x1 &&& s1)]) (rest := [.ref a_0s]) ⟨hx, hb, hml, hown, hts⟩ (c_fM_lowest l dC dI cI cZ cJ cQ _ h_s4) (va_cwS 1 hts gX10_against_X10_lowest rfl rfl rfl (by decide +kernel) ⟨Nat.le_of_ble_eq_true rfl, Nat.le_of_ble_eq_true rfl⟩) (wh_preS hK hN hP hD [] rfl rfl) rfl rfl hl.1 rfl (lv_room (Nat.le_of_ble_eq_true rfl)) dX10_against_49 ⟨Nat.le_refl _, Nat.le_refl _⟩) hP hD hS hA [] [0, 1] [0, 1] rfl rfl rfl rfl (fun H locs hP hD hS => ?_)
        obtain ⟨v5, h_v5, hf⟩ := hf_bind hf
        refine wh_ldI (D := (dC, dI)) hx hb hK hP 1 0 rfl rfl h_v5 dX10_against_52 ?_
        refine lv_lload_n hx hb dX10_against_53 rfl (lv_at hl 2 rfl) ?_
        obtain ⟨s6, h_s6, hf⟩ := hf_bind hf
        refine wh_calli (D := (dC, dI)) (ws' := (wl_fM_against cI cZ cJ cQ a_0 a_0s a_0before a_0slots a_0isKept a_0buffer a_0cells a_0owner a_0code a_0table a_0isOver a_0isRuled a_0all a_0some a_0chosen a_0last a_0corner a_0wide a_0cuts a_0aside known_0 length_0 thrown_0 many_0 round_0 seed_0 hash_0 s_0)) (va_runS (As := [.long x1]) (rest := [.int v5]) ⟨hx, hb, hml, hown, hts⟩ (c_fM_bits l dC dI cI cZ cJ cQ _ h_s6) (va_cwS 1 hts gX10_against_X10_bits rfl rfl rfl (by decide +kernel) ⟨Nat.le_of_ble_eq_true rfl, Nat.le_of_ble_eq_true rfl⟩) (wh_preS hK hN hP hD [] rfl rfl) rfl rfl hl.1 rfl (lv_room (Nat.le_of_ble_eq_true rfl)) dX10_against_54 ⟨Nat.le_refl _, Nat.le_refl _⟩) hP hD hS hA [] [0, 1] [0, 1] rfl rfl rfl rfl (fun H locs hP hD hS => ?_)
        refine lv_icmp_eq (tgt := 64) hx hb dX10_against_57 (by decide) (fun cc => ?_) (fun cc => ?_)
        · replace hf := hf_pos cc hf
          refine lv_iconst (v := 0) hx hb dX10_against_64 (by decide) ?_
          obtain rfl := Option.some.inj hf
          exact hret _ _ _ _ hP hD hS dX10_against_65
        · replace hf := hf_neg cc hf
          refine lv_iconst (v := 4) hx hb dX10_against_60 (by decide) ?_
          refine lv_goto (tgt := 65) hx hb dX10_against_61 (by decide) ?_
          obtain rfl := Option.some.inj hf
          exact hret _ _ _ _ hP hD hS dX10_against_65
      · replace hf := hf_neg cc hf
        refine lv_iconst (v := 3) hx hb dX10_against_40 (by decide) ?_
        refine lv_goto (tgt := 65) hx hb dX10_against_41 (by decide) ?_
        obtain rfl := Option.some.inj hf
        exact hret _ _ _ _ hP hD hS dX10_against_65
    · replace hf := hf_neg (not_not_intro ((lg_cmp_eq _ _).mp cc)) hf
      refine lv_iconst (v := 2) hx hb dX10_against_28 (by decide) ?_
      refine lv_goto (tgt := 65) hx hb dX10_against_29 (by decide) ?_
      obtain rfl := Option.some.inj hf
      exact hret _ _ _ _ hP hD hS dX10_against_65
  · replace hf := hf_neg (mt (lg_cmp_eq _ _).mpr cc) hf
    refine lv_iconst (v := 1) hx hb dX10_against_18 (by decide) ?_
    refine lv_goto (tgt := 65) hx hb dX10_against_19 (by decide) ?_
    obtain rfl := Option.some.inj hf
    exact hret _ _ _ _ hP hD hS dX10_against_65
set_option maxHeartbeats 4000000 in
set_option maxRecDepth 100000 in
theorem c_fM_draws (l : Launch) (dC : Nat → ClassId) (dI : Nat → Nat → Nat) (cI cZ cJ cQ : ClassId) (a_0 a_0s a_0before a_0slots a_0isKept a_0buffer a_0cells a_0owner a_0code a_0table a_0isOver a_0isRuled a_0all a_0some a_0chosen a_0last a_0corner a_0wide a_0cuts a_0aside : Nat) (known_0 : Int32) (length_0 : Int32) (thrown_0 : Int32) (many_0 : Int32) (round_0 : Int32) (seed_0 : Int64) (hash_0 : Int64) (sz : Nat) {F : Nat} {x1 : Int64} {s_0 : Nat → Int32} {out : (Nat → Int32)} (hf : fM_draws F x1 s_0 = some out) : Met l yX10_draws wsX10_draws ({ frames := 2, cells := 0, slots := 0, locals := 44 } : Room) (va_Pc [.ref a_0, .long x1] (wlP (dC, dI) (wlT cI cZ cJ cQ) (wl_fM_draws cI cZ cJ cQ a_0 a_0s a_0before a_0slots a_0isKept a_0buffer a_0cells a_0owner a_0code a_0table a_0isOver a_0isRuled a_0all a_0some a_0chosen a_0last a_0corner a_0wide a_0cuts a_0aside known_0 length_0 thrown_0 many_0 round_0 seed_0 hash_0 s_0) sz)) (va_Qv (fun (_ : Unit) => True) (wlQ (dC, dI) (va_A (wl_fM_draws cI cZ cJ cQ a_0 a_0s a_0before a_0slots a_0isKept a_0buffer a_0cells a_0owner a_0code a_0table a_0isOver a_0isRuled a_0all a_0some a_0chosen a_0last a_0corner a_0wide a_0cuts a_0aside known_0 length_0 thrown_0 many_0 round_0 seed_0 hash_0 s_0) sz) (wl_fM_draws cI cZ cJ cQ a_0 a_0s a_0before a_0slots a_0isKept a_0buffer a_0cells a_0owner a_0code a_0table a_0isOver a_0isRuled a_0all a_0some a_0chosen a_0last a_0corner a_0wide a_0cuts a_0aside known_0 length_0 thrown_0 many_0 round_0 seed_0 hash_0 out)) (va_A (wl_fM_draws cI cZ cJ cQ a_0 a_0s a_0before a_0slots a_0isKept a_0buffer a_0cells a_0owner a_0code a_0table a_0isOver a_0isRuled a_0all a_0some a_0chosen a_0last a_0corner a_0wide a_0cuts a_0aside known_0 length_0 thrown_0 many_0 round_0 seed_0 hash_0 s_0) sz)) 0 0 (va_A (wl_fM_draws cI cZ cJ cQ a_0 a_0s a_0before a_0slots a_0isKept a_0buffer a_0cells a_0owner a_0code a_0table a_0isOver a_0isRuled a_0all a_0some a_0chosen a_0last a_0corner a_0wide a_0cuts a_0aside known_0 length_0 thrown_0 many_0 round_0 seed_0 hash_0 s_0) sz) := by
  refine wh_ofWv (lv := [(0, .ref a_0), (1, .long x1)]) RX10 (by decide) rfl rfl (Nat.le_of_ble_eq_true rfl) rfl ?_
  intro p e s m below meth c A QQ hx hb hml hown hts hP hK hN hD hA hret ls hl
  have hS : va_S A s.heap s.heap [] := va_S.rf
  have hiX10 : ∀ w ∈ wsX100, w ∈ wsX10_draws := (fun _ h => List.mem_cons_of_mem _ (List.mem_append_right _ (h)))
  unfold fM_draws at hf
  refine lv_lload_n hx hb dX10_draws_0 rfl (lv_at hl 1 rfl) ?_
  obtain ⟨s1, h_s1, hf⟩ := hf_bind hf
  refine wh_calli (D := (dC, dI)) (ws' := (wl_fM_draws cI cZ cJ cQ a_0 a_0s a_0before a_0slots a_0isKept a_0buffer a_0cells a_0owner a_0code a_0table a_0isOver a_0isRuled a_0all a_0some a_0chosen a_0last a_0corner a_0wide a_0cuts a_0aside known_0 length_0 thrown_0 many_0 round_0 seed_0 hash_0 s_0)) (va_runS (As := [.long x1]) (rest := []) ⟨hx, hb, hml, hown, hts⟩ (c_fM_lowest l dC dI cI cZ cJ cQ _ h_s1) (va_cwS 1 hts gX10_draws_X10_lowest rfl rfl rfl (by decide +kernel) ⟨Nat.le_of_ble_eq_true rfl, Nat.le_of_ble_eq_true rfl⟩) (wh_preS hK hN hP hD [] rfl rfl) rfl rfl hl.1 rfl (lv_room (Nat.le_of_ble_eq_true rfl)) dX10_draws_1 ⟨Nat.le_refl _, Nat.le_refl _⟩) hP hD hS hA [] [0, 1] [0, 1] rfl rfl rfl rfl (fun H locs hP hD hS => ?_)
  refine lv_istore_n (lv' := [(3, .int s1), (0, .ref a_0), (1, .long x1)]) hx hb dX10_draws_4 rfl hl (by decide) rfl (fun ls hl => ?_)
  refine lv_iconst (v := 0) hx hb dX10_draws_5 (by decide) ?_
  refine lv_istore (lv' := [(4, .int (0 : Int32)), (3, .int s1), (0, .ref a_0), (1, .long x1)]) hx hb dX10_draws_6 hl (by decide) rfl (fun ls hl => ?_)
  obtain ⟨r6, h_r6, hf⟩ := hf_bind hf
  have hE_1 : ∀ (H : Heap) (locs : List Loc) (ls : Array Slot), lv_has ls 5 [] → va_P (dC, dI) vwCl (wl_fM_draws cI cZ cJ cQ a_0 a_0s a_0before a_0slots a_0isKept a_0buffer a_0cells a_0owner a_0code a_0table a_0isOver a_0isRuled a_0all a_0some a_0chosen a_0last a_0corner a_0wide a_0cuts a_0aside known_0 length_0 thrown_0 many_0 round_0 seed_0 hash_0 r6.2) H → va_D A (wl_fM_draws cI cZ cJ cQ a_0 a_0s a_0before a_0slots a_0isKept a_0buffer a_0cells a_0owner a_0code a_0table a_0isOver a_0isRuled a_0all a_0some a_0chosen a_0last a_0corner a_0wide a_0cuts a_0aside known_0 length_0 thrown_0 many_0 round_0 seed_0 hash_0 r6.2) → va_S A s.heap H locs → W p l e ({ frames := 2, cells := 0, slots := 0, locals := 44 } : Room) s m [.ref a_0, .long x1].toArray below meth c H locs 0 0 QQ (F0 m 56 ls []) := by
    intro H locs ls hl hP hD hS
    obtain rfl := Option.some.inj hf
    exact hret _ _ _ _ hP hD hS dX10_draws_56
  have hL_2 : ∀ (N : Nat) (l4_3 : Int32) (s_0_4 : Nat → Int32), fM_draws_L8 F x1 s1 N l4_3 s_0_4 = some r6 → ∀ (H : Heap) (locs : List Loc) (ls : Array Slot), lv_has ls 5 [(0, .ref a_0), (1, .long x1), (3, .int s1), (4, .int l4_3)] → va_P (dC, dI) vwCl (wl_fM_draws cI cZ cJ cQ a_0 a_0s a_0before a_0slots a_0isKept a_0buffer a_0cells a_0owner a_0code a_0table a_0isOver a_0isRuled a_0all a_0some a_0chosen a_0last a_0corner a_0wide a_0cuts a_0aside known_0 length_0 thrown_0 many_0 round_0 seed_0 hash_0 s_0_4) H → va_D A (wl_fM_draws cI cZ cJ cQ a_0 a_0s a_0before a_0slots a_0isKept a_0buffer a_0cells a_0owner a_0code a_0table a_0isOver a_0isRuled a_0all a_0some a_0chosen a_0last a_0corner a_0wide a_0cuts a_0aside known_0 length_0 thrown_0 many_0 round_0 seed_0 hash_0 s_0_4) → va_S A s.heap H locs → W p l e ({ frames := 2, cells := 0, slots := 0, locals := 44 } : Room) s m [.ref a_0, .long x1].toArray below meth c H locs 0 0 QQ (F0 m 8 ls []) := by
    intro N
    induction N with
    | zero => intro l4_3 s_0_4 hf; exact nomatch (show none = some _ from hf)
    | succ N ih =>
      intro l4_3 s_0_4 hf H locs ls hl hP hD hS
      rw [fM_draws_L8] at hf
      refine lv_iload hx hb dX10_draws_8 (lv_at hl 3 rfl) ?_
      refine lv_bipush (v := 42) hx hb dX10_draws_10 (by decide) ?_
      refine lv_icmp_ge (tgt := 56) hx hb dX10_draws_12 (by decide) (fun cc => ?_) (fun cc => ?_)
      · replace hf := hf_pos cc hf
        obtain rfl := Option.some.inj hf
        exact hE_1 _ _ _ (lv_sub hl [] rfl) hP hD hS
      · replace hf := hf_neg cc hf
        refine lv_aload_n hx hb dX10_draws_15 rfl (lv_at hl 0 rfl) ?_
        refine va_get (D := (dC, dI)) (ci := 10) (C := RX10) (T := TX10) (N := 26) hx hb hts hiX10 hown hK hP 0 rfl rfl 0 (by decide) (hts (.fieldLink RX10 7 "PaddockFieldsModel" "s" "[I") (List.mem_cons_of_mem _ (List.mem_append_left _ (List.mem_of_getElem? (i := 0) rfl)))) (fun _ h9 => h9) rfl dX10_draws_16 ?_
        refine lv_bipush (v := 42) hx hb dX10_draws_19 (by decide) ?_
        refine lv_iload hx hb dX10_draws_21 (lv_at hl 3 rfl) ?_
        refine lv_iadd hx hb dX10_draws_23 ?_
        refine lv_lload_n hx hb dX10_draws_24 rfl (lv_at hl 1 rfl) ?_
        refine lv_iload hx hb dX10_draws_25 (lv_at hl 3 rfl) ?_
        obtain ⟨s2, h_s2, hf⟩ := hf_bind hf
        refine wh_calli (D := (dC, dI)) (ws' := (wl_fM_draws cI cZ cJ cQ a_0 a_0s a_0before a_0slots a_0isKept a_0buffer a_0cells a_0owner a_0code a_0table a_0isOver a_0isRuled a_0all a_0some a_0chosen a_0last a_0corner a_0wide a_0cuts a_0aside known_0 length_0 thrown_0 many_0 round_0 seed_0 hash_0 s_0_4)) (va_runS (As := [.long x1, .int l4_3]) (rest := [.int ((42 : Int32) + l4_3), .ref a_0s]) ⟨hx, hb, hml, hown, hts⟩ (c_fM_has l dC dI cI cZ cJ cQ _ h_s2) (va_cwS 2 hts gX10_draws_X10_has rfl rfl rfl (by decide +kernel) ⟨Nat.le_of_ble_eq_true rfl, Nat.le_of_ble_eq_true rfl⟩) (wh_preS hK hN hP hD [] rfl rfl) rfl rfl hl.1 rfl (lv_room (Nat.le_of_ble_eq_true rfl)) dX10_draws_27 ⟨Nat.le_refl _, Nat.le_refl _⟩) hP hD hS hA [] [0, 1] [0, 1] rfl rfl rfl rfl (fun H locs hP hD hS => ?_)
        obtain ⟨j4, h_j4, hf⟩ := hf_bind hf
        have hJ_5 : ∀ (H : Heap) (locs : List Loc) (ls : Array Slot), lv_has ls 5 [(0, .ref a_0), (1, .long x1), (3, .int s1), (4, .int l4_3)] → va_P (dC, dI) vwCl (wl_fM_draws cI cZ cJ cQ a_0 a_0s a_0before a_0slots a_0isKept a_0buffer a_0cells a_0owner a_0code a_0table a_0isOver a_0isRuled a_0all a_0some a_0chosen a_0last a_0corner a_0wide a_0cuts a_0aside known_0 length_0 thrown_0 many_0 round_0 seed_0 hash_0 s_0_4) H → va_D A (wl_fM_draws cI cZ cJ cQ a_0 a_0s a_0before a_0slots a_0isKept a_0buffer a_0cells a_0owner a_0code a_0table a_0isOver a_0isRuled a_0all a_0some a_0chosen a_0last a_0corner a_0wide a_0cuts a_0aside known_0 length_0 thrown_0 many_0 round_0 seed_0 hash_0 s_0_4) → va_S A s.heap H locs → W p l e ({ frames := 2, cells := 0, slots := 0, locals := 44 } : Room) s m [.ref a_0, .long x1].toArray below meth c H locs 0 0 QQ (F0 m 49 ls [.int j4, .int ((42 : Int32) + l4_3), .ref a_0s]) := by
          intro H locs ls hl hP hD hS
          obtain ⟨w5, h_w5, hf⟩ := hf_bind hf
          refine wh_stI (D := (dC, dI)) (ws' := (wl_fM_draws cI cZ cJ cQ a_0 a_0s a_0before a_0slots a_0isKept a_0buffer a_0cells a_0owner a_0code a_0table a_0isOver a_0isRuled a_0all a_0some a_0chosen a_0last a_0corner a_0wide a_0cuts a_0aside known_0 length_0 thrown_0 many_0 round_0 seed_0 hash_0 w5)) hx hb hK hP hD hS 1 0 rfl rfl rfl h_w5 dX10_draws_49 (fun H locs hP hD hS => ?_)
          refine lv_iinc (v := (l4_3 + (1 : Int32))) (lv' := [(4, .int (l4_3 + (1 : Int32))), (0, .ref a_0), (1, .long x1), (3, .int s1)]) hx hb dX10_draws_50 hl (k := 3) rfl rfl (by decide) rfl (fun ls hl => ?_)
          refine lv_goto (tgt := 8) hx hb dX10_draws_53 (by decide) ?_
          exact ih _ _ hf _ _ _ (lv_sub hl [1, 2, 3, 0] rfl) hP hD hS
        clear hf
        have hf := h_j4
        clear h_j4
        refine lv_if_eq (tgt := 39) hx hb dX10_draws_30 (by decide) (fun cc => ?_) (fun cc => ?_)
        · replace hf := hf_pos cc hf
          refine lv_aload_n hx hb dX10_draws_39 rfl (lv_at hl 0 rfl) ?_
          refine va_get (D := (dC, dI)) (ci := 10) (C := RX10) (T := TX10) (N := 26) hx hb hts hiX10 hown hK hP 0 rfl rfl 0 (by decide) (hts (.fieldLink RX10 7 "PaddockFieldsModel" "s" "[I") (List.mem_cons_of_mem _ (List.mem_append_left _ (List.mem_of_getElem? (i := 0) rfl)))) (fun _ h9 => h9) rfl dX10_draws_40 ?_
          refine lv_bipush (v := 42) hx hb dX10_draws_43 (by decide) ?_
          refine lv_iload hx hb dX10_draws_45 (lv_at hl 3 rfl) ?_
          refine lv_iadd hx hb dX10_draws_47 ?_
          obtain ⟨v3, h_v3, hf⟩ := hf_bind hf
          refine wh_ldI (D := (dC, dI)) hx hb hK hP 1 0 rfl rfl h_v3 dX10_draws_48 ?_
          obtain rfl := Option.some.inj hf
          exact hJ_5 _ _ _ (lv_sub hl [0, 1, 2, 3] rfl) hP hD hS
        · replace hf := hf_neg cc hf
          refine lv_iload_n hx hb dX10_draws_33 rfl (lv_at hl 2 rfl) ?_
          refine lv_iconst (v := 1) hx hb dX10_draws_34 (by decide) ?_
          refine lv_iadd hx hb dX10_draws_35 ?_
          refine lv_goto (tgt := 49) hx hb dX10_draws_36 (by decide) ?_
          obtain rfl := Option.some.inj hf
          exact hJ_5 _ _ _ (lv_sub hl [0, 1, 2, 3] rfl) hP hD hS
  exact hL_2 _ _ _ h_r6 _ _ _ (lv_sub hl [2, 3, 1, 0] rfl) hP hD hS
set_option maxHeartbeats 4000000 in
set_option maxRecDepth 100000 in
theorem c_fM_lists (l : Launch) (dC : Nat → ClassId) (dI : Nat → Nat → Nat) (cI cZ cJ cQ : ClassId) (a_0 a_0s a_0cells a_0owner a_0code a_0table a_0before a_0slots a_0isKept a_0buffer a_0isOver a_0isRuled a_0all a_0some a_0chosen a_0last a_0corner a_0wide a_0cuts a_0aside : Nat) (known_0 : Int32) (length_0 : Int32) (thrown_0 : Int32) (round_0 : Int32) (seed_0 : Int64) (hash_0 : Int64) (sz : Nat) {F : Nat} {x1 : Int32} {x2 : Int64} {x3 : Int64} {s_0 : Nat → Int32} {many_0 : Int32} {cells_0 : Nat → Int64} {owner_0 : Nat → Int32} {code_0 : Nat → Int32} {table_0 : Nat → Int32} {out : (Nat → Int64) × (Nat → Int32) × (Nat → Int32) × (Nat → Int32) × Int32} (hf : fM_lists F x1 x2 x3 s_0 many_0 cells_0 owner_0 code_0 table_0 = some out) : Met l yX10_lists wsX10_lists ({ frames := 1, cells := 0, slots := 0, locals := 27 } : Room) (va_Pc [.ref a_0, .int x1, .long x2, .long x3] (wlP (dC, dI) (wlT cI cZ cJ cQ) (wl_fM_lists cI cZ cJ cQ a_0 a_0s a_0cells a_0owner a_0code a_0table a_0before a_0slots a_0isKept a_0buffer a_0isOver a_0isRuled a_0all a_0some a_0chosen a_0last a_0corner a_0wide a_0cuts a_0aside known_0 length_0 thrown_0 many_0 round_0 seed_0 hash_0 s_0 cells_0 owner_0 code_0 table_0) sz)) (va_Qv (fun (_ : Unit) => True) (wlQ (dC, dI) (va_A (wl_fM_lists cI cZ cJ cQ a_0 a_0s a_0cells a_0owner a_0code a_0table a_0before a_0slots a_0isKept a_0buffer a_0isOver a_0isRuled a_0all a_0some a_0chosen a_0last a_0corner a_0wide a_0cuts a_0aside known_0 length_0 thrown_0 many_0 round_0 seed_0 hash_0 s_0 cells_0 owner_0 code_0 table_0) sz) (wl_fM_lists cI cZ cJ cQ a_0 a_0s a_0cells a_0owner a_0code a_0table a_0before a_0slots a_0isKept a_0buffer a_0isOver a_0isRuled a_0all a_0some a_0chosen a_0last a_0corner a_0wide a_0cuts a_0aside known_0 length_0 thrown_0 out.2.2.2.2 round_0 seed_0 hash_0 s_0 out.1 out.2.1 out.2.2.1 out.2.2.2.1)) (va_A (wl_fM_lists cI cZ cJ cQ a_0 a_0s a_0cells a_0owner a_0code a_0table a_0before a_0slots a_0isKept a_0buffer a_0isOver a_0isRuled a_0all a_0some a_0chosen a_0last a_0corner a_0wide a_0cuts a_0aside known_0 length_0 thrown_0 many_0 round_0 seed_0 hash_0 s_0 cells_0 owner_0 code_0 table_0) sz)) 0 0 (va_A (wl_fM_lists cI cZ cJ cQ a_0 a_0s a_0cells a_0owner a_0code a_0table a_0before a_0slots a_0isKept a_0buffer a_0isOver a_0isRuled a_0all a_0some a_0chosen a_0last a_0corner a_0wide a_0cuts a_0aside known_0 length_0 thrown_0 many_0 round_0 seed_0 hash_0 s_0 cells_0 owner_0 code_0 table_0) sz) := by
  refine wh_ofWv (lv := [(0, .ref a_0), (1, .int x1), (2, .long x2), (4, .long x3)]) RX10 (by decide) rfl rfl (Nat.le_of_ble_eq_true rfl) rfl ?_
  intro p e s m below meth c A QQ hx hb hml hown hts hP hK hN hD hA hret ls hl
  have hS : va_S A s.heap s.heap [] := va_S.rf
  have hiX10 : ∀ w ∈ wsX100, w ∈ wsX10_lists := (fun _ h => List.mem_cons_of_mem _ (List.mem_append_right _ (h)))
  unfold fM_lists at hf
  refine lv_iload_n hx hb dX10_lists_0 rfl (lv_at hl 1 rfl) ?_
  refine lv_bipush (v := 7) hx hb dX10_lists_1 (by decide) ?_
  refine lv_idiv hx hb dX10_lists_3 (by decide) ?_
  refine lv_istore (lv' := [(6, .int (x1 / (7 : Int32))), (0, .ref a_0), (1, .int x1), (2, .long x2), (4, .long x3)]) hx hb dX10_lists_4 hl (by decide) rfl (fun ls hl => ?_)
  refine lv_iload_n hx hb dX10_lists_6 rfl (lv_at hl 2 rfl) ?_
  refine lv_bipush (v := 7) hx hb dX10_lists_7 (by decide) ?_
  refine lv_irem hx hb dX10_lists_9 (by decide) ?_
  refine lv_istore (lv' := [(7, .int (x1 - x1 / (7 : Int32) * (7 : Int32))), (6, .int (x1 / (7 : Int32))), (0, .ref a_0), (1, .int x1), (2, .long x2), (4, .long x3)]) hx hb dX10_lists_10 hl (by decide) rfl (fun ls hl => ?_)
  refine lv_iconst (v := 0) hx hb dX10_lists_12 (by decide) ?_
  refine lv_istore (lv' := [(8, .int (0 : Int32)), (7, .int (x1 - x1 / (7 : Int32) * (7 : Int32))), (6, .int (x1 / (7 : Int32))), (0, .ref a_0), (1, .int x1), (2, .long x2), (4, .long x3)]) hx hb dX10_lists_13 hl (by decide) rfl (fun ls hl => ?_)
  obtain ⟨r14, h_r14, hf⟩ := hf_bind hf
  have hE_1 : ∀ (H : Heap) (locs : List Loc) (ls : Array Slot), lv_has ls 16 [] → va_P (dC, dI) vwCl (wl_fM_lists cI cZ cJ cQ a_0 a_0s a_0cells a_0owner a_0code a_0table a_0before a_0slots a_0isKept a_0buffer a_0isOver a_0isRuled a_0all a_0some a_0chosen a_0last a_0corner a_0wide a_0cuts a_0aside known_0 length_0 thrown_0 r14.2.1 round_0 seed_0 hash_0 s_0 r14.2.2.1 r14.2.2.2.1 r14.2.2.2.2.1 r14.2.2.2.2.2) H → va_D A (wl_fM_lists cI cZ cJ cQ a_0 a_0s a_0cells a_0owner a_0code a_0table a_0before a_0slots a_0isKept a_0buffer a_0isOver a_0isRuled a_0all a_0some a_0chosen a_0last a_0corner a_0wide a_0cuts a_0aside known_0 length_0 thrown_0 r14.2.1 round_0 seed_0 hash_0 s_0 r14.2.2.1 r14.2.2.2.1 r14.2.2.2.2.1 r14.2.2.2.2.2) → va_S A s.heap H locs → W p l e ({ frames := 1, cells := 0, slots := 0, locals := 27 } : Room) s m [.ref a_0, .int x1, .long x2, .long x3].toArray below meth c H locs 0 0 QQ (F0 m 257 ls []) := by
    intro H locs ls hl hP hD hS
    obtain rfl := Option.some.inj hf
    exact hret _ _ _ _ hP hD hS dX10_lists_257
  have hL_2 : ∀ (N : Nat) (l8_3 : Int32) (many_0_4 : Int32) (cells_0_5 : Nat → Int64) (owner_0_6 : Nat → Int32) (code_0_7 : Nat → Int32) (table_0_8 : Nat → Int32), fM_lists_L15 F x1 x2 x3 (x1 / (7 : Int32)) (x1 - x1 / (7 : Int32) * (7 : Int32)) s_0 N l8_3 many_0_4 cells_0_5 owner_0_6 code_0_7 table_0_8 = some r14 → ∀ (H : Heap) (locs : List Loc) (ls : Array Slot), lv_has ls 16 [(0, .ref a_0), (1, .int x1), (2, .long x2), (4, .long x3), (6, .int (x1 / (7 : Int32))), (7, .int (x1 - x1 / (7 : Int32) * (7 : Int32))), (8, .int l8_3)] → va_P (dC, dI) vwCl (wl_fM_lists cI cZ cJ cQ a_0 a_0s a_0cells a_0owner a_0code a_0table a_0before a_0slots a_0isKept a_0buffer a_0isOver a_0isRuled a_0all a_0some a_0chosen a_0last a_0corner a_0wide a_0cuts a_0aside known_0 length_0 thrown_0 many_0_4 round_0 seed_0 hash_0 s_0 cells_0_5 owner_0_6 code_0_7 table_0_8) H → va_D A (wl_fM_lists cI cZ cJ cQ a_0 a_0s a_0cells a_0owner a_0code a_0table a_0before a_0slots a_0isKept a_0buffer a_0isOver a_0isRuled a_0all a_0some a_0chosen a_0last a_0corner a_0wide a_0cuts a_0aside known_0 length_0 thrown_0 many_0_4 round_0 seed_0 hash_0 s_0 cells_0_5 owner_0_6 code_0_7 table_0_8) → va_S A s.heap H locs → W p l e ({ frames := 1, cells := 0, slots := 0, locals := 27 } : Room) s m [.ref a_0, .int x1, .long x2, .long x3].toArray below meth c H locs 0 0 QQ (F0 m 15 ls []) := by
    intro N
    induction N with
    | zero => intro l8_3 many_0_4 cells_0_5 owner_0_6 code_0_7 table_0_8 hf; exact nomatch (show none = some _ from hf)
    | succ N ih =>
      intro l8_3 many_0_4 cells_0_5 owner_0_6 code_0_7 table_0_8 hf H locs ls hl hP hD hS
      rw [fM_lists_L15] at hf
      refine lv_iload hx hb dX10_lists_15 (lv_at hl 6 rfl) ?_
      refine lv_iload hx hb dX10_lists_17 (lv_at hl 4 rfl) ?_
      refine lv_icmp_gt (tgt := 257) hx hb dX10_lists_19 (by decide) (fun cc => ?_) (fun cc => ?_)
      · replace hf := hf_pos cc hf
        obtain rfl := Option.some.inj hf
        exact hE_1 _ _ _ (lv_sub hl [] rfl) hP hD hS
      · replace hf := hf_neg cc hf
        refine lv_iconst (v := 0) hx hb dX10_lists_22 (by decide) ?_
        refine lv_istore (lv' := [(9, .int (0 : Int32)), (0, .ref a_0), (1, .int x1), (2, .long x2), (4, .long x3), (6, .int (x1 / (7 : Int32))), (7, .int (x1 - x1 / (7 : Int32) * (7 : Int32))), (8, .int l8_3)]) hx hb dX10_lists_23 hl (by decide) rfl (fun ls hl => ?_)
        obtain ⟨r13, h_r13, hf⟩ := hf_bind hf
        have hE_9 : ∀ (H : Heap) (locs : List Loc) (ls : Array Slot), lv_has ls 16 [(0, .ref a_0), (1, .int x1), (2, .long x2), (4, .long x3), (6, .int (x1 / (7 : Int32))), (7, .int (x1 - x1 / (7 : Int32) * (7 : Int32))), (8, .int l8_3)] → va_P (dC, dI) vwCl (wl_fM_lists cI cZ cJ cQ a_0 a_0s a_0cells a_0owner a_0code a_0table a_0before a_0slots a_0isKept a_0buffer a_0isOver a_0isRuled a_0all a_0some a_0chosen a_0last a_0corner a_0wide a_0cuts a_0aside known_0 length_0 thrown_0 r13.2.1 round_0 seed_0 hash_0 s_0 r13.2.2.1 r13.2.2.2.1 r13.2.2.2.2.1 r13.2.2.2.2.2) H → va_D A (wl_fM_lists cI cZ cJ cQ a_0 a_0s a_0cells a_0owner a_0code a_0table a_0before a_0slots a_0isKept a_0buffer a_0isOver a_0isRuled a_0all a_0some a_0chosen a_0last a_0corner a_0wide a_0cuts a_0aside known_0 length_0 thrown_0 r13.2.1 round_0 seed_0 hash_0 s_0 r13.2.2.1 r13.2.2.2.1 r13.2.2.2.2.1 r13.2.2.2.2.2) → va_S A s.heap H locs → W p l e ({ frames := 1, cells := 0, slots := 0, locals := 27 } : Room) s m [.ref a_0, .int x1, .long x2, .long x3].toArray below meth c H locs 0 0 QQ (F0 m 251 ls []) := by
          intro H locs ls hl hP hD hS
          refine lv_iinc (v := (l8_3 + (1 : Int32))) (lv' := [(8, .int (l8_3 + (1 : Int32))), (0, .ref a_0), (1, .int x1), (2, .long x2), (4, .long x3), (6, .int (x1 / (7 : Int32))), (7, .int (x1 - x1 / (7 : Int32) * (7 : Int32)))]) hx hb dX10_lists_251 hl (k := 6) rfl rfl (by decide) rfl (fun ls hl => ?_)
          refine lv_goto (tgt := 15) hx hb dX10_lists_254 (by decide) ?_
          exact ih _ _ _ _ _ _ hf _ _ _ (lv_sub hl [1, 2, 3, 4, 5, 6, 0] rfl) hP hD hS
        have hL_10 : ∀ (N : Nat) (l9_11 : Int32) (many_0_12 : Int32) (cells_0_13 : Nat → Int64) (owner_0_14 : Nat → Int32) (code_0_15 : Nat → Int32) (table_0_16 : Nat → Int32), fM_lists_L25 F x1 x2 x3 (x1 / (7 : Int32)) (x1 - x1 / (7 : Int32) * (7 : Int32)) l8_3 s_0 N l9_11 many_0_12 cells_0_13 owner_0_14 code_0_15 table_0_16 = some r13 → ∀ (H : Heap) (locs : List Loc) (ls : Array Slot), lv_has ls 16 [(0, .ref a_0), (1, .int x1), (2, .long x2), (4, .long x3), (6, .int (x1 / (7 : Int32))), (7, .int (x1 - x1 / (7 : Int32) * (7 : Int32))), (8, .int l8_3), (9, .int l9_11)] → va_P (dC, dI) vwCl (wl_fM_lists cI cZ cJ cQ a_0 a_0s a_0cells a_0owner a_0code a_0table a_0before a_0slots a_0isKept a_0buffer a_0isOver a_0isRuled a_0all a_0some a_0chosen a_0last a_0corner a_0wide a_0cuts a_0aside known_0 length_0 thrown_0 many_0_12 round_0 seed_0 hash_0 s_0 cells_0_13 owner_0_14 code_0_15 table_0_16) H → va_D A (wl_fM_lists cI cZ cJ cQ a_0 a_0s a_0cells a_0owner a_0code a_0table a_0before a_0slots a_0isKept a_0buffer a_0isOver a_0isRuled a_0all a_0some a_0chosen a_0last a_0corner a_0wide a_0cuts a_0aside known_0 length_0 thrown_0 many_0_12 round_0 seed_0 hash_0 s_0 cells_0_13 owner_0_14 code_0_15 table_0_16) → va_S A s.heap H locs → W p l e ({ frames := 1, cells := 0, slots := 0, locals := 27 } : Room) s m [.ref a_0, .int x1, .long x2, .long x3].toArray below meth c H locs 0 0 QQ (F0 m 25 ls []) := by
          intro N
          induction N with
          | zero => intro l9_11 many_0_12 cells_0_13 owner_0_14 code_0_15 table_0_16 hf; exact nomatch (show none = some _ from hf)
          | succ N ih =>
            intro l9_11 many_0_12 cells_0_13 owner_0_14 code_0_15 table_0_16 hf H locs ls hl hP hD hS
            rw [fM_lists_L25] at hf
            refine lv_iload hx hb dX10_lists_25 (lv_at hl 7 rfl) ?_
            refine lv_iload hx hb dX10_lists_27 (lv_at hl 5 rfl) ?_
            refine lv_icmp_gt (tgt := 251) hx hb dX10_lists_29 (by decide) (fun cc => ?_) (fun cc => ?_)
            · replace hf := hf_pos cc hf
              obtain rfl := Option.some.inj hf
              exact hE_9 _ _ _ (lv_sub hl [0, 1, 2, 3, 4, 5, 6] rfl) hP hD hS
            · replace hf := hf_neg cc hf
              refine lv_iload hx hb dX10_lists_32 (lv_at hl 4 rfl) ?_
              refine lv_istore (lv' := [(10, .int (x1 / (7 : Int32))), (0, .ref a_0), (1, .int x1), (2, .long x2), (4, .long x3), (6, .int (x1 / (7 : Int32))), (7, .int (x1 - x1 / (7 : Int32) * (7 : Int32))), (8, .int l8_3), (9, .int l9_11)]) hx hb dX10_lists_34 hl (by decide) rfl (fun ls hl => ?_)
              obtain ⟨r12, h_r12, hf⟩ := hf_bind hf
              have hE_17 : ∀ (H : Heap) (locs : List Loc) (ls : Array Slot), lv_has ls 16 [(0, .ref a_0), (1, .int x1), (2, .long x2), (4, .long x3), (6, .int (x1 / (7 : Int32))), (7, .int (x1 - x1 / (7 : Int32) * (7 : Int32))), (8, .int l8_3), (9, .int l9_11)] → va_P (dC, dI) vwCl (wl_fM_lists cI cZ cJ cQ a_0 a_0s a_0cells a_0owner a_0code a_0table a_0before a_0slots a_0isKept a_0buffer a_0isOver a_0isRuled a_0all a_0some a_0chosen a_0last a_0corner a_0wide a_0cuts a_0aside known_0 length_0 thrown_0 r12.2.1 round_0 seed_0 hash_0 s_0 r12.2.2.1 r12.2.2.2.1 r12.2.2.2.2.1 r12.2.2.2.2.2) H → va_D A (wl_fM_lists cI cZ cJ cQ a_0 a_0s a_0cells a_0owner a_0code a_0table a_0before a_0slots a_0isKept a_0buffer a_0isOver a_0isRuled a_0all a_0some a_0chosen a_0last a_0corner a_0wide a_0cuts a_0aside known_0 length_0 thrown_0 r12.2.1 round_0 seed_0 hash_0 s_0 r12.2.2.1 r12.2.2.2.1 r12.2.2.2.2.1 r12.2.2.2.2.2) → va_S A s.heap H locs → W p l e ({ frames := 1, cells := 0, slots := 0, locals := 27 } : Room) s m [.ref a_0, .int x1, .long x2, .long x3].toArray below meth c H locs 0 0 QQ (F0 m 245 ls []) := by
                intro H locs ls hl hP hD hS
                refine lv_iinc (v := (l9_11 + (1 : Int32))) (lv' := [(9, .int (l9_11 + (1 : Int32))), (0, .ref a_0), (1, .int x1), (2, .long x2), (4, .long x3), (6, .int (x1 / (7 : Int32))), (7, .int (x1 - x1 / (7 : Int32) * (7 : Int32))), (8, .int l8_3)]) hx hb dX10_lists_245 hl (k := 7) rfl rfl (by decide) rfl (fun ls hl => ?_)
                refine lv_goto (tgt := 25) hx hb dX10_lists_248 (by decide) ?_
                exact ih _ _ _ _ _ _ hf _ _ _ (lv_sub hl [1, 2, 3, 4, 5, 6, 7, 0] rfl) hP hD hS
              have hL_18 : ∀ (N : Nat) (l10_19 : Int32) (many_0_20 : Int32) (cells_0_21 : Nat → Int64) (owner_0_22 : Nat → Int32) (code_0_23 : Nat → Int32) (table_0_24 : Nat → Int32), fM_lists_L36 F x1 x2 x3 (x1 - x1 / (7 : Int32) * (7 : Int32)) l8_3 l9_11 s_0 N l10_19 many_0_20 cells_0_21 owner_0_22 code_0_23 table_0_24 = some r12 → ∀ (H : Heap) (locs : List Loc) (ls : Array Slot), lv_has ls 16 [(0, .ref a_0), (1, .int x1), (2, .long x2), (4, .long x3), (6, .int (x1 / (7 : Int32))), (7, .int (x1 - x1 / (7 : Int32) * (7 : Int32))), (8, .int l8_3), (9, .int l9_11), (10, .int l10_19)] → va_P (dC, dI) vwCl (wl_fM_lists cI cZ cJ cQ a_0 a_0s a_0cells a_0owner a_0code a_0table a_0before a_0slots a_0isKept a_0buffer a_0isOver a_0isRuled a_0all a_0some a_0chosen a_0last a_0corner a_0wide a_0cuts a_0aside known_0 length_0 thrown_0 many_0_20 round_0 seed_0 hash_0 s_0 cells_0_21 owner_0_22 code_0_23 table_0_24) H → va_D A (wl_fM_lists cI cZ cJ cQ a_0 a_0s a_0cells a_0owner a_0code a_0table a_0before a_0slots a_0isKept a_0buffer a_0isOver a_0isRuled a_0all a_0some a_0chosen a_0last a_0corner a_0wide a_0cuts a_0aside known_0 length_0 thrown_0 many_0_20 round_0 seed_0 hash_0 s_0 cells_0_21 owner_0_22 code_0_23 table_0_24) → va_S A s.heap H locs → W p l e ({ frames := 1, cells := 0, slots := 0, locals := 27 } : Room) s m [.ref a_0, .int x1, .long x2, .long x3].toArray below meth c H locs 0 0 QQ (F0 m 36 ls []) := by
                intro N
                induction N with
                | zero => intro l10_19 many_0_20 cells_0_21 owner_0_22 code_0_23 table_0_24 hf; exact nomatch (show none = some _ from hf)
                | succ N ih =>
                  intro l10_19 many_0_20 cells_0_21 owner_0_22 code_0_23 table_0_24 hf H locs ls hl hP hD hS
                  rw [fM_lists_L36] at hf
                  refine lv_iload hx hb dX10_lists_36 (lv_at hl 8 rfl) ?_
                  refine lv_bipush (v := 6) hx hb dX10_lists_38 (by decide) ?_
                  refine lv_icmp_ge (tgt := 245) hx hb dX10_lists_40 (by decide) (fun cc => ?_) (fun cc => ?_)
                  · replace hf := hf_pos cc hf
                    obtain rfl := Option.some.inj hf
                    exact hE_17 _ _ _ (lv_sub hl [0, 1, 2, 3, 4, 5, 6, 7] rfl) hP hD hS
                  · replace hf := hf_neg cc hf
                    refine lv_aload_n hx hb dX10_lists_43 rfl (lv_at hl 0 rfl) ?_
                    refine va_get (D := (dC, dI)) (ci := 10) (C := RX10) (T := TX10) (N := 26) hx hb hts hiX10 hown hK hP 0 rfl rfl 0 (by decide) (hts (.fieldLink RX10 7 "PaddockFieldsModel" "s" "[I") (List.mem_cons_of_mem _ (List.mem_append_left _ (List.mem_of_getElem? (i := 0) rfl)))) (fun _ h9 => h9) rfl dX10_lists_44 ?_
                    refine lv_iload_n hx hb dX10_lists_47 rfl (lv_at hl 1 rfl) ?_
                    obtain ⟨v1, h_v1, hf⟩ := hf_bind hf
                    refine wh_ldI (D := (dC, dI)) hx hb hK hP 1 0 rfl rfl h_v1 dX10_lists_48 ?_
                    refine lv_iload hx hb dX10_lists_49 (lv_at hl 8 rfl) ?_
                    refine lv_iload hx hb dX10_lists_51 (lv_at hl 6 rfl) ?_
                    refine lv_isub hx hb dX10_lists_53 ?_
                    refine lv_iconst (v := 1) hx hb dX10_lists_54 (by decide) ?_
                    refine lv_iadd hx hb dX10_lists_55 ?_
                    obtain ⟨v2, h_v2, hf⟩ := hf_bind hf
                    refine wh_idiv hx hb h_v2 dX10_lists_56 ?_
                    refine lv_istore (lv' := [(11, .int v2), (0, .ref a_0), (1, .int x1), (2, .long x2), (4, .long x3), (6, .int (x1 / (7 : Int32))), (7, .int (x1 - x1 / (7 : Int32) * (7 : Int32))), (8, .int l8_3), (9, .int l9_11), (10, .int l10_19)]) hx hb dX10_lists_57 hl (by decide) rfl (fun ls hl => ?_)
                    refine lv_iload hx hb dX10_lists_59 (lv_at hl 8 rfl) ?_
                    refine lv_iload hx hb dX10_lists_61 (lv_at hl 0 rfl) ?_
                    refine lv_iadd hx hb dX10_lists_63 ?_
                    refine lv_iconst (v := 1) hx hb dX10_lists_64 (by decide) ?_
                    refine lv_isub hx hb dX10_lists_65 ?_
                    refine lv_istore (lv' := [(12, .int ((l9_11 + v2) - (1 : Int32))), (11, .int v2), (0, .ref a_0), (1, .int x1), (2, .long x2), (4, .long x3), (6, .int (x1 / (7 : Int32))), (7, .int (x1 - x1 / (7 : Int32) * (7 : Int32))), (8, .int l8_3), (9, .int l9_11), (10, .int l10_19)]) hx hb dX10_lists_66 hl (by decide) rfl (fun ls hl => ?_)
                    refine lv_iload hx hb dX10_lists_68 (lv_at hl 1 rfl) ?_
                    refine lv_iload hx hb dX10_lists_70 (lv_at hl 10 rfl) ?_
                    refine lv_iload hx hb dX10_lists_72 (lv_at hl 8 rfl) ?_
                    refine lv_isub hx hb dX10_lists_74 ?_
                    refine lv_iconst (v := 1) hx hb dX10_lists_75 (by decide) ?_
                    refine lv_iadd hx hb dX10_lists_76 ?_
                    refine lv_imul hx hb dX10_lists_77 ?_
                    refine lv_aload_n hx hb dX10_lists_78 rfl (lv_at hl 2 rfl) ?_
                    refine va_get (D := (dC, dI)) (ci := 10) (C := RX10) (T := TX10) (N := 26) hx hb hts hiX10 hown hK hP 0 rfl rfl 0 (by decide) (hts (.fieldLink RX10 7 "PaddockFieldsModel" "s" "[I") (List.mem_cons_of_mem _ (List.mem_append_left _ (List.mem_of_getElem? (i := 0) rfl)))) (fun _ h9 => h9) rfl dX10_lists_79 ?_
                    refine lv_iload_n hx hb dX10_lists_82 rfl (lv_at hl 3 rfl) ?_
                    obtain ⟨v3, h_v3, hf⟩ := hf_bind hf
                    refine wh_ldI (D := (dC, dI)) hx hb hK hP 1 0 rfl rfl h_v3 dX10_lists_83 ?_
                    obtain ⟨j4, h_j4, hf⟩ := hf_bind hf
                    have hJ_25 : ∀ (H : Heap) (locs : List Loc) (ls : Array Slot), lv_has ls 16 [(0, .ref a_0), (1, .int x1), (2, .long x2), (4, .long x3), (6, .int (x1 / (7 : Int32))), (7, .int (x1 - x1 / (7 : Int32) * (7 : Int32))), (8, .int l8_3), (9, .int l9_11), (10, .int l10_19), (12, .int ((l9_11 + v2) - (1 : Int32)))] → va_P (dC, dI) vwCl (wl_fM_lists cI cZ cJ cQ a_0 a_0s a_0cells a_0owner a_0code a_0table a_0before a_0slots a_0isKept a_0buffer a_0isOver a_0isRuled a_0all a_0some a_0chosen a_0last a_0corner a_0wide a_0cuts a_0aside known_0 length_0 thrown_0 many_0_20 round_0 seed_0 hash_0 s_0 cells_0_21 owner_0_22 code_0_23 table_0_24) H → va_D A (wl_fM_lists cI cZ cJ cQ a_0 a_0s a_0cells a_0owner a_0code a_0table a_0before a_0slots a_0isKept a_0buffer a_0isOver a_0isRuled a_0all a_0some a_0chosen a_0last a_0corner a_0wide a_0cuts a_0aside known_0 length_0 thrown_0 many_0_20 round_0 seed_0 hash_0 s_0 cells_0_21 owner_0_22 code_0_23 table_0_24) → va_S A s.heap H locs → W p l e ({ frames := 1, cells := 0, slots := 0, locals := 27 } : Room) s m [.ref a_0, .int x1, .long x2, .long x3].toArray below meth c H locs 0 0 QQ (F0 m 106 ls [.int j4]) := by
                      intro H locs ls hl hP hD hS
                      refine lv_istore (lv' := [(13, .int j4), (0, .ref a_0), (1, .int x1), (2, .long x2), (4, .long x3), (6, .int (x1 / (7 : Int32))), (7, .int (x1 - x1 / (7 : Int32) * (7 : Int32))), (8, .int l8_3), (9, .int l9_11), (10, .int l10_19), (12, .int ((l9_11 + v2) - (1 : Int32)))]) hx hb dX10_lists_106 hl (by decide) rfl (fun ls hl => ?_)
                      refine lv_iload hx hb dX10_lists_108 (lv_at hl 0 rfl) ?_
                      obtain ⟨j6, h_j6, hf⟩ := hf_bind hf
                      have hJ_26 : ∀ (H : Heap) (locs : List Loc) (ls : Array Slot), lv_has ls 16 [(0, .ref a_0), (1, .int x1), (2, .long x2), (4, .long x3), (6, .int (x1 / (7 : Int32))), (7, .int (x1 - x1 / (7 : Int32) * (7 : Int32))), (8, .int l8_3), (9, .int l9_11), (10, .int l10_19), (12, .int ((l9_11 + v2) - (1 : Int32))), (13, .int j4)] → va_P (dC, dI) vwCl (wl_fM_lists cI cZ cJ cQ a_0 a_0s a_0cells a_0owner a_0code a_0table a_0before a_0slots a_0isKept a_0buffer a_0isOver a_0isRuled a_0all a_0some a_0chosen a_0last a_0corner a_0wide a_0cuts a_0aside known_0 length_0 thrown_0 many_0_20 round_0 seed_0 hash_0 s_0 cells_0_21 owner_0_22 code_0_23 table_0_24) H → va_D A (wl_fM_lists cI cZ cJ cQ a_0 a_0s a_0cells a_0owner a_0code a_0table a_0before a_0slots a_0isKept a_0buffer a_0isOver a_0isRuled a_0all a_0some a_0chosen a_0last a_0corner a_0wide a_0cuts a_0aside known_0 length_0 thrown_0 many_0_20 round_0 seed_0 hash_0 s_0 cells_0_21 owner_0_22 code_0_23 table_0_24) → va_S A s.heap H locs → W p l e ({ frames := 1, cells := 0, slots := 0, locals := 27 } : Room) s m [.ref a_0, .int x1, .long x2, .long x3].toArray below meth c H locs 0 0 QQ (F0 m 128 ls [.long j6]) := by
                        intro H locs ls hl hP hD hS
                        refine lv_lstore (lv' := [(14, .long j6), (0, .ref a_0), (1, .int x1), (2, .long x2), (4, .long x3), (6, .int (x1 / (7 : Int32))), (7, .int (x1 - x1 / (7 : Int32) * (7 : Int32))), (8, .int l8_3), (9, .int l9_11), (10, .int l10_19), (12, .int ((l9_11 + v2) - (1 : Int32))), (13, .int j4)]) hx hb dX10_lists_128 hl (by decide) rfl (fun ls hl => ?_)
                        refine lv_iload hx hb dX10_lists_130 (lv_at hl 11 rfl) ?_
                        obtain ⟨j11, h_j11, hf⟩ := hf_bind hf
                        have hJ_27 : ∀ (H : Heap) (locs : List Loc) (ls : Array Slot), lv_has ls 16 [(0, .ref a_0), (1, .int x1), (2, .long x2), (4, .long x3), (6, .int (x1 / (7 : Int32))), (7, .int (x1 - x1 / (7 : Int32) * (7 : Int32))), (8, .int l8_3), (9, .int l9_11), (10, .int l10_19)] → va_P (dC, dI) vwCl (wl_fM_lists cI cZ cJ cQ a_0 a_0s a_0cells a_0owner a_0code a_0table a_0before a_0slots a_0isKept a_0buffer a_0isOver a_0isRuled a_0all a_0some a_0chosen a_0last a_0corner a_0wide a_0cuts a_0aside known_0 length_0 thrown_0 j11.1 round_0 seed_0 hash_0 s_0 j11.2.1 j11.2.2.1 j11.2.2.2.1 j11.2.2.2.2) H → va_D A (wl_fM_lists cI cZ cJ cQ a_0 a_0s a_0cells a_0owner a_0code a_0table a_0before a_0slots a_0isKept a_0buffer a_0isOver a_0isRuled a_0all a_0some a_0chosen a_0last a_0corner a_0wide a_0cuts a_0aside known_0 length_0 thrown_0 j11.1 round_0 seed_0 hash_0 s_0 j11.2.1 j11.2.2.1 j11.2.2.2.1 j11.2.2.2.2) → va_S A s.heap H locs → W p l e ({ frames := 1, cells := 0, slots := 0, locals := 27 } : Room) s m [.ref a_0, .int x1, .long x2, .long x3].toArray below meth c H locs 0 0 QQ (F0 m 239 ls []) := by
                          intro H locs ls hl hP hD hS
                          refine lv_iinc (v := (l10_19 + (1 : Int32))) (lv' := [(10, .int (l10_19 + (1 : Int32))), (0, .ref a_0), (1, .int x1), (2, .long x2), (4, .long x3), (6, .int (x1 / (7 : Int32))), (7, .int (x1 - x1 / (7 : Int32) * (7 : Int32))), (8, .int l8_3), (9, .int l9_11)]) hx hb dX10_lists_239 hl (k := 8) rfl rfl (by decide) rfl (fun ls hl => ?_)
                          refine lv_goto (tgt := 36) hx hb dX10_lists_242 (by decide) ?_
                          exact ih _ _ _ _ _ _ hf _ _ _ (lv_sub hl [1, 2, 3, 4, 5, 6, 7, 8, 0] rfl) hP hD hS
                        clear hf
                        have hf := h_j11
                        clear h_j11
                        refine lv_if_eq (tgt := 239) hx hb dX10_lists_132 (by decide) (fun cc => ?_) (fun cc => ?_)
                        · replace hf := hf_pos cc hf
                          obtain rfl := Option.some.inj hf
                          exact hJ_27 _ _ _ (lv_sub hl [1, 2, 3, 4, 5, 6, 7, 8, 9] rfl) hP hD hS
                        · replace hf := hf_neg cc hf
                          refine lv_lload hx hb dX10_lists_135 (lv_at hl 0 rfl) ?_
                          refine lv_lload_n hx hb dX10_lists_137 rfl (lv_at hl 3 rfl) ?_
                          refine lv_land hx hb dX10_lists_138 ?_
                          refine lv_lconst (v := 1) hx hb dX10_lists_139 (by decide) ?_
                          refine lv_iload_n hx hb dX10_lists_140 rfl (lv_at hl 2 rfl) ?_
                          refine lv_lshl hx hb dX10_lists_141 rfl ?_
                          refine W.lcmp hx hb dX10_lists_142 ?_
                          refine lv_if_ne (tgt := 239) hx hb dX10_lists_143 (by decide) (fun cc => ?_) (fun cc => ?_)
                          · replace hf := hf_pos (mt (lg_cmp_eq _ _).mpr cc) hf
                            obtain rfl := Option.some.inj hf
                            exact hJ_27 _ _ _ (lv_sub hl [1, 2, 3, 4, 5, 6, 7, 8, 9] rfl) hP hD hS
                          · replace hf := hf_neg (not_not_intro ((lg_cmp_eq _ _).mp cc)) hf
                            refine lv_lload hx hb dX10_lists_146 (lv_at hl 0 rfl) ?_
                            refine lv_lload hx hb dX10_lists_148 (lv_at hl 4 rfl) ?_
                            refine lv_land hx hb dX10_lists_150 ?_
                            refine lv_lconst (v := 0) hx hb dX10_lists_151 (by decide) ?_
                            refine W.lcmp hx hb dX10_lists_152 ?_
                            refine lv_if_ne (tgt := 239) hx hb dX10_lists_153 (by decide) (fun cc => ?_) (fun cc => ?_)
                            · replace hf := hf_pos (mt (lg_cmp_eq _ _).mpr cc) hf
                              obtain rfl := Option.some.inj hf
                              exact hJ_27 _ _ _ (lv_sub hl [1, 2, 3, 4, 5, 6, 7, 8, 9] rfl) hP hD hS
                            · replace hf := hf_neg (not_not_intro ((lg_cmp_eq _ _).mp cc)) hf
                              refine lv_aload_n hx hb dX10_lists_156 rfl (lv_at hl 1 rfl) ?_
                              refine va_get (D := (dC, dI)) (ci := 10) (C := RX10) (T := TX10) (N := 26) hx hb hts hiX10 hown hK hP 0 rfl rfl 8 (by decide) (hts (.fieldLink RX10 26 "PaddockFieldsModel" "cells" "[J") (List.mem_cons_of_mem _ (List.mem_append_left _ (List.mem_of_getElem? (i := 1) rfl)))) (fun _ h9 => h9) rfl dX10_lists_157 ?_
                              refine lv_aload_n hx hb dX10_lists_160 rfl (lv_at hl 1 rfl) ?_
                              refine va_get (D := (dC, dI)) (ci := 10) (C := RX10) (T := TX10) (N := 26) hx hb hts hiX10 hown hK hP 0 rfl rfl 11 (by decide) (hts (.fieldLink RX10 102 "PaddockFieldsModel" "many" "I") (List.mem_cons_of_mem _ (List.mem_append_left _ (List.mem_of_getElem? (i := 2) rfl)))) (fun _ h9 => h9) rfl dX10_lists_161 ?_
                              refine lv_lload hx hb dX10_lists_164 (lv_at hl 0 rfl) ?_
                              obtain ⟨w7, h_w7, hf⟩ := hf_bind hf
                              refine wh_stJ (D := (dC, dI)) (ws' := (wl_fM_lists cI cZ cJ cQ a_0 a_0s a_0cells a_0owner a_0code a_0table a_0before a_0slots a_0isKept a_0buffer a_0isOver a_0isRuled a_0all a_0some a_0chosen a_0last a_0corner a_0wide a_0cuts a_0aside known_0 length_0 thrown_0 many_0_20 round_0 seed_0 hash_0 s_0 w7 owner_0_22 code_0_23 table_0_24)) hx hb hK hP hD hS 2 2 rfl rfl rfl h_w7 dX10_lists_166 (fun H locs hP hD hS => ?_)
                              refine lv_aload_n hx hb dX10_lists_167 rfl (lv_at hl 1 rfl) ?_
                              refine va_get (D := (dC, dI)) (ci := 10) (C := RX10) (T := TX10) (N := 26) hx hb hts hiX10 hown hK hP 0 rfl rfl 9 (by decide) (hts (.fieldLink RX10 30 "PaddockFieldsModel" "owner" "[I") (List.mem_cons_of_mem _ (List.mem_append_left _ (List.mem_of_getElem? (i := 3) rfl)))) (fun _ h9 => h9) rfl dX10_lists_168 ?_
                              refine lv_aload_n hx hb dX10_lists_171 rfl (lv_at hl 1 rfl) ?_
                              refine va_get (D := (dC, dI)) (ci := 10) (C := RX10) (T := TX10) (N := 26) hx hb hts hiX10 hown hK hP 0 rfl rfl 11 (by decide) (hts (.fieldLink RX10 102 "PaddockFieldsModel" "many" "I") (List.mem_cons_of_mem _ (List.mem_append_left _ (List.mem_of_getElem? (i := 2) rfl)))) (fun _ h9 => h9) rfl dX10_lists_172 ?_
                              refine lv_iload_n hx hb dX10_lists_175 rfl (lv_at hl 2 rfl) ?_
                              obtain ⟨w8, h_w8, hf⟩ := hf_bind hf
                              refine wh_stI (D := (dC, dI)) (ws' := (wl_fM_lists cI cZ cJ cQ a_0 a_0s a_0cells a_0owner a_0code a_0table a_0before a_0slots a_0isKept a_0buffer a_0isOver a_0isRuled a_0all a_0some a_0chosen a_0last a_0corner a_0wide a_0cuts a_0aside known_0 length_0 thrown_0 many_0_20 round_0 seed_0 hash_0 s_0 w7 w8 code_0_23 table_0_24)) hx hb hK hP hD hS 3 0 rfl rfl rfl h_w8 dX10_lists_176 (fun H locs hP hD hS => ?_)
                              refine lv_aload_n hx hb dX10_lists_177 rfl (lv_at hl 1 rfl) ?_
                              refine va_get (D := (dC, dI)) (ci := 10) (C := RX10) (T := TX10) (N := 26) hx hb hts hiX10 hown hK hP 0 rfl rfl 10 (by decide) (hts (.fieldLink RX10 33 "PaddockFieldsModel" "code" "[I") (List.mem_cons_of_mem _ (List.mem_append_left _ (List.mem_of_getElem? (i := 4) rfl)))) (fun _ h9 => h9) rfl dX10_lists_178 ?_
                              refine lv_aload_n hx hb dX10_lists_181 rfl (lv_at hl 1 rfl) ?_
                              refine va_get (D := (dC, dI)) (ci := 10) (C := RX10) (T := TX10) (N := 26) hx hb hts hiX10 hown hK hP 0 rfl rfl 11 (by decide) (hts (.fieldLink RX10 102 "PaddockFieldsModel" "many" "I") (List.mem_cons_of_mem _ (List.mem_append_left _ (List.mem_of_getElem? (i := 2) rfl)))) (fun _ h9 => h9) rfl dX10_lists_182 ?_
                              refine lv_bipush (v := 42) hx hb dX10_lists_185 (by decide) ?_
                              refine lv_bipush (v := 7) hx hb dX10_lists_187 (by decide) ?_
                              refine lv_iload hx hb dX10_lists_189 (lv_at hl 7 rfl) ?_
                              refine lv_imul hx hb dX10_lists_191 ?_
                              refine lv_iload hx hb dX10_lists_192 (lv_at hl 8 rfl) ?_
                              refine lv_iadd hx hb dX10_lists_194 ?_
                              refine lv_imul hx hb dX10_lists_195 ?_
                              refine lv_bipush (v := 7) hx hb dX10_lists_196 (by decide) ?_
                              refine lv_iload hx hb dX10_lists_198 (lv_at hl 9 rfl) ?_
                              refine lv_imul hx hb dX10_lists_200 ?_
                              refine lv_iadd hx hb dX10_lists_201 ?_
                              refine lv_iload hx hb dX10_lists_202 (lv_at hl 10 rfl) ?_
                              refine lv_iadd hx hb dX10_lists_204 ?_
                              obtain ⟨w9, h_w9, hf⟩ := hf_bind hf
                              refine wh_stI (D := (dC, dI)) (ws' := (wl_fM_lists cI cZ cJ cQ a_0 a_0s a_0cells a_0owner a_0code a_0table a_0before a_0slots a_0isKept a_0buffer a_0isOver a_0isRuled a_0all a_0some a_0chosen a_0last a_0corner a_0wide a_0cuts a_0aside known_0 length_0 thrown_0 many_0_20 round_0 seed_0 hash_0 s_0 w7 w8 w9 table_0_24)) hx hb hK hP hD hS 4 0 rfl rfl rfl h_w9 dX10_lists_205 (fun H locs hP hD hS => ?_)
                              refine lv_aload_n hx hb dX10_lists_206 rfl (lv_at hl 1 rfl) ?_
                              refine va_get (D := (dC, dI)) (ci := 10) (C := RX10) (T := TX10) (N := 26) hx hb hts hiX10 hown hK hP 0 rfl rfl 12 (by decide) (hts (.fieldLink RX10 36 "PaddockFieldsModel" "table" "[I") (List.mem_cons_of_mem _ (List.mem_append_left _ (List.mem_of_getElem? (i := 5) rfl)))) (fun _ h9 => h9) rfl dX10_lists_207 ?_
                              refine lv_bipush (v := 6) hx hb dX10_lists_210 (by decide) ?_
                              refine lv_bipush (v := 7) hx hb dX10_lists_212 (by decide) ?_
                              refine lv_iload hx hb dX10_lists_214 (lv_at hl 7 rfl) ?_
                              refine lv_imul hx hb dX10_lists_216 ?_
                              refine lv_iload hx hb dX10_lists_217 (lv_at hl 8 rfl) ?_
                              refine lv_iadd hx hb dX10_lists_219 ?_
                              refine lv_imul hx hb dX10_lists_220 ?_
                              refine lv_iload hx hb dX10_lists_221 (lv_at hl 9 rfl) ?_
                              refine lv_iadd hx hb dX10_lists_223 ?_
                              refine lv_aload_n hx hb dX10_lists_224 rfl (lv_at hl 1 rfl) ?_
                              refine va_get (D := (dC, dI)) (ci := 10) (C := RX10) (T := TX10) (N := 26) hx hb hts hiX10 hown hK hP 0 rfl rfl 11 (by decide) (hts (.fieldLink RX10 102 "PaddockFieldsModel" "many" "I") (List.mem_cons_of_mem _ (List.mem_append_left _ (List.mem_of_getElem? (i := 2) rfl)))) (fun _ h9 => h9) rfl dX10_lists_225 ?_
                              obtain ⟨w10, h_w10, hf⟩ := hf_bind hf
                              refine wh_stI (D := (dC, dI)) (ws' := (wl_fM_lists cI cZ cJ cQ a_0 a_0s a_0cells a_0owner a_0code a_0table a_0before a_0slots a_0isKept a_0buffer a_0isOver a_0isRuled a_0all a_0some a_0chosen a_0last a_0corner a_0wide a_0cuts a_0aside known_0 length_0 thrown_0 many_0_20 round_0 seed_0 hash_0 s_0 w7 w8 w9 w10)) hx hb hK hP hD hS 5 0 rfl rfl rfl h_w10 dX10_lists_228 (fun H locs hP hD hS => ?_)
                              refine lv_aload_n hx hb dX10_lists_229 rfl (lv_at hl 1 rfl) ?_
                              refine lv_dup hx hb dX10_lists_230 rfl ?_
                              refine va_get (D := (dC, dI)) (ci := 10) (C := RX10) (T := TX10) (N := 26) hx hb hts hiX10 hown hK hP 0 rfl rfl 11 (by decide) (hts (.fieldLink RX10 102 "PaddockFieldsModel" "many" "I") (List.mem_cons_of_mem _ (List.mem_append_left _ (List.mem_of_getElem? (i := 2) rfl)))) (fun _ h9 => h9) rfl dX10_lists_231 ?_
                              refine lv_iconst (v := 1) hx hb dX10_lists_234 (by decide) ?_
                              refine lv_iadd hx hb dX10_lists_235 ?_
                              refine wh_put (D := (dC, dI)) (ci := 10) (C := RX10) (T := TX10) (N := 26) (ty := .int) (v := .int (many_0_20 + (1 : Int32))) (ws' := (wl_fM_lists cI cZ cJ cQ a_0 a_0s a_0cells a_0owner a_0code a_0table a_0before a_0slots a_0isKept a_0buffer a_0isOver a_0isRuled a_0all a_0some a_0chosen a_0last a_0corner a_0wide a_0cuts a_0aside known_0 length_0 thrown_0 (many_0_20 + (1 : Int32)) round_0 seed_0 hash_0 s_0 w7 w8 w9 w10)) hx hb hts hiX10 tyX10 tyX10_ok nmX10 hown hK hP hD hS 0 rfl rfl 11 (by decide) (hts (.fieldLink RX10 102 "PaddockFieldsModel" "many" "I") (List.mem_cons_of_mem _ (List.mem_append_left _ (List.mem_of_getElem? (i := 2) rfl)))) (fun _ h9 => h9) rfl rfl rfl rfl (Nat.le_of_ble_eq_true rfl) rfl dX10_lists_236 (fun H locs hP hD hS => ?_)
                              obtain rfl := Option.some.inj hf
                              exact hJ_27 _ _ _ (lv_sub hl [1, 2, 3, 4, 5, 6, 7, 8, 9] rfl) hP hD hS
                      clear hf
                      have hf := h_j6
                      clear h_j6
                      refine lv_if_eq (tgt := 127) hx hb dX10_lists_110 (by decide) (fun cc => ?_) (fun cc => ?_)
                      · replace hf := hf_pos cc hf
                        refine lv_lconst (v := 0) hx hb dX10_lists_127 (by decide) ?_
                        obtain rfl := Option.some.inj hf
                        exact hJ_26 _ _ _ (lv_sub hl [1, 2, 3, 4, 5, 6, 7, 8, 9, 10, 0] rfl) hP hD hS
                      · replace hf := hf_neg cc hf
                        refine lv_iload hx hb dX10_lists_113 (lv_at hl 7 rfl) ?_
                        refine lv_iload hx hb dX10_lists_115 (lv_at hl 8 rfl) ?_
                        refine lv_iload hx hb dX10_lists_117 (lv_at hl 9 rfl) ?_
                        refine lv_iload hx hb dX10_lists_119 (lv_at hl 10 rfl) ?_
                        obtain ⟨s5, h_s5, hf⟩ := hf_bind hf
                        refine wh_calll (D := (dC, dI)) (ws' := (wl_fM_lists cI cZ cJ cQ a_0 a_0s a_0cells a_0owner a_0code a_0table a_0before a_0slots a_0isKept a_0buffer a_0isOver a_0isRuled a_0all a_0some a_0chosen a_0last a_0corner a_0wide a_0cuts a_0aside known_0 length_0 thrown_0 many_0_20 round_0 seed_0 hash_0 s_0 cells_0_21 owner_0_22 code_0_23 table_0_24)) (va_runS (As := [.int l8_3, .int l9_11, .int l10_19, .int ((l9_11 + v2) - (1 : Int32))]) (rest := []) ⟨hx, hb, hml, hown, hts⟩ (c_fM_rectangle l dC dI cI cZ cJ cQ _ h_s5) (va_cwS 4 hts gX10_lists_X10_rectangle rfl rfl rfl (by decide +kernel) ⟨Nat.le_of_ble_eq_true rfl, Nat.le_of_ble_eq_true rfl⟩) (wh_preS hK hN hP hD [] rfl rfl) rfl rfl hl.1 rfl (lv_room (Nat.le_of_ble_eq_true rfl)) dX10_lists_121 ⟨Nat.le_refl _, Nat.le_refl _⟩) hP hD hS hA [] [0, 1, 2, 3, 4, 5] [0, 1, 2, 3, 4, 5] rfl rfl rfl rfl (fun H locs hP hD hS => ?_)
                        refine lv_goto (tgt := 128) hx hb dX10_lists_124 (by decide) ?_
                        obtain rfl := Option.some.inj hf
                        exact hJ_26 _ _ _ (lv_sub hl [1, 2, 3, 4, 5, 6, 7, 8, 9, 10, 0] rfl) hP hD hS
                    clear hf
                    have hf := h_j4
                    clear h_j4
                    refine lv_icmp_ne (tgt := 105) hx hb dX10_lists_84 (by decide) (fun cc => ?_) (fun cc => ?_)
                    · replace hf := hf_pos cc hf
                      refine lv_iconst (v := 0) hx hb dX10_lists_105 (by decide) ?_
                      obtain rfl := Option.some.inj hf
                      exact hJ_25 _ _ _ (lv_sub hl [2, 3, 4, 5, 6, 7, 8, 9, 10, 0] rfl) hP hD hS
                    · replace hf := hf_neg (not_not_intro cc) hf
                      refine lv_iload hx hb dX10_lists_87 (lv_at hl 0 rfl) ?_
                      refine lv_iload hx hb dX10_lists_89 (lv_at hl 7 rfl) ?_
                      refine lv_icmp_lt (tgt := 105) hx hb dX10_lists_91 (by decide) (fun cc => ?_) (fun cc => ?_)
                      · replace hf := hf_pos cc hf
                        refine lv_iconst (v := 0) hx hb dX10_lists_105 (by decide) ?_
                        obtain rfl := Option.some.inj hf
                        exact hJ_25 _ _ _ (lv_sub hl [2, 3, 4, 5, 6, 7, 8, 9, 10, 0] rfl) hP hD hS
                      · replace hf := hf_neg cc hf
                        refine lv_iload hx hb dX10_lists_94 (lv_at hl 0 rfl) ?_
                        refine lv_bipush (v := 7) hx hb dX10_lists_96 (by decide) ?_
                        refine lv_icmp_ge (tgt := 105) hx hb dX10_lists_98 (by decide) (fun cc => ?_) (fun cc => ?_)
                        · replace hf := hf_pos cc hf
                          refine lv_iconst (v := 0) hx hb dX10_lists_105 (by decide) ?_
                          obtain rfl := Option.some.inj hf
                          exact hJ_25 _ _ _ (lv_sub hl [2, 3, 4, 5, 6, 7, 8, 9, 10, 0] rfl) hP hD hS
                        · replace hf := hf_neg cc hf
                          refine lv_iconst (v := 1) hx hb dX10_lists_101 (by decide) ?_
                          refine lv_goto (tgt := 106) hx hb dX10_lists_102 (by decide) ?_
                          obtain rfl := Option.some.inj hf
                          exact hJ_25 _ _ _ (lv_sub hl [2, 3, 4, 5, 6, 7, 8, 9, 10, 0] rfl) hP hD hS
              exact hL_18 _ _ _ _ _ _ _ h_r12 _ _ _ (lv_sub hl [1, 2, 3, 4, 5, 6, 7, 8, 0] rfl) hP hD hS
        exact hL_10 _ _ _ _ _ _ _ h_r13 _ _ _ (lv_sub hl [1, 2, 3, 4, 5, 6, 7, 0] rfl) hP hD hS
  exact hL_2 _ _ _ _ _ _ _ h_r14 _ _ _ (lv_sub hl [3, 4, 5, 6, 2, 1, 0] rfl) hP hD hS
set_option maxHeartbeats 4000000 in
set_option maxRecDepth 100000 in
theorem c_fM_finds (l : Launch) (dC : Nat → ClassId) (dI : Nat → Nat → Nat) (cI cZ cJ cQ : ClassId) (a_0 a_0table a_0s a_0cells a_0owner a_0code a_0before a_0slots a_0isKept a_0buffer a_0isOver a_0isRuled a_0all a_0some a_0chosen a_0last a_0corner a_0wide a_0cuts a_0aside : Nat) (known_0 : Int32) (length_0 : Int32) (thrown_0 : Int32) (round_0 : Int32) (seed_0 : Int64) (hash_0 : Int64) (sz : Nat) {F : Nat} {many_0 : Int32} {table_0 : Nat → Int32} {s_0 : Nat → Int32} {cells_0 : Nat → Int64} {owner_0 : Nat → Int32} {code_0 : Nat → Int32} {out : Int32 × (Nat → Int32) × (Nat → Int64) × (Nat → Int32) × (Nat → Int32)} (hf : fM_finds F many_0 table_0 s_0 cells_0 owner_0 code_0 = some out) : Met l yX10_finds wsX10_finds ({ frames := 2, cells := 0, slots := 0, locals := 62 } : Room) (va_Pc [.ref a_0] (wlP (dC, dI) (wlT cI cZ cJ cQ) (wl_fM_finds cI cZ cJ cQ a_0 a_0table a_0s a_0cells a_0owner a_0code a_0before a_0slots a_0isKept a_0buffer a_0isOver a_0isRuled a_0all a_0some a_0chosen a_0last a_0corner a_0wide a_0cuts a_0aside known_0 length_0 thrown_0 many_0 round_0 seed_0 hash_0 table_0 s_0 cells_0 owner_0 code_0) sz)) (va_Qv (fun (_ : Unit) => True) (wlQ (dC, dI) (va_A (wl_fM_finds cI cZ cJ cQ a_0 a_0table a_0s a_0cells a_0owner a_0code a_0before a_0slots a_0isKept a_0buffer a_0isOver a_0isRuled a_0all a_0some a_0chosen a_0last a_0corner a_0wide a_0cuts a_0aside known_0 length_0 thrown_0 many_0 round_0 seed_0 hash_0 table_0 s_0 cells_0 owner_0 code_0) sz) (wl_fM_finds cI cZ cJ cQ a_0 a_0table a_0s a_0cells a_0owner a_0code a_0before a_0slots a_0isKept a_0buffer a_0isOver a_0isRuled a_0all a_0some a_0chosen a_0last a_0corner a_0wide a_0cuts a_0aside known_0 length_0 thrown_0 out.1 round_0 seed_0 hash_0 out.2.1 s_0 out.2.2.1 out.2.2.2.1 out.2.2.2.2)) (va_A (wl_fM_finds cI cZ cJ cQ a_0 a_0table a_0s a_0cells a_0owner a_0code a_0before a_0slots a_0isKept a_0buffer a_0isOver a_0isRuled a_0all a_0some a_0chosen a_0last a_0corner a_0wide a_0cuts a_0aside known_0 length_0 thrown_0 many_0 round_0 seed_0 hash_0 table_0 s_0 cells_0 owner_0 code_0) sz)) 0 0 (va_A (wl_fM_finds cI cZ cJ cQ a_0 a_0table a_0s a_0cells a_0owner a_0code a_0before a_0slots a_0isKept a_0buffer a_0isOver a_0isRuled a_0all a_0some a_0chosen a_0last a_0corner a_0wide a_0cuts a_0aside known_0 length_0 thrown_0 many_0 round_0 seed_0 hash_0 table_0 s_0 cells_0 owner_0 code_0) sz) := by
  refine wh_ofWv (lv := [(0, .ref a_0)]) RX10 (by decide) rfl rfl (Nat.le_of_ble_eq_true rfl) rfl ?_
  intro p e s m below meth c A QQ hx hb hml hown hts hP hK hN hD hA hret ls hl
  have hS : va_S A s.heap s.heap [] := va_S.rf
  have hiX10 : ∀ w ∈ wsX100, w ∈ wsX10_finds := (fun _ h => List.mem_cons_of_mem _ (List.mem_append_right _ (h)))
  unfold fM_finds at hf
  refine lv_aload_n hx hb dX10_finds_0 rfl (lv_at hl 0 rfl) ?_
  refine lv_iconst (v := 0) hx hb dX10_finds_1 (by decide) ?_
  refine wh_put (D := (dC, dI)) (ci := 10) (C := RX10) (T := TX10) (N := 26) (ty := .int) (v := .int (0 : Int32)) (ws' := (wl_fM_finds cI cZ cJ cQ a_0 a_0table a_0s a_0cells a_0owner a_0code a_0before a_0slots a_0isKept a_0buffer a_0isOver a_0isRuled a_0all a_0some a_0chosen a_0last a_0corner a_0wide a_0cuts a_0aside known_0 length_0 thrown_0 (0 : Int32) round_0 seed_0 hash_0 table_0 s_0 cells_0 owner_0 code_0)) hx hb hts hiX10 tyX10 tyX10_ok nmX10 hown hK hP hD hS 0 rfl rfl 11 (by decide) (hts (.fieldLink RX10 102 "PaddockFieldsModel" "many" "I") (List.mem_cons_of_mem _ (List.mem_append_left _ (List.mem_of_getElem? (i := 0) rfl)))) (fun _ h9 => h9) rfl rfl rfl rfl (Nat.le_of_ble_eq_true rfl) rfl dX10_finds_2 (fun H locs hP hD hS => ?_)
  refine lv_iconst (v := 0) hx hb dX10_finds_5 (by decide) ?_
  refine lv_istore_n (lv' := [(1, .int (0 : Int32)), (0, .ref a_0)]) hx hb dX10_finds_6 rfl hl (by decide) rfl (fun ls hl => ?_)
  obtain ⟨r2, h_r2, hf⟩ := hf_bind hf
  have hE_1 : ∀ (H : Heap) (locs : List Loc) (ls : Array Slot), lv_has ls 6 [(0, .ref a_0)] → va_P (dC, dI) vwCl (wl_fM_finds cI cZ cJ cQ a_0 a_0table a_0s a_0cells a_0owner a_0code a_0before a_0slots a_0isKept a_0buffer a_0isOver a_0isRuled a_0all a_0some a_0chosen a_0last a_0corner a_0wide a_0cuts a_0aside known_0 length_0 thrown_0 (0 : Int32) round_0 seed_0 hash_0 r2.2 s_0 cells_0 owner_0 code_0) H → va_D A (wl_fM_finds cI cZ cJ cQ a_0 a_0table a_0s a_0cells a_0owner a_0code a_0before a_0slots a_0isKept a_0buffer a_0isOver a_0isRuled a_0all a_0some a_0chosen a_0last a_0corner a_0wide a_0cuts a_0aside known_0 length_0 thrown_0 (0 : Int32) round_0 seed_0 hash_0 r2.2 s_0 cells_0 owner_0 code_0) → va_S A s.heap H locs → W p l e ({ frames := 2, cells := 0, slots := 0, locals := 62 } : Room) s m [.ref a_0].toArray below meth c H locs 0 0 QQ (F0 m 27 ls []) := by
    intro H locs ls hl hP hD hS
    refine lv_aload_n hx hb dX10_finds_27 rfl (lv_at hl 0 rfl) ?_
    obtain ⟨s3, h_s3, hf⟩ := hf_bind hf
    refine wh_calll (D := (dC, dI)) (ws' := (wl_fM_finds cI cZ cJ cQ a_0 a_0table a_0s a_0cells a_0owner a_0code a_0before a_0slots a_0isKept a_0buffer a_0isOver a_0isRuled a_0all a_0some a_0chosen a_0last a_0corner a_0wide a_0cuts a_0aside known_0 length_0 thrown_0 (0 : Int32) round_0 seed_0 hash_0 r2.2 s_0 cells_0 owner_0 code_0)) (va_runV (As := []) (rest := []) ⟨hx, hb, hml, hown, hts⟩ (c_fM_numbered l dC dI cI cZ cJ cQ a_0 a_0s a_0before a_0slots a_0isKept a_0buffer a_0cells a_0owner a_0code a_0table a_0isOver a_0isRuled a_0all a_0some a_0chosen a_0last a_0corner a_0wide a_0cuts a_0aside known_0 length_0 thrown_0 (0 : Int32) round_0 seed_0 hash_0 _ h_s3) (cwV 0 hts gX10_finds_X10_numbered rfl rfl rfl (by decide +kernel) ⟨Nat.le_of_ble_eq_true rfl, Nat.le_of_ble_eq_true rfl⟩) (wh_preV (C := RX10) (T := TX10) (N := 26) hK hN hP hD [0, 2] rfl rfl 10 0 rfl rfl) rfl rfl hl.1 rfl (lv_room (Nat.le_of_ble_eq_true rfl)) dX10_finds_28 ⟨Nat.le_refl _, Nat.le_refl _⟩) hP hD hS hA [0, 2] [1, 3, 4, 5] [4, 0, 5, 1, 2, 3] rfl rfl rfl rfl (fun H locs hP hD hS => ?_)
    refine lv_lstore_n (lv' := [(1, .long s3), (0, .ref a_0)]) hx hb dX10_finds_31 rfl hl (by decide) rfl (fun ls hl => ?_)
    refine lv_aload_n hx hb dX10_finds_32 rfl (lv_at hl 1 rfl) ?_
    obtain ⟨s4, h_s4, hf⟩ := hf_bind hf
    refine wh_calll (D := (dC, dI)) (ws' := (wl_fM_finds cI cZ cJ cQ a_0 a_0table a_0s a_0cells a_0owner a_0code a_0before a_0slots a_0isKept a_0buffer a_0isOver a_0isRuled a_0all a_0some a_0chosen a_0last a_0corner a_0wide a_0cuts a_0aside known_0 length_0 thrown_0 (0 : Int32) round_0 seed_0 hash_0 r2.2 s_0 cells_0 owner_0 code_0)) (va_runV (As := []) (rest := []) ⟨hx, hb, hml, hown, hts⟩ (c_fM_taken l dC dI cI cZ cJ cQ a_0 a_0s a_0before a_0slots a_0isKept a_0buffer a_0cells a_0owner a_0code a_0table a_0isOver a_0isRuled a_0all a_0some a_0chosen a_0last a_0corner a_0wide a_0cuts a_0aside known_0 length_0 thrown_0 (0 : Int32) round_0 seed_0 hash_0 _ h_s4) (cwV 0 hts gX10_finds_X10_taken rfl rfl rfl (by decide +kernel) ⟨Nat.le_of_ble_eq_true rfl, Nat.le_of_ble_eq_true rfl⟩) (wh_preV (C := RX10) (T := TX10) (N := 26) hK hN hP hD [0, 2] rfl rfl 10 0 rfl rfl) rfl rfl hl.1 rfl (lv_room (Nat.le_of_ble_eq_true rfl)) dX10_finds_33 ⟨Nat.le_refl _, Nat.le_refl _⟩) hP hD hS hA [0, 2] [1, 3, 4, 5] [4, 0, 5, 1, 2, 3] rfl rfl rfl rfl (fun H locs hP hD hS => ?_)
    refine lv_lstore_n (lv' := [(3, .long s4), (1, .long s3), (0, .ref a_0)]) hx hb dX10_finds_36 rfl hl (by decide) rfl (fun ls hl => ?_)
    refine lv_iconst (v := 0) hx hb dX10_finds_37 (by decide) ?_
    refine lv_istore (lv' := [(5, .int (0 : Int32)), (3, .long s4), (1, .long s3), (0, .ref a_0)]) hx hb dX10_finds_38 hl (by decide) rfl (fun ls hl => ?_)
    obtain ⟨r9, h_r9, hf⟩ := hf_bind hf
    have hE_2 : ∀ (H : Heap) (locs : List Loc) (ls : Array Slot), lv_has ls 6 [] → va_P (dC, dI) vwCl (wl_fM_finds cI cZ cJ cQ a_0 a_0table a_0s a_0cells a_0owner a_0code a_0before a_0slots a_0isKept a_0buffer a_0isOver a_0isRuled a_0all a_0some a_0chosen a_0last a_0corner a_0wide a_0cuts a_0aside known_0 length_0 thrown_0 r9.2.1 round_0 seed_0 hash_0 r9.2.2.2.2.2 s_0 r9.2.2.1 r9.2.2.2.1 r9.2.2.2.2.1) H → va_D A (wl_fM_finds cI cZ cJ cQ a_0 a_0table a_0s a_0cells a_0owner a_0code a_0before a_0slots a_0isKept a_0buffer a_0isOver a_0isRuled a_0all a_0some a_0chosen a_0last a_0corner a_0wide a_0cuts a_0aside known_0 length_0 thrown_0 r9.2.1 round_0 seed_0 hash_0 r9.2.2.2.2.2 s_0 r9.2.2.1 r9.2.2.2.1 r9.2.2.2.2.1) → va_S A s.heap H locs → W p l e ({ frames := 2, cells := 0, slots := 0, locals := 62 } : Room) s m [.ref a_0].toArray below meth c H locs 0 0 QQ (F0 m 84 ls []) := by
      intro H locs ls hl hP hD hS
      obtain rfl := Option.some.inj hf
      exact hret _ _ _ _ hP hD hS dX10_finds_84
    have hL_3 : ∀ (N : Nat) (l5_4 : Int32) (many_0_5 : Int32) (cells_0_6 : Nat → Int64) (owner_0_7 : Nat → Int32) (code_0_8 : Nat → Int32) (table_0_9 : Nat → Int32), fM_finds_L40 F s3 s4 s_0 N l5_4 many_0_5 cells_0_6 owner_0_7 code_0_8 table_0_9 = some r9 → ∀ (H : Heap) (locs : List Loc) (ls : Array Slot), lv_has ls 6 [(0, .ref a_0), (1, .long s3), (3, .long s4), (5, .int l5_4)] → va_P (dC, dI) vwCl (wl_fM_finds cI cZ cJ cQ a_0 a_0table a_0s a_0cells a_0owner a_0code a_0before a_0slots a_0isKept a_0buffer a_0isOver a_0isRuled a_0all a_0some a_0chosen a_0last a_0corner a_0wide a_0cuts a_0aside known_0 length_0 thrown_0 many_0_5 round_0 seed_0 hash_0 table_0_9 s_0 cells_0_6 owner_0_7 code_0_8) H → va_D A (wl_fM_finds cI cZ cJ cQ a_0 a_0table a_0s a_0cells a_0owner a_0code a_0before a_0slots a_0isKept a_0buffer a_0isOver a_0isRuled a_0all a_0some a_0chosen a_0last a_0corner a_0wide a_0cuts a_0aside known_0 length_0 thrown_0 many_0_5 round_0 seed_0 hash_0 table_0_9 s_0 cells_0_6 owner_0_7 code_0_8) → va_S A s.heap H locs → W p l e ({ frames := 2, cells := 0, slots := 0, locals := 62 } : Room) s m [.ref a_0].toArray below meth c H locs 0 0 QQ (F0 m 40 ls []) := by
      intro N
      induction N with
      | zero => intro l5_4 many_0_5 cells_0_6 owner_0_7 code_0_8 table_0_9 hf; exact nomatch (show none = some _ from hf)
      | succ N ih =>
        intro l5_4 many_0_5 cells_0_6 owner_0_7 code_0_8 table_0_9 hf H locs ls hl hP hD hS
        rw [fM_finds_L40] at hf
        refine lv_iload hx hb dX10_finds_40 (lv_at hl 3 rfl) ?_
        refine lv_bipush (v := 42) hx hb dX10_finds_42 (by decide) ?_
        refine lv_icmp_ge (tgt := 84) hx hb dX10_finds_44 (by decide) (fun cc => ?_) (fun cc => ?_)
        · replace hf := hf_pos cc hf
          obtain rfl := Option.some.inj hf
          exact hE_2 _ _ _ (lv_sub hl [] rfl) hP hD hS
        · replace hf := hf_neg cc hf
          refine lv_aload_n hx hb dX10_finds_47 rfl (lv_at hl 0 rfl) ?_
          refine va_get (D := (dC, dI)) (ci := 10) (C := RX10) (T := TX10) (N := 26) hx hb hts hiX10 hown hK hP 0 rfl rfl 0 (by decide) (hts (.fieldLink RX10 7 "PaddockFieldsModel" "s" "[I") (List.mem_cons_of_mem _ (List.mem_append_left _ (List.mem_of_getElem? (i := 2) rfl)))) (fun _ h9 => h9) rfl dX10_finds_48 ?_
          refine lv_iload hx hb dX10_finds_51 (lv_at hl 3 rfl) ?_
          obtain ⟨v5, h_v5, hf⟩ := hf_bind hf
          refine wh_ldI (D := (dC, dI)) hx hb hK hP 2 0 rfl rfl h_v5 dX10_finds_53 ?_
          obtain ⟨j8, h_j8, hf⟩ := hf_bind hf
          have hJ_10 : ∀ (H : Heap) (locs : List Loc) (ls : Array Slot), lv_has ls 6 [(0, .ref a_0), (1, .long s3), (3, .long s4), (5, .int l5_4)] → va_P (dC, dI) vwCl (wl_fM_finds cI cZ cJ cQ a_0 a_0table a_0s a_0cells a_0owner a_0code a_0before a_0slots a_0isKept a_0buffer a_0isOver a_0isRuled a_0all a_0some a_0chosen a_0last a_0corner a_0wide a_0cuts a_0aside known_0 length_0 thrown_0 j8.1 round_0 seed_0 hash_0 j8.2.2.2.2 s_0 j8.2.1 j8.2.2.1 j8.2.2.2.1) H → va_D A (wl_fM_finds cI cZ cJ cQ a_0 a_0table a_0s a_0cells a_0owner a_0code a_0before a_0slots a_0isKept a_0buffer a_0isOver a_0isRuled a_0all a_0some a_0chosen a_0last a_0corner a_0wide a_0cuts a_0aside known_0 length_0 thrown_0 j8.1 round_0 seed_0 hash_0 j8.2.2.2.2 s_0 j8.2.1 j8.2.2.1 j8.2.2.2.1) → va_S A s.heap H locs → W p l e ({ frames := 2, cells := 0, slots := 0, locals := 62 } : Room) s m [.ref a_0].toArray below meth c H locs 0 0 QQ (F0 m 78 ls []) := by
            intro H locs ls hl hP hD hS
            refine lv_iinc (v := (l5_4 + (1 : Int32))) (lv' := [(5, .int (l5_4 + (1 : Int32))), (0, .ref a_0), (1, .long s3), (3, .long s4)]) hx hb dX10_finds_78 hl (k := 3) rfl rfl (by decide) rfl (fun ls hl => ?_)
            refine lv_goto (tgt := 40) hx hb dX10_finds_81 (by decide) ?_
            exact ih _ _ _ _ _ _ hf _ _ _ (lv_sub hl [1, 2, 3, 0] rfl) hP hD hS
          clear hf
          have hf := h_j8
          clear h_j8
          refine lv_if_le (tgt := 78) hx hb dX10_finds_54 (by decide) (fun cc => ?_) (fun cc => ?_)
          · replace hf := hf_pos cc hf
            obtain rfl := Option.some.inj hf
            exact hJ_10 _ _ _ (lv_sub hl [0, 1, 2, 3] rfl) hP hD hS
          · replace hf := hf_neg cc hf
            refine lv_aload_n hx hb dX10_finds_57 rfl (lv_at hl 0 rfl) ?_
            refine va_get (D := (dC, dI)) (ci := 10) (C := RX10) (T := TX10) (N := 26) hx hb hts hiX10 hown hK hP 0 rfl rfl 0 (by decide) (hts (.fieldLink RX10 7 "PaddockFieldsModel" "s" "[I") (List.mem_cons_of_mem _ (List.mem_append_left _ (List.mem_of_getElem? (i := 2) rfl)))) (fun _ h9 => h9) rfl dX10_finds_58 ?_
            refine lv_bipush (v := 42) hx hb dX10_finds_61 (by decide) ?_
            refine lv_iload hx hb dX10_finds_63 (lv_at hl 3 rfl) ?_
            refine lv_iadd hx hb dX10_finds_65 ?_
            obtain ⟨v6, h_v6, hf⟩ := hf_bind hf
            refine wh_ldI (D := (dC, dI)) hx hb hK hP 2 0 rfl rfl h_v6 dX10_finds_66 ?_
            refine lv_if_ne (tgt := 78) hx hb dX10_finds_67 (by decide) (fun cc => ?_) (fun cc => ?_)
            · replace hf := hf_pos cc hf
              obtain rfl := Option.some.inj hf
              exact hJ_10 _ _ _ (lv_sub hl [0, 1, 2, 3] rfl) hP hD hS
            · replace hf := hf_neg (not_not_intro cc) hf
              refine lv_aload_n hx hb dX10_finds_70 rfl (lv_at hl 0 rfl) ?_
              refine lv_iload hx hb dX10_finds_71 (lv_at hl 3 rfl) ?_
              refine lv_lload_n hx hb dX10_finds_73 rfl (lv_at hl 1 rfl) ?_
              refine lv_lload_n hx hb dX10_finds_74 rfl (lv_at hl 2 rfl) ?_
              obtain ⟨s7, h_s7, hf⟩ := hf_bind hf
              refine wh_callv (D := (dC, dI)) (ws' := (wl_fM_finds cI cZ cJ cQ a_0 a_0table a_0s a_0cells a_0owner a_0code a_0before a_0slots a_0isKept a_0buffer a_0isOver a_0isRuled a_0all a_0some a_0chosen a_0last a_0corner a_0wide a_0cuts a_0aside known_0 length_0 thrown_0 s7.2.2.2.2 round_0 seed_0 hash_0 s7.2.2.2.1 s_0 s7.1 s7.2.1 s7.2.2.1)) (va_runV (As := [.int l5_4, .long s3, .long s4]) (rest := []) ⟨hx, hb, hml, hown, hts⟩ (c_fM_lists l dC dI cI cZ cJ cQ a_0 a_0s a_0cells a_0owner a_0code a_0table a_0before a_0slots a_0isKept a_0buffer a_0isOver a_0isRuled a_0all a_0some a_0chosen a_0last a_0corner a_0wide a_0cuts a_0aside known_0 length_0 thrown_0 round_0 seed_0 hash_0 _ h_s7) (cwV 3 hts gX10_finds_X10_lists rfl rfl rfl (by decide +kernel) ⟨Nat.le_of_ble_eq_true rfl, Nat.le_of_ble_eq_true rfl⟩) (wh_preV (C := RX10) (T := TX10) (N := 26) hK hN hP hD [0, 2, 3, 4, 5, 1] rfl rfl 10 0 rfl rfl) rfl rfl hl.1 rfl (lv_room (Nat.le_of_ble_eq_true rfl)) dX10_finds_75 ⟨Nat.le_refl _, Nat.le_refl _⟩) hP hD hS hA [0, 2, 3, 4, 5, 1] [] [0, 5, 1, 2, 3, 4] rfl rfl rfl rfl (fun H locs hP hD hS => ?_)
              obtain rfl := Option.some.inj hf
              exact hJ_10 _ _ _ (lv_sub hl [0, 1, 2, 3] rfl) hP hD hS
    exact hL_3 _ _ _ _ _ _ _ h_r9 _ _ _ (lv_sub hl [3, 2, 1, 0] rfl) hP hD hS
  have hL_11 : ∀ (N : Nat) (l1_12 : Int32) (table_0_13 : Nat → Int32), fM_finds_L7 F N l1_12 table_0_13 = some r2 → ∀ (H : Heap) (locs : List Loc) (ls : Array Slot), lv_has ls 6 [(0, .ref a_0), (1, .int l1_12)] → va_P (dC, dI) vwCl (wl_fM_finds cI cZ cJ cQ a_0 a_0table a_0s a_0cells a_0owner a_0code a_0before a_0slots a_0isKept a_0buffer a_0isOver a_0isRuled a_0all a_0some a_0chosen a_0last a_0corner a_0wide a_0cuts a_0aside known_0 length_0 thrown_0 (0 : Int32) round_0 seed_0 hash_0 table_0_13 s_0 cells_0 owner_0 code_0) H → va_D A (wl_fM_finds cI cZ cJ cQ a_0 a_0table a_0s a_0cells a_0owner a_0code a_0before a_0slots a_0isKept a_0buffer a_0isOver a_0isRuled a_0all a_0some a_0chosen a_0last a_0corner a_0wide a_0cuts a_0aside known_0 length_0 thrown_0 (0 : Int32) round_0 seed_0 hash_0 table_0_13 s_0 cells_0 owner_0 code_0) → va_S A s.heap H locs → W p l e ({ frames := 2, cells := 0, slots := 0, locals := 62 } : Room) s m [.ref a_0].toArray below meth c H locs 0 0 QQ (F0 m 7 ls []) := by
    intro N
    induction N with
    | zero => intro l1_12 table_0_13 hf; exact nomatch (show none = some _ from hf)
    | succ N ih =>
      intro l1_12 table_0_13 hf H locs ls hl hP hD hS
      rw [fM_finds_L7] at hf
      refine lv_iload_n hx hb dX10_finds_7 rfl (lv_at hl 1 rfl) ?_
      refine lv_sipush (v := 252) hx hb dX10_finds_8 (by decide) ?_
      refine lv_icmp_ge (tgt := 27) hx hb dX10_finds_11 (by decide) (fun cc => ?_) (fun cc => ?_)
      · replace hf := hf_pos cc hf
        obtain rfl := Option.some.inj hf
        exact hE_1 _ _ _ (lv_sub hl [0] rfl) hP hD hS
      · replace hf := hf_neg cc hf
        refine lv_aload_n hx hb dX10_finds_14 rfl (lv_at hl 0 rfl) ?_
        refine va_get (D := (dC, dI)) (ci := 10) (C := RX10) (T := TX10) (N := 26) hx hb hts hiX10 hown hK hP 0 rfl rfl 12 (by decide) (hts (.fieldLink RX10 36 "PaddockFieldsModel" "table" "[I") (List.mem_cons_of_mem _ (List.mem_append_left _ (List.mem_of_getElem? (i := 1) rfl)))) (fun _ h9 => h9) rfl dX10_finds_15 ?_
        refine lv_iload_n hx hb dX10_finds_18 rfl (lv_at hl 1 rfl) ?_
        refine lv_iconst (v := -1) hx hb dX10_finds_19 (by decide) ?_
        obtain ⟨w1, h_w1, hf⟩ := hf_bind hf
        refine wh_stI (D := (dC, dI)) (ws' := (wl_fM_finds cI cZ cJ cQ a_0 a_0table a_0s a_0cells a_0owner a_0code a_0before a_0slots a_0isKept a_0buffer a_0isOver a_0isRuled a_0all a_0some a_0chosen a_0last a_0corner a_0wide a_0cuts a_0aside known_0 length_0 thrown_0 (0 : Int32) round_0 seed_0 hash_0 w1 s_0 cells_0 owner_0 code_0)) hx hb hK hP hD hS 1 0 rfl rfl rfl h_w1 dX10_finds_20 (fun H locs hP hD hS => ?_)
        refine lv_iinc (v := (l1_12 + (1 : Int32))) (lv' := [(1, .int (l1_12 + (1 : Int32))), (0, .ref a_0)]) hx hb dX10_finds_21 hl (k := 1) rfl rfl (by decide) rfl (fun ls hl => ?_)
        refine lv_goto (tgt := 7) hx hb dX10_finds_24 (by decide) ?_
        exact ih _ _ hf _ _ _ (lv_sub hl [1, 0] rfl) hP hD hS
  exact hL_11 _ _ _ h_r2 _ _ _ (lv_sub hl [1, 0] rfl) hP hD hS
set_option maxHeartbeats 4000000 in
set_option maxRecDepth 100000 in
theorem c_fM_tellsNumbers (l : Launch) (dC : Nat → ClassId) (dI : Nat → Nat → Nat) (cI cZ cJ cQ : ClassId) (a_0 a_0all a_0some a_0isOver a_0owner a_0cells a_0s a_0before a_0slots a_0isKept a_0buffer a_0code a_0table a_0isRuled a_0chosen a_0last a_0corner a_0wide a_0cuts a_0aside : Nat) (known_0 : Int32) (length_0 : Int32) (thrown_0 : Int32) (round_0 : Int32) (seed_0 : Int64) (hash_0 : Int64) (sz : Nat) {F : Nat} {all_0 : Nat → Int64} {some_0 : Nat → Int64} {many_0 : Int32} {isOver_0 : Nat → Int32} {owner_0 : Nat → Int32} {cells_0 : Nat → Int64} {out : (Nat → Int64) × (Nat → Int64)} (hf : fM_tellsNumbers F all_0 some_0 many_0 isOver_0 owner_0 cells_0 = some out) : Met l yX10_tellsNumbers wsX10_tellsNumbers ({ frames := 0, cells := 0, slots := 0, locals := 0 } : Room) (va_Pc [.ref a_0] (wlP (dC, dI) (wlT cI cZ cJ cQ) (wl_fM_tellsNumbers cI cZ cJ cQ a_0 a_0all a_0some a_0isOver a_0owner a_0cells a_0s a_0before a_0slots a_0isKept a_0buffer a_0code a_0table a_0isRuled a_0chosen a_0last a_0corner a_0wide a_0cuts a_0aside known_0 length_0 thrown_0 many_0 round_0 seed_0 hash_0 all_0 some_0 isOver_0 owner_0 cells_0) sz)) (va_Qv (fun (_ : Unit) => True) (wlQ (dC, dI) (va_A (wl_fM_tellsNumbers cI cZ cJ cQ a_0 a_0all a_0some a_0isOver a_0owner a_0cells a_0s a_0before a_0slots a_0isKept a_0buffer a_0code a_0table a_0isRuled a_0chosen a_0last a_0corner a_0wide a_0cuts a_0aside known_0 length_0 thrown_0 many_0 round_0 seed_0 hash_0 all_0 some_0 isOver_0 owner_0 cells_0) sz) (wl_fM_tellsNumbers cI cZ cJ cQ a_0 a_0all a_0some a_0isOver a_0owner a_0cells a_0s a_0before a_0slots a_0isKept a_0buffer a_0code a_0table a_0isRuled a_0chosen a_0last a_0corner a_0wide a_0cuts a_0aside known_0 length_0 thrown_0 many_0 round_0 seed_0 hash_0 out.1 out.2 isOver_0 owner_0 cells_0)) (va_A (wl_fM_tellsNumbers cI cZ cJ cQ a_0 a_0all a_0some a_0isOver a_0owner a_0cells a_0s a_0before a_0slots a_0isKept a_0buffer a_0code a_0table a_0isRuled a_0chosen a_0last a_0corner a_0wide a_0cuts a_0aside known_0 length_0 thrown_0 many_0 round_0 seed_0 hash_0 all_0 some_0 isOver_0 owner_0 cells_0) sz)) 0 0 (va_A (wl_fM_tellsNumbers cI cZ cJ cQ a_0 a_0all a_0some a_0isOver a_0owner a_0cells a_0s a_0before a_0slots a_0isKept a_0buffer a_0code a_0table a_0isRuled a_0chosen a_0last a_0corner a_0wide a_0cuts a_0aside known_0 length_0 thrown_0 many_0 round_0 seed_0 hash_0 all_0 some_0 isOver_0 owner_0 cells_0) sz) := by
  refine wh_ofWv (lv := [(0, .ref a_0)]) RX10 (by decide) rfl rfl (Nat.le_of_ble_eq_true rfl) rfl ?_
  intro p e s m below meth c A QQ hx hb hml hown hts hP hK hN hD hA hret ls hl
  have hS : va_S A s.heap s.heap [] := va_S.rf
  have hiX10 : ∀ w ∈ wsX100, w ∈ wsX10_tellsNumbers := (fun _ h => List.mem_cons_of_mem _ (List.mem_append_right _ (h)))
  unfold fM_tellsNumbers at hf
  refine lv_iconst (v := 0) hx hb dX10_tellsNumbers_0 (by decide) ?_
  refine lv_istore_n (lv' := [(1, .int (0 : Int32)), (0, .ref a_0)]) hx hb dX10_tellsNumbers_1 rfl hl (by decide) rfl (fun ls hl => ?_)
  obtain ⟨r3, h_r3, hf⟩ := hf_bind hf
  have hE_1 : ∀ (H : Heap) (locs : List Loc) (ls : Array Slot), lv_has ls 2 [(0, .ref a_0)] → va_P (dC, dI) vwCl (wl_fM_tellsNumbers cI cZ cJ cQ a_0 a_0all a_0some a_0isOver a_0owner a_0cells a_0s a_0before a_0slots a_0isKept a_0buffer a_0code a_0table a_0isRuled a_0chosen a_0last a_0corner a_0wide a_0cuts a_0aside known_0 length_0 thrown_0 many_0 round_0 seed_0 hash_0 r3.2.1 r3.2.2 isOver_0 owner_0 cells_0) H → va_D A (wl_fM_tellsNumbers cI cZ cJ cQ a_0 a_0all a_0some a_0isOver a_0owner a_0cells a_0s a_0before a_0slots a_0isKept a_0buffer a_0code a_0table a_0isRuled a_0chosen a_0last a_0corner a_0wide a_0cuts a_0aside known_0 length_0 thrown_0 many_0 round_0 seed_0 hash_0 r3.2.1 r3.2.2 isOver_0 owner_0 cells_0) → va_S A s.heap H locs → W p l e ({ frames := 0, cells := 0, slots := 0, locals := 0 } : Room) s m [.ref a_0].toArray below meth c H locs 0 0 QQ (F0 m 30 ls []) := by
    intro H locs ls hl hP hD hS
    refine lv_iconst (v := 0) hx hb dX10_tellsNumbers_30 (by decide) ?_
    refine lv_istore_n (lv' := [(1, .int (0 : Int32)), (0, .ref a_0)]) hx hb dX10_tellsNumbers_31 rfl hl (by decide) rfl (fun ls hl => ?_)
    obtain ⟨r14, h_r14, hf⟩ := hf_bind hf
    have hE_2 : ∀ (H : Heap) (locs : List Loc) (ls : Array Slot), lv_has ls 2 [] → va_P (dC, dI) vwCl (wl_fM_tellsNumbers cI cZ cJ cQ a_0 a_0all a_0some a_0isOver a_0owner a_0cells a_0s a_0before a_0slots a_0isKept a_0buffer a_0code a_0table a_0isRuled a_0chosen a_0last a_0corner a_0wide a_0cuts a_0aside known_0 length_0 thrown_0 many_0 round_0 seed_0 hash_0 r14.2.1 r14.2.2 isOver_0 owner_0 cells_0) H → va_D A (wl_fM_tellsNumbers cI cZ cJ cQ a_0 a_0all a_0some a_0isOver a_0owner a_0cells a_0s a_0before a_0slots a_0isKept a_0buffer a_0code a_0table a_0isRuled a_0chosen a_0last a_0corner a_0wide a_0cuts a_0aside known_0 length_0 thrown_0 many_0 round_0 seed_0 hash_0 r14.2.1 r14.2.2 isOver_0 owner_0 cells_0) → va_S A s.heap H locs → W p l e ({ frames := 0, cells := 0, slots := 0, locals := 0 } : Room) s m [.ref a_0].toArray below meth c H locs 0 0 QQ (F0 m 95 ls []) := by
      intro H locs ls hl hP hD hS
      obtain rfl := Option.some.inj hf
      exact hret _ _ _ _ hP hD hS dX10_tellsNumbers_95
    have hL_3 : ∀ (N : Nat) (l1_4 : Int32) (all_0_5 : Nat → Int64) (some_0_6 : Nat → Int64), fM_tellsNumbers_L32 F many_0 isOver_0 owner_0 cells_0 N l1_4 all_0_5 some_0_6 = some r14 → ∀ (H : Heap) (locs : List Loc) (ls : Array Slot), lv_has ls 2 [(0, .ref a_0), (1, .int l1_4)] → va_P (dC, dI) vwCl (wl_fM_tellsNumbers cI cZ cJ cQ a_0 a_0all a_0some a_0isOver a_0owner a_0cells a_0s a_0before a_0slots a_0isKept a_0buffer a_0code a_0table a_0isRuled a_0chosen a_0last a_0corner a_0wide a_0cuts a_0aside known_0 length_0 thrown_0 many_0 round_0 seed_0 hash_0 all_0_5 some_0_6 isOver_0 owner_0 cells_0) H → va_D A (wl_fM_tellsNumbers cI cZ cJ cQ a_0 a_0all a_0some a_0isOver a_0owner a_0cells a_0s a_0before a_0slots a_0isKept a_0buffer a_0code a_0table a_0isRuled a_0chosen a_0last a_0corner a_0wide a_0cuts a_0aside known_0 length_0 thrown_0 many_0 round_0 seed_0 hash_0 all_0_5 some_0_6 isOver_0 owner_0 cells_0) → va_S A s.heap H locs → W p l e ({ frames := 0, cells := 0, slots := 0, locals := 0 } : Room) s m [.ref a_0].toArray below meth c H locs 0 0 QQ (F0 m 32 ls []) := by
      intro N
      induction N with
      | zero => intro l1_4 all_0_5 some_0_6 hf; exact nomatch (show none = some _ from hf)
      | succ N ih =>
        intro l1_4 all_0_5 some_0_6 hf H locs ls hl hP hD hS
        rw [fM_tellsNumbers_L32] at hf
        refine lv_iload_n hx hb dX10_tellsNumbers_32 rfl (lv_at hl 1 rfl) ?_
        refine lv_aload_n hx hb dX10_tellsNumbers_33 rfl (lv_at hl 0 rfl) ?_
        refine va_get (D := (dC, dI)) (ci := 10) (C := RX10) (T := TX10) (N := 26) hx hb hts hiX10 hown hK hP 0 rfl rfl 11 (by decide) (hts (.fieldLink RX10 102 "PaddockFieldsModel" "many" "I") (List.mem_cons_of_mem _ (List.mem_append_left _ (List.mem_of_getElem? (i := 3) rfl)))) (fun _ h9 => h9) rfl dX10_tellsNumbers_34 ?_
        refine lv_icmp_ge (tgt := 95) hx hb dX10_tellsNumbers_37 (by decide) (fun cc => ?_) (fun cc => ?_)
        · replace hf := hf_pos cc hf
          obtain rfl := Option.some.inj hf
          exact hE_2 _ _ _ (lv_sub hl [] rfl) hP hD hS
        · replace hf := hf_neg cc hf
          refine lv_aload_n hx hb dX10_tellsNumbers_40 rfl (lv_at hl 0 rfl) ?_
          refine va_get (D := (dC, dI)) (ci := 10) (C := RX10) (T := TX10) (N := 26) hx hb hts hiX10 hown hK hP 0 rfl rfl 13 (by decide) (hts (.fieldLink RX10 39 "PaddockFieldsModel" "isOver" "[Z") (List.mem_cons_of_mem _ (List.mem_append_left _ (List.mem_of_getElem? (i := 4) rfl)))) (fun _ h9 => h9) rfl dX10_tellsNumbers_41 ?_
          refine lv_iload_n hx hb dX10_tellsNumbers_44 rfl (lv_at hl 1 rfl) ?_
          obtain ⟨v4, h_v4, hf⟩ := hf_bind hf
          refine wh_ldZ (D := (dC, dI)) hx hb hK hP 3 1 rfl rfl h_v4 dX10_tellsNumbers_45 ?_
          obtain ⟨j13, h_j13, hf⟩ := hf_bind hf
          have hJ_7 : ∀ (H : Heap) (locs : List Loc) (ls : Array Slot), lv_has ls 2 [(0, .ref a_0), (1, .int l1_4)] → va_P (dC, dI) vwCl (wl_fM_tellsNumbers cI cZ cJ cQ a_0 a_0all a_0some a_0isOver a_0owner a_0cells a_0s a_0before a_0slots a_0isKept a_0buffer a_0code a_0table a_0isRuled a_0chosen a_0last a_0corner a_0wide a_0cuts a_0aside known_0 length_0 thrown_0 many_0 round_0 seed_0 hash_0 j13.1 j13.2 isOver_0 owner_0 cells_0) H → va_D A (wl_fM_tellsNumbers cI cZ cJ cQ a_0 a_0all a_0some a_0isOver a_0owner a_0cells a_0s a_0before a_0slots a_0isKept a_0buffer a_0code a_0table a_0isRuled a_0chosen a_0last a_0corner a_0wide a_0cuts a_0aside known_0 length_0 thrown_0 many_0 round_0 seed_0 hash_0 j13.1 j13.2 isOver_0 owner_0 cells_0) → va_S A s.heap H locs → W p l e ({ frames := 0, cells := 0, slots := 0, locals := 0 } : Room) s m [.ref a_0].toArray below meth c H locs 0 0 QQ (F0 m 89 ls []) := by
            intro H locs ls hl hP hD hS
            refine lv_iinc (v := (l1_4 + (1 : Int32))) (lv' := [(1, .int (l1_4 + (1 : Int32))), (0, .ref a_0)]) hx hb dX10_tellsNumbers_89 hl (k := 1) rfl rfl (by decide) rfl (fun ls hl => ?_)
            refine lv_goto (tgt := 32) hx hb dX10_tellsNumbers_92 (by decide) ?_
            exact ih _ _ _ hf _ _ _ (lv_sub hl [1, 0] rfl) hP hD hS
          clear hf
          have hf := h_j13
          clear h_j13
          refine lv_if_ne (tgt := 89) hx hb dX10_tellsNumbers_46 (by decide) (fun cc => ?_) (fun cc => ?_)
          · replace hf := hf_pos cc hf
            obtain rfl := Option.some.inj hf
            exact hJ_7 _ _ _ (lv_sub hl [0, 1] rfl) hP hD hS
          · replace hf := hf_neg (not_not_intro cc) hf
            refine lv_aload_n hx hb dX10_tellsNumbers_49 rfl (lv_at hl 0 rfl) ?_
            refine va_get (D := (dC, dI)) (ci := 10) (C := RX10) (T := TX10) (N := 26) hx hb hts hiX10 hown hK hP 0 rfl rfl 15 (by decide) (hts (.fieldLink RX10 45 "PaddockFieldsModel" "all" "[J") (List.mem_cons_of_mem _ (List.mem_append_left _ (List.mem_of_getElem? (i := 0) rfl)))) (fun _ h9 => h9) rfl dX10_tellsNumbers_50 ?_
            refine lv_aload_n hx hb dX10_tellsNumbers_53 rfl (lv_at hl 0 rfl) ?_
            refine va_get (D := (dC, dI)) (ci := 10) (C := RX10) (T := TX10) (N := 26) hx hb hts hiX10 hown hK hP 0 rfl rfl 9 (by decide) (hts (.fieldLink RX10 30 "PaddockFieldsModel" "owner" "[I") (List.mem_cons_of_mem _ (List.mem_append_left _ (List.mem_of_getElem? (i := 5) rfl)))) (fun _ h9 => h9) rfl dX10_tellsNumbers_54 ?_
            refine lv_iload_n hx hb dX10_tellsNumbers_57 rfl (lv_at hl 1 rfl) ?_
            obtain ⟨v5, h_v5, hf⟩ := hf_bind hf
            refine wh_ldI (D := (dC, dI)) hx hb hK hP 4 0 rfl rfl h_v5 dX10_tellsNumbers_58 ?_
            refine lv_dup2_11 hx hb dX10_tellsNumbers_59 rfl rfl ?_
            obtain ⟨v6, h_v6, hf⟩ := hf_bind hf
            refine wh_ldJ (D := (dC, dI)) hx hb hK hP 1 2 rfl rfl h_v6 dX10_tellsNumbers_60 ?_
            refine lv_aload_n hx hb dX10_tellsNumbers_61 rfl (lv_at hl 0 rfl) ?_
            refine va_get (D := (dC, dI)) (ci := 10) (C := RX10) (T := TX10) (N := 26) hx hb hts hiX10 hown hK hP 0 rfl rfl 8 (by decide) (hts (.fieldLink RX10 26 "PaddockFieldsModel" "cells" "[J") (List.mem_cons_of_mem _ (List.mem_append_left _ (List.mem_of_getElem? (i := 6) rfl)))) (fun _ h9 => h9) rfl dX10_tellsNumbers_62 ?_
            refine lv_iload_n hx hb dX10_tellsNumbers_65 rfl (lv_at hl 1 rfl) ?_
            obtain ⟨v7, h_v7, hf⟩ := hf_bind hf
            refine wh_ldJ (D := (dC, dI)) hx hb hK hP 5 2 rfl rfl h_v7 dX10_tellsNumbers_66 ?_
            refine lv_land hx hb dX10_tellsNumbers_67 ?_
            obtain ⟨w8, h_w8, hf⟩ := hf_bind hf
            refine wh_stJ (D := (dC, dI)) (ws' := (wl_fM_tellsNumbers cI cZ cJ cQ a_0 a_0all a_0some a_0isOver a_0owner a_0cells a_0s a_0before a_0slots a_0isKept a_0buffer a_0code a_0table a_0isRuled a_0chosen a_0last a_0corner a_0wide a_0cuts a_0aside known_0 length_0 thrown_0 many_0 round_0 seed_0 hash_0 w8 some_0_6 isOver_0 owner_0 cells_0)) hx hb hK hP hD hS 1 2 rfl rfl rfl h_w8 dX10_tellsNumbers_68 (fun H locs hP hD hS => ?_)
            refine lv_aload_n hx hb dX10_tellsNumbers_69 rfl (lv_at hl 0 rfl) ?_
            refine va_get (D := (dC, dI)) (ci := 10) (C := RX10) (T := TX10) (N := 26) hx hb hts hiX10 hown hK hP 0 rfl rfl 16 (by decide) (hts (.fieldLink RX10 48 "PaddockFieldsModel" "some" "[J") (List.mem_cons_of_mem _ (List.mem_append_left _ (List.mem_of_getElem? (i := 2) rfl)))) (fun _ h9 => h9) rfl dX10_tellsNumbers_70 ?_
            refine lv_aload_n hx hb dX10_tellsNumbers_73 rfl (lv_at hl 0 rfl) ?_
            refine va_get (D := (dC, dI)) (ci := 10) (C := RX10) (T := TX10) (N := 26) hx hb hts hiX10 hown hK hP 0 rfl rfl 9 (by decide) (hts (.fieldLink RX10 30 "PaddockFieldsModel" "owner" "[I") (List.mem_cons_of_mem _ (List.mem_append_left _ (List.mem_of_getElem? (i := 5) rfl)))) (fun _ h9 => h9) rfl dX10_tellsNumbers_74 ?_
            refine lv_iload_n hx hb dX10_tellsNumbers_77 rfl (lv_at hl 1 rfl) ?_
            obtain ⟨v9, h_v9, hf⟩ := hf_bind hf
            refine wh_ldI (D := (dC, dI)) hx hb hK hP 4 0 rfl rfl h_v9 dX10_tellsNumbers_78 ?_
            refine lv_dup2_11 hx hb dX10_tellsNumbers_79 rfl rfl ?_
            obtain ⟨v10, h_v10, hf⟩ := hf_bind hf
            refine wh_ldJ (D := (dC, dI)) hx hb hK hP 2 2 rfl rfl h_v10 dX10_tellsNumbers_80 ?_
            refine lv_aload_n hx hb dX10_tellsNumbers_81 rfl (lv_at hl 0 rfl) ?_
            refine va_get (D := (dC, dI)) (ci := 10) (C := RX10) (T := TX10) (N := 26) hx hb hts hiX10 hown hK hP 0 rfl rfl 8 (by decide) (hts (.fieldLink RX10 26 "PaddockFieldsModel" "cells" "[J") (List.mem_cons_of_mem _ (List.mem_append_left _ (List.mem_of_getElem? (i := 6) rfl)))) (fun _ h9 => h9) rfl dX10_tellsNumbers_82 ?_
            refine lv_iload_n hx hb dX10_tellsNumbers_85 rfl (lv_at hl 1 rfl) ?_
            obtain ⟨v11, h_v11, hf⟩ := hf_bind hf
            refine wh_ldJ (D := (dC, dI)) hx hb hK hP 5 2 rfl rfl h_v11 dX10_tellsNumbers_86 ?_
            refine lv_lor hx hb dX10_tellsNumbers_87 ?_
            obtain ⟨w12, h_w12, hf⟩ := hf_bind hf
            refine wh_stJ (D := (dC, dI)) (ws' := (wl_fM_tellsNumbers cI cZ cJ cQ a_0 a_0all a_0some a_0isOver a_0owner a_0cells a_0s a_0before a_0slots a_0isKept a_0buffer a_0code a_0table a_0isRuled a_0chosen a_0last a_0corner a_0wide a_0cuts a_0aside known_0 length_0 thrown_0 many_0 round_0 seed_0 hash_0 w8 w12 isOver_0 owner_0 cells_0)) hx hb hK hP hD hS 2 2 rfl rfl rfl h_w12 dX10_tellsNumbers_88 (fun H locs hP hD hS => ?_)
            obtain rfl := Option.some.inj hf
            exact hJ_7 _ _ _ (lv_sub hl [0, 1] rfl) hP hD hS
    exact hL_3 _ _ _ _ h_r14 _ _ _ (lv_sub hl [1, 0] rfl) hP hD hS
  have hL_8 : ∀ (N : Nat) (l1_9 : Int32) (all_0_10 : Nat → Int64) (some_0_11 : Nat → Int64), fM_tellsNumbers_L2 F N l1_9 all_0_10 some_0_11 = some r3 → ∀ (H : Heap) (locs : List Loc) (ls : Array Slot), lv_has ls 2 [(0, .ref a_0), (1, .int l1_9)] → va_P (dC, dI) vwCl (wl_fM_tellsNumbers cI cZ cJ cQ a_0 a_0all a_0some a_0isOver a_0owner a_0cells a_0s a_0before a_0slots a_0isKept a_0buffer a_0code a_0table a_0isRuled a_0chosen a_0last a_0corner a_0wide a_0cuts a_0aside known_0 length_0 thrown_0 many_0 round_0 seed_0 hash_0 all_0_10 some_0_11 isOver_0 owner_0 cells_0) H → va_D A (wl_fM_tellsNumbers cI cZ cJ cQ a_0 a_0all a_0some a_0isOver a_0owner a_0cells a_0s a_0before a_0slots a_0isKept a_0buffer a_0code a_0table a_0isRuled a_0chosen a_0last a_0corner a_0wide a_0cuts a_0aside known_0 length_0 thrown_0 many_0 round_0 seed_0 hash_0 all_0_10 some_0_11 isOver_0 owner_0 cells_0) → va_S A s.heap H locs → W p l e ({ frames := 0, cells := 0, slots := 0, locals := 0 } : Room) s m [.ref a_0].toArray below meth c H locs 0 0 QQ (F0 m 2 ls []) := by
    intro N
    induction N with
    | zero => intro l1_9 all_0_10 some_0_11 hf; exact nomatch (show none = some _ from hf)
    | succ N ih =>
      intro l1_9 all_0_10 some_0_11 hf H locs ls hl hP hD hS
      rw [fM_tellsNumbers_L2] at hf
      refine lv_iload_n hx hb dX10_tellsNumbers_2 rfl (lv_at hl 1 rfl) ?_
      refine lv_bipush (v := 42) hx hb dX10_tellsNumbers_3 (by decide) ?_
      refine lv_icmp_ge (tgt := 30) hx hb dX10_tellsNumbers_5 (by decide) (fun cc => ?_) (fun cc => ?_)
      · replace hf := hf_pos cc hf
        obtain rfl := Option.some.inj hf
        exact hE_1 _ _ _ (lv_sub hl [0] rfl) hP hD hS
      · replace hf := hf_neg cc hf
        refine lv_aload_n hx hb dX10_tellsNumbers_8 rfl (lv_at hl 0 rfl) ?_
        refine va_get (D := (dC, dI)) (ci := 10) (C := RX10) (T := TX10) (N := 26) hx hb hts hiX10 hown hK hP 0 rfl rfl 15 (by decide) (hts (.fieldLink RX10 45 "PaddockFieldsModel" "all" "[J") (List.mem_cons_of_mem _ (List.mem_append_left _ (List.mem_of_getElem? (i := 0) rfl)))) (fun _ h9 => h9) rfl dX10_tellsNumbers_9 ?_
        refine lv_iload_n hx hb dX10_tellsNumbers_12 rfl (lv_at hl 1 rfl) ?_
        refine lv_ldc2 hx hb hown (hts (.constantLong RX10 109 (4398046511103)) (List.mem_cons_of_mem _ (List.mem_append_left _ (List.mem_of_getElem? (i := 1) rfl)))) dX10_tellsNumbers_13 ?_
        obtain ⟨w1, h_w1, hf⟩ := hf_bind hf
        refine wh_stJ (D := (dC, dI)) (ws' := (wl_fM_tellsNumbers cI cZ cJ cQ a_0 a_0all a_0some a_0isOver a_0owner a_0cells a_0s a_0before a_0slots a_0isKept a_0buffer a_0code a_0table a_0isRuled a_0chosen a_0last a_0corner a_0wide a_0cuts a_0aside known_0 length_0 thrown_0 many_0 round_0 seed_0 hash_0 w1 some_0_11 isOver_0 owner_0 cells_0)) hx hb hK hP hD hS 1 2 rfl rfl rfl h_w1 dX10_tellsNumbers_16 (fun H locs hP hD hS => ?_)
        refine lv_aload_n hx hb dX10_tellsNumbers_17 rfl (lv_at hl 0 rfl) ?_
        refine va_get (D := (dC, dI)) (ci := 10) (C := RX10) (T := TX10) (N := 26) hx hb hts hiX10 hown hK hP 0 rfl rfl 16 (by decide) (hts (.fieldLink RX10 48 "PaddockFieldsModel" "some" "[J") (List.mem_cons_of_mem _ (List.mem_append_left _ (List.mem_of_getElem? (i := 2) rfl)))) (fun _ h9 => h9) rfl dX10_tellsNumbers_18 ?_
        refine lv_iload_n hx hb dX10_tellsNumbers_21 rfl (lv_at hl 1 rfl) ?_
        refine lv_lconst (v := 0) hx hb dX10_tellsNumbers_22 (by decide) ?_
        obtain ⟨w2, h_w2, hf⟩ := hf_bind hf
        refine wh_stJ (D := (dC, dI)) (ws' := (wl_fM_tellsNumbers cI cZ cJ cQ a_0 a_0all a_0some a_0isOver a_0owner a_0cells a_0s a_0before a_0slots a_0isKept a_0buffer a_0code a_0table a_0isRuled a_0chosen a_0last a_0corner a_0wide a_0cuts a_0aside known_0 length_0 thrown_0 many_0 round_0 seed_0 hash_0 w1 w2 isOver_0 owner_0 cells_0)) hx hb hK hP hD hS 2 2 rfl rfl rfl h_w2 dX10_tellsNumbers_23 (fun H locs hP hD hS => ?_)
        refine lv_iinc (v := (l1_9 + (1 : Int32))) (lv' := [(1, .int (l1_9 + (1 : Int32))), (0, .ref a_0)]) hx hb dX10_tellsNumbers_24 hl (k := 1) rfl rfl (by decide) rfl (fun ls hl => ?_)
        refine lv_goto (tgt := 2) hx hb dX10_tellsNumbers_27 (by decide) ?_
        exact ih _ _ _ hf _ _ _ (lv_sub hl [1, 0] rfl) hP hD hS
  exact hL_8 _ _ _ _ h_r3 _ _ _ (lv_sub hl [1, 0] rfl) hP hD hS
set_option maxHeartbeats 4000000 in
set_option maxRecDepth 100000 in
theorem c_fM_isOut (l : Launch) (dC : Nat → ClassId) (dI : Nat → Nat → Nat) (cI cZ cJ cQ : ClassId) (a_0 a_0owner a_0some a_0all a_0cells a_0s a_0before a_0slots a_0isKept a_0buffer a_0code a_0table a_0isOver a_0isRuled a_0chosen a_0last a_0corner a_0wide a_0cuts a_0aside : Nat) (known_0 : Int32) (length_0 : Int32) (thrown_0 : Int32) (many_0 : Int32) (round_0 : Int32) (seed_0 : Int64) (hash_0 : Int64) (sz : Nat) {F : Nat} {x1 : Int32} {owner_0 : Nat → Int32} {some_0 : Nat → Int64} {all_0 : Nat → Int64} {cells_0 : Nat → Int64} {out : Int32} (hf : fM_isOut F x1 owner_0 some_0 all_0 cells_0 = some out) : Met l yX10_isOut wsX10_isOut ({ frames := 0, cells := 0, slots := 0, locals := 0 } : Room) (va_Pc [.ref a_0, .int x1] (wlP (dC, dI) (wlT cI cZ cJ cQ) (wl_fM_isOut cI cZ cJ cQ a_0 a_0owner a_0some a_0all a_0cells a_0s a_0before a_0slots a_0isKept a_0buffer a_0code a_0table a_0isOver a_0isRuled a_0chosen a_0last a_0corner a_0wide a_0cuts a_0aside known_0 length_0 thrown_0 many_0 round_0 seed_0 hash_0 owner_0 some_0 all_0 cells_0) sz)) (va_Qi (fun (v : Int32) (_ : Unit) => v = out) (wlQ (dC, dI) (va_A (wl_fM_isOut cI cZ cJ cQ a_0 a_0owner a_0some a_0all a_0cells a_0s a_0before a_0slots a_0isKept a_0buffer a_0code a_0table a_0isOver a_0isRuled a_0chosen a_0last a_0corner a_0wide a_0cuts a_0aside known_0 length_0 thrown_0 many_0 round_0 seed_0 hash_0 owner_0 some_0 all_0 cells_0) sz) (wl_fM_isOut cI cZ cJ cQ a_0 a_0owner a_0some a_0all a_0cells a_0s a_0before a_0slots a_0isKept a_0buffer a_0code a_0table a_0isOver a_0isRuled a_0chosen a_0last a_0corner a_0wide a_0cuts a_0aside known_0 length_0 thrown_0 many_0 round_0 seed_0 hash_0 owner_0 some_0 all_0 cells_0)) (va_A (wl_fM_isOut cI cZ cJ cQ a_0 a_0owner a_0some a_0all a_0cells a_0s a_0before a_0slots a_0isKept a_0buffer a_0code a_0table a_0isOver a_0isRuled a_0chosen a_0last a_0corner a_0wide a_0cuts a_0aside known_0 length_0 thrown_0 many_0 round_0 seed_0 hash_0 owner_0 some_0 all_0 cells_0) sz)) 0 0 (va_A (wl_fM_isOut cI cZ cJ cQ a_0 a_0owner a_0some a_0all a_0cells a_0s a_0before a_0slots a_0isKept a_0buffer a_0code a_0table a_0isOver a_0isRuled a_0chosen a_0last a_0corner a_0wide a_0cuts a_0aside known_0 length_0 thrown_0 many_0 round_0 seed_0 hash_0 owner_0 some_0 all_0 cells_0) sz) := by
  refine wh_ofWz (lv := [(0, .ref a_0), (1, .int x1)]) RX10 (by decide) rfl rfl (Nat.le_of_ble_eq_true rfl) rfl ?_
  intro p e s m below meth c A QQ hx hb hml hown hts hP hK hN hD hA hret ls hl
  have hS : va_S A s.heap s.heap [] := va_S.rf
  have hiX10 : ∀ w ∈ wsX100, w ∈ wsX10_isOut := (fun _ h => List.mem_cons_of_mem _ (List.mem_append_right _ (h)))
  unfold fM_isOut at hf
  refine lv_lconst (v := 0) hx hb dX10_isOut_0 (by decide) ?_
  refine lv_lstore_n (lv' := [(2, .long (0 : Int64)), (0, .ref a_0), (1, .int x1)]) hx hb dX10_isOut_1 rfl hl (by decide) rfl (fun ls hl => ?_)
  refine lv_iconst (v := 0) hx hb dX10_isOut_2 (by decide) ?_
  refine lv_istore (lv' := [(4, .int (0 : Int32)), (2, .long (0 : Int64)), (0, .ref a_0), (1, .int x1)]) hx hb dX10_isOut_3 hl (by decide) rfl (fun ls hl => ?_)
  refine lv_iconst (v := 0) hx hb dX10_isOut_5 (by decide) ?_
  refine lv_istore (lv' := [(5, .int (0 : Int32)), (4, .int (0 : Int32)), (2, .long (0 : Int64)), (0, .ref a_0), (1, .int x1)]) hx hb dX10_isOut_6 hl (by decide) rfl (fun ls hl => ?_)
  obtain ⟨r8, h_r8, hf⟩ := hf_bind hf
  have hE_1 : ∀ (H : Heap) (locs : List Loc) (ls : Array Slot), lv_has ls 6 [(0, .ref a_0), (1, .int x1), (2, .long r8.1), (4, .int r8.2.1)] → va_P (dC, dI) vwCl (wl_fM_isOut cI cZ cJ cQ a_0 a_0owner a_0some a_0all a_0cells a_0s a_0before a_0slots a_0isKept a_0buffer a_0code a_0table a_0isOver a_0isRuled a_0chosen a_0last a_0corner a_0wide a_0cuts a_0aside known_0 length_0 thrown_0 many_0 round_0 seed_0 hash_0 owner_0 some_0 all_0 cells_0) H → va_D A (wl_fM_isOut cI cZ cJ cQ a_0 a_0owner a_0some a_0all a_0cells a_0s a_0before a_0slots a_0isKept a_0buffer a_0code a_0table a_0isOver a_0isRuled a_0chosen a_0last a_0corner a_0wide a_0cuts a_0aside known_0 length_0 thrown_0 many_0 round_0 seed_0 hash_0 owner_0 some_0 all_0 cells_0) → va_S A s.heap H locs → W p l e ({ frames := 0, cells := 0, slots := 0, locals := 0 } : Room) s m [.ref a_0, .int x1].toArray below meth c H locs 0 0 QQ (F0 m 85 ls []) := by
    intro H locs ls hl hP hD hS
    refine lv_iload hx hb dX10_isOut_85 (lv_at hl 3 rfl) ?_
    refine lv_if_ne (tgt := 123) hx hb dX10_isOut_87 (by decide) (fun cc => ?_) (fun cc => ?_)
    · replace hf := hf_pos cc hf
      refine lv_iconst (v := 1) hx hb dX10_isOut_123 (by decide) ?_
      refine lv_goto (tgt := 128) hx hb dX10_isOut_124 (by decide) ?_
      obtain rfl := Option.some.inj hf
      exact hret _ _ _ _ (by decide) hP hD hS dX10_isOut_128
    · replace hf := hf_neg (not_not_intro cc) hf
      refine lv_aload_n hx hb dX10_isOut_90 rfl (lv_at hl 0 rfl) ?_
      refine va_get (D := (dC, dI)) (ci := 10) (C := RX10) (T := TX10) (N := 26) hx hb hts hiX10 hown hK hP 0 rfl rfl 16 (by decide) (hts (.fieldLink RX10 48 "PaddockFieldsModel" "some" "[J") (List.mem_cons_of_mem _ (List.mem_append_left _ (List.mem_of_getElem? (i := 1) rfl)))) (fun _ h9 => h9) rfl dX10_isOut_91 ?_
      refine lv_aload_n hx hb dX10_isOut_94 rfl (lv_at hl 0 rfl) ?_
      refine va_get (D := (dC, dI)) (ci := 10) (C := RX10) (T := TX10) (N := 26) hx hb hts hiX10 hown hK hP 0 rfl rfl 9 (by decide) (hts (.fieldLink RX10 30 "PaddockFieldsModel" "owner" "[I") (List.mem_cons_of_mem _ (List.mem_append_left _ (List.mem_of_getElem? (i := 0) rfl)))) (fun _ h9 => h9) rfl dX10_isOut_95 ?_
      refine lv_iload_n hx hb dX10_isOut_98 rfl (lv_at hl 1 rfl) ?_
      obtain ⟨v9, h_v9, hf⟩ := hf_bind hf
      refine wh_ldI (D := (dC, dI)) hx hb hK hP 1 0 rfl rfl h_v9 dX10_isOut_99 ?_
      obtain ⟨v10, h_v10, hf⟩ := hf_bind hf
      refine wh_ldJ (D := (dC, dI)) hx hb hK hP 2 2 rfl rfl h_v10 dX10_isOut_100 ?_
      refine lv_lload_n hx hb dX10_isOut_101 rfl (lv_at hl 2 rfl) ?_
      refine lv_ldc2 hx hb hown (hts (.constantLong RX10 111 (-1)) (List.mem_cons_of_mem _ (List.mem_append_left _ (List.mem_of_getElem? (i := 4) rfl)))) dX10_isOut_102 ?_
      refine lv_lxor hx hb dX10_isOut_105 ?_
      refine lv_land hx hb dX10_isOut_106 ?_
      refine lv_aload_n hx hb dX10_isOut_107 rfl (lv_at hl 0 rfl) ?_
      refine va_get (D := (dC, dI)) (ci := 10) (C := RX10) (T := TX10) (N := 26) hx hb hts hiX10 hown hK hP 0 rfl rfl 8 (by decide) (hts (.fieldLink RX10 26 "PaddockFieldsModel" "cells" "[J") (List.mem_cons_of_mem _ (List.mem_append_left _ (List.mem_of_getElem? (i := 3) rfl)))) (fun _ h9 => h9) rfl dX10_isOut_108 ?_
      refine lv_iload_n hx hb dX10_isOut_111 rfl (lv_at hl 1 rfl) ?_
      obtain ⟨v11, h_v11, hf⟩ := hf_bind hf
      refine wh_ldJ (D := (dC, dI)) hx hb hK hP 4 2 rfl rfl h_v11 dX10_isOut_112 ?_
      refine lv_ldc2 hx hb hown (hts (.constantLong RX10 111 (-1)) (List.mem_cons_of_mem _ (List.mem_append_left _ (List.mem_of_getElem? (i := 4) rfl)))) dX10_isOut_113 ?_
      refine lv_lxor hx hb dX10_isOut_116 ?_
      refine lv_land hx hb dX10_isOut_117 ?_
      refine lv_lconst (v := 0) hx hb dX10_isOut_118 (by decide) ?_
      refine W.lcmp hx hb dX10_isOut_119 ?_
      refine lv_if_eq (tgt := 127) hx hb dX10_isOut_120 (by decide) (fun cc => ?_) (fun cc => ?_)
      · replace hf := hf_pos ((lg_cmp_eq _ _).mp cc) hf
        refine lv_iconst (v := 0) hx hb dX10_isOut_127 (by decide) ?_
        obtain rfl := Option.some.inj hf
        exact hret _ _ _ _ (by decide) hP hD hS dX10_isOut_128
      · replace hf := hf_neg (mt (lg_cmp_eq _ _).mpr cc) hf
        refine lv_iconst (v := 1) hx hb dX10_isOut_123 (by decide) ?_
        refine lv_goto (tgt := 128) hx hb dX10_isOut_124 (by decide) ?_
        obtain rfl := Option.some.inj hf
        exact hret _ _ _ _ (by decide) hP hD hS dX10_isOut_128
  have hL_2 : ∀ (N : Nat) (l2_3 : Int64) (l4_4 : Int32) (l5_5 : Int32), fM_isOut_L8 F x1 owner_0 some_0 all_0 cells_0 N l2_3 l4_4 l5_5 = some r8 → ∀ (H : Heap) (locs : List Loc) (ls : Array Slot), lv_has ls 6 [(0, .ref a_0), (1, .int x1), (2, .long l2_3), (4, .int l4_4), (5, .int l5_5)] → va_P (dC, dI) vwCl (wl_fM_isOut cI cZ cJ cQ a_0 a_0owner a_0some a_0all a_0cells a_0s a_0before a_0slots a_0isKept a_0buffer a_0code a_0table a_0isOver a_0isRuled a_0chosen a_0last a_0corner a_0wide a_0cuts a_0aside known_0 length_0 thrown_0 many_0 round_0 seed_0 hash_0 owner_0 some_0 all_0 cells_0) H → va_D A (wl_fM_isOut cI cZ cJ cQ a_0 a_0owner a_0some a_0all a_0cells a_0s a_0before a_0slots a_0isKept a_0buffer a_0code a_0table a_0isOver a_0isRuled a_0chosen a_0last a_0corner a_0wide a_0cuts a_0aside known_0 length_0 thrown_0 many_0 round_0 seed_0 hash_0 owner_0 some_0 all_0 cells_0) → va_S A s.heap H locs → W p l e ({ frames := 0, cells := 0, slots := 0, locals := 0 } : Room) s m [.ref a_0, .int x1].toArray below meth c H locs 0 0 QQ (F0 m 8 ls []) := by
    intro N
    induction N with
    | zero => intro l2_3 l4_4 l5_5 hf; exact nomatch (show none = some _ from hf)
    | succ N ih =>
      intro l2_3 l4_4 l5_5 hf H locs ls hl hP hD hS
      rw [fM_isOut_L8] at hf
      refine lv_iload hx hb dX10_isOut_8 (lv_at hl 4 rfl) ?_
      refine lv_bipush (v := 42) hx hb dX10_isOut_10 (by decide) ?_
      refine lv_icmp_ge (tgt := 85) hx hb dX10_isOut_12 (by decide) (fun cc => ?_) (fun cc => ?_)
      · replace hf := hf_pos cc hf
        obtain rfl := Option.some.inj hf
        exact hE_1 _ _ _ (lv_sub hl [0, 1, 2, 3] rfl) hP hD hS
      · replace hf := hf_neg cc hf
        refine lv_iload hx hb dX10_isOut_15 (lv_at hl 4 rfl) ?_
        refine lv_aload_n hx hb dX10_isOut_17 rfl (lv_at hl 0 rfl) ?_
        refine va_get (D := (dC, dI)) (ci := 10) (C := RX10) (T := TX10) (N := 26) hx hb hts hiX10 hown hK hP 0 rfl rfl 9 (by decide) (hts (.fieldLink RX10 30 "PaddockFieldsModel" "owner" "[I") (List.mem_cons_of_mem _ (List.mem_append_left _ (List.mem_of_getElem? (i := 0) rfl)))) (fun _ h9 => h9) rfl dX10_isOut_18 ?_
        refine lv_iload_n hx hb dX10_isOut_21 rfl (lv_at hl 1 rfl) ?_
        obtain ⟨v1, h_v1, hf⟩ := hf_bind hf
        refine wh_ldI (D := (dC, dI)) hx hb hK hP 1 0 rfl rfl h_v1 dX10_isOut_22 ?_
        obtain ⟨j7, h_j7, hf⟩ := hf_bind hf
        have hJ_6 : ∀ (H : Heap) (locs : List Loc) (ls : Array Slot), lv_has ls 6 [(0, .ref a_0), (1, .int x1), (2, .long j7.1), (4, .int j7.2), (5, .int l5_5)] → va_P (dC, dI) vwCl (wl_fM_isOut cI cZ cJ cQ a_0 a_0owner a_0some a_0all a_0cells a_0s a_0before a_0slots a_0isKept a_0buffer a_0code a_0table a_0isOver a_0isRuled a_0chosen a_0last a_0corner a_0wide a_0cuts a_0aside known_0 length_0 thrown_0 many_0 round_0 seed_0 hash_0 owner_0 some_0 all_0 cells_0) H → va_D A (wl_fM_isOut cI cZ cJ cQ a_0 a_0owner a_0some a_0all a_0cells a_0s a_0before a_0slots a_0isKept a_0buffer a_0code a_0table a_0isOver a_0isRuled a_0chosen a_0last a_0corner a_0wide a_0cuts a_0aside known_0 length_0 thrown_0 many_0 round_0 seed_0 hash_0 owner_0 some_0 all_0 cells_0) → va_S A s.heap H locs → W p l e ({ frames := 0, cells := 0, slots := 0, locals := 0 } : Room) s m [.ref a_0, .int x1].toArray below meth c H locs 0 0 QQ (F0 m 79 ls []) := by
          intro H locs ls hl hP hD hS
          refine lv_iinc (v := (l5_5 + (1 : Int32))) (lv' := [(5, .int (l5_5 + (1 : Int32))), (0, .ref a_0), (1, .int x1), (2, .long j7.1), (4, .int j7.2)]) hx hb dX10_isOut_79 hl (k := 4) rfl rfl (by decide) rfl (fun ls hl => ?_)
          refine lv_goto (tgt := 8) hx hb dX10_isOut_82 (by decide) ?_
          exact ih _ _ _ hf _ _ _ (lv_sub hl [1, 2, 3, 4, 0] rfl) hP hD hS
        clear hf
        have hf := h_j7
        clear h_j7
        refine lv_icmp_eq (tgt := 79) hx hb dX10_isOut_23 (by decide) (fun cc => ?_) (fun cc => ?_)
        · replace hf := hf_pos cc hf
          obtain rfl := Option.some.inj hf
          exact hJ_6 _ _ _ (lv_sub hl [0, 1, 2, 3, 4] rfl) hP hD hS
        · replace hf := hf_neg cc hf
          refine lv_lload_n hx hb dX10_isOut_26 rfl (lv_at hl 2 rfl) ?_
          refine lv_aload_n hx hb dX10_isOut_27 rfl (lv_at hl 0 rfl) ?_
          refine va_get (D := (dC, dI)) (ci := 10) (C := RX10) (T := TX10) (N := 26) hx hb hts hiX10 hown hK hP 0 rfl rfl 16 (by decide) (hts (.fieldLink RX10 48 "PaddockFieldsModel" "some" "[J") (List.mem_cons_of_mem _ (List.mem_append_left _ (List.mem_of_getElem? (i := 1) rfl)))) (fun _ h9 => h9) rfl dX10_isOut_28 ?_
          refine lv_iload hx hb dX10_isOut_31 (lv_at hl 4 rfl) ?_
          obtain ⟨v2, h_v2, hf⟩ := hf_bind hf
          refine wh_ldJ (D := (dC, dI)) hx hb hK hP 2 2 rfl rfl h_v2 dX10_isOut_33 ?_
          refine lv_lor hx hb dX10_isOut_34 ?_
          refine lv_lstore_n (lv' := [(2, .long (l2_3 ||| v2)), (0, .ref a_0), (1, .int x1), (4, .int l4_4), (5, .int l5_5)]) hx hb dX10_isOut_35 rfl hl (by decide) rfl (fun ls hl => ?_)
          refine lv_iload hx hb dX10_isOut_36 (lv_at hl 3 rfl) ?_
          obtain ⟨j6, h_j6, hf⟩ := hf_bind hf
          have hJ_7 : ∀ (H : Heap) (locs : List Loc) (ls : Array Slot), lv_has ls 6 [(0, .ref a_0), (1, .int x1), (2, .long (l2_3 ||| v2)), (5, .int l5_5)] → va_P (dC, dI) vwCl (wl_fM_isOut cI cZ cJ cQ a_0 a_0owner a_0some a_0all a_0cells a_0s a_0before a_0slots a_0isKept a_0buffer a_0code a_0table a_0isOver a_0isRuled a_0chosen a_0last a_0corner a_0wide a_0cuts a_0aside known_0 length_0 thrown_0 many_0 round_0 seed_0 hash_0 owner_0 some_0 all_0 cells_0) H → va_D A (wl_fM_isOut cI cZ cJ cQ a_0 a_0owner a_0some a_0all a_0cells a_0s a_0before a_0slots a_0isKept a_0buffer a_0code a_0table a_0isOver a_0isRuled a_0chosen a_0last a_0corner a_0wide a_0cuts a_0aside known_0 length_0 thrown_0 many_0 round_0 seed_0 hash_0 owner_0 some_0 all_0 cells_0) → va_S A s.heap H locs → W p l e ({ frames := 0, cells := 0, slots := 0, locals := 0 } : Room) s m [.ref a_0, .int x1].toArray below meth c H locs 0 0 QQ (F0 m 77 ls [.int j6]) := by
            intro H locs ls hl hP hD hS
            refine lv_istore (lv' := [(4, .int j6), (0, .ref a_0), (1, .int x1), (2, .long (l2_3 ||| v2)), (5, .int l5_5)]) hx hb dX10_isOut_77 hl (by decide) rfl (fun ls hl => ?_)
            obtain rfl := Option.some.inj hf
            exact hJ_6 _ _ _ (lv_sub hl [1, 2, 3, 0, 4] rfl) hP hD hS
          clear hf
          have hf := h_j6
          clear h_j6
          refine lv_if_ne (tgt := 72) hx hb dX10_isOut_38 (by decide) (fun cc => ?_) (fun cc => ?_)
          · replace hf := hf_pos cc hf
            refine lv_iconst (v := 1) hx hb dX10_isOut_72 (by decide) ?_
            refine lv_goto (tgt := 77) hx hb dX10_isOut_73 (by decide) ?_
            obtain rfl := Option.some.inj hf
            exact hJ_7 _ _ _ (lv_sub hl [1, 2, 0, 4] rfl) hP hD hS
          · replace hf := hf_neg (not_not_intro cc) hf
            refine lv_aload_n hx hb dX10_isOut_41 rfl (lv_at hl 1 rfl) ?_
            refine va_get (D := (dC, dI)) (ci := 10) (C := RX10) (T := TX10) (N := 26) hx hb hts hiX10 hown hK hP 0 rfl rfl 16 (by decide) (hts (.fieldLink RX10 48 "PaddockFieldsModel" "some" "[J") (List.mem_cons_of_mem _ (List.mem_append_left _ (List.mem_of_getElem? (i := 1) rfl)))) (fun _ h9 => h9) rfl dX10_isOut_42 ?_
            refine lv_iload hx hb dX10_isOut_45 (lv_at hl 4 rfl) ?_
            obtain ⟨v3, h_v3, hf⟩ := hf_bind hf
            refine wh_ldJ (D := (dC, dI)) hx hb hK hP 2 2 rfl rfl h_v3 dX10_isOut_47 ?_
            refine lv_lconst (v := 0) hx hb dX10_isOut_48 (by decide) ?_
            refine W.lcmp hx hb dX10_isOut_49 ?_
            refine lv_if_eq (tgt := 76) hx hb dX10_isOut_50 (by decide) (fun cc => ?_) (fun cc => ?_)
            · replace hf := hf_pos ((lg_cmp_eq _ _).mp cc) hf
              refine lv_iconst (v := 0) hx hb dX10_isOut_76 (by decide) ?_
              obtain rfl := Option.some.inj hf
              exact hJ_7 _ _ _ (lv_sub hl [1, 2, 0, 4] rfl) hP hD hS
            · replace hf := hf_neg (mt (lg_cmp_eq _ _).mpr cc) hf
              refine lv_aload_n hx hb dX10_isOut_53 rfl (lv_at hl 1 rfl) ?_
              refine va_get (D := (dC, dI)) (ci := 10) (C := RX10) (T := TX10) (N := 26) hx hb hts hiX10 hown hK hP 0 rfl rfl 15 (by decide) (hts (.fieldLink RX10 45 "PaddockFieldsModel" "all" "[J") (List.mem_cons_of_mem _ (List.mem_append_left _ (List.mem_of_getElem? (i := 2) rfl)))) (fun _ h9 => h9) rfl dX10_isOut_54 ?_
              refine lv_iload hx hb dX10_isOut_57 (lv_at hl 4 rfl) ?_
              obtain ⟨v4, h_v4, hf⟩ := hf_bind hf
              refine wh_ldJ (D := (dC, dI)) hx hb hK hP 3 2 rfl rfl h_v4 dX10_isOut_59 ?_
              refine lv_aload_n hx hb dX10_isOut_60 rfl (lv_at hl 1 rfl) ?_
              refine va_get (D := (dC, dI)) (ci := 10) (C := RX10) (T := TX10) (N := 26) hx hb hts hiX10 hown hK hP 0 rfl rfl 8 (by decide) (hts (.fieldLink RX10 26 "PaddockFieldsModel" "cells" "[J") (List.mem_cons_of_mem _ (List.mem_append_left _ (List.mem_of_getElem? (i := 3) rfl)))) (fun _ h9 => h9) rfl dX10_isOut_61 ?_
              refine lv_iload_n hx hb dX10_isOut_64 rfl (lv_at hl 2 rfl) ?_
              obtain ⟨v5, h_v5, hf⟩ := hf_bind hf
              refine wh_ldJ (D := (dC, dI)) hx hb hK hP 4 2 rfl rfl h_v5 dX10_isOut_65 ?_
              refine lv_land hx hb dX10_isOut_66 ?_
              refine lv_lconst (v := 0) hx hb dX10_isOut_67 (by decide) ?_
              refine W.lcmp hx hb dX10_isOut_68 ?_
              refine lv_if_eq (tgt := 76) hx hb dX10_isOut_69 (by decide) (fun cc => ?_) (fun cc => ?_)
              · replace hf := hf_pos ((lg_cmp_eq _ _).mp cc) hf
                refine lv_iconst (v := 0) hx hb dX10_isOut_76 (by decide) ?_
                obtain rfl := Option.some.inj hf
                exact hJ_7 _ _ _ (lv_sub hl [1, 2, 0, 4] rfl) hP hD hS
              · replace hf := hf_neg (mt (lg_cmp_eq _ _).mpr cc) hf
                refine lv_iconst (v := 1) hx hb dX10_isOut_72 (by decide) ?_
                refine lv_goto (tgt := 77) hx hb dX10_isOut_73 (by decide) ?_
                obtain rfl := Option.some.inj hf
                exact hJ_7 _ _ _ (lv_sub hl [1, 2, 0, 4] rfl) hP hD hS
  exact hL_2 _ _ _ _ h_r8 _ _ _ (lv_sub hl [3, 4, 2, 1, 0] rfl) hP hD hS
set_option maxHeartbeats 4000000 in
set_option maxRecDepth 100000 in
theorem c_fM_rules (l : Launch) (dC : Nat → ClassId) (dI : Nat → Nat → Nat) (cI cZ cJ cQ : ClassId) (a_0 a_0table a_0s a_0cells a_0owner a_0code a_0isOver a_0all a_0some a_0isRuled a_0before a_0slots a_0isKept a_0buffer a_0chosen a_0last a_0corner a_0wide a_0cuts a_0aside : Nat) (known_0 : Int32) (length_0 : Int32) (thrown_0 : Int32) (seed_0 : Int64) (hash_0 : Int64) (sz : Nat) {F : Nat} {many_0 : Int32} {table_0 : Nat → Int32} {s_0 : Nat → Int32} {cells_0 : Nat → Int64} {owner_0 : Nat → Int32} {code_0 : Nat → Int32} {isOver_0 : Nat → Int32} {round_0 : Int32} {all_0 : Nat → Int64} {some_0 : Nat → Int64} {isRuled_0 : Nat → Int32} {out : Int32 × (Nat → Int32) × (Nat → Int64) × (Nat → Int32) × (Nat → Int32) × (Nat → Int32) × Int32 × (Nat → Int64) × (Nat → Int64) × (Nat → Int32)} (hf : fM_rules F many_0 table_0 s_0 cells_0 owner_0 code_0 isOver_0 round_0 all_0 some_0 isRuled_0 = some out) : Met l yX10_rules wsX10_rules ({ frames := 3, cells := 0, slots := 0, locals := 87 } : Room) (va_Pc [.ref a_0] (wlP (dC, dI) (wlT cI cZ cJ cQ) (wl_fM_rules cI cZ cJ cQ a_0 a_0table a_0s a_0cells a_0owner a_0code a_0isOver a_0all a_0some a_0isRuled a_0before a_0slots a_0isKept a_0buffer a_0chosen a_0last a_0corner a_0wide a_0cuts a_0aside known_0 length_0 thrown_0 many_0 round_0 seed_0 hash_0 table_0 s_0 cells_0 owner_0 code_0 isOver_0 all_0 some_0 isRuled_0) sz)) (va_Qv (fun (_ : Unit) => True) (wlQ (dC, dI) (va_A (wl_fM_rules cI cZ cJ cQ a_0 a_0table a_0s a_0cells a_0owner a_0code a_0isOver a_0all a_0some a_0isRuled a_0before a_0slots a_0isKept a_0buffer a_0chosen a_0last a_0corner a_0wide a_0cuts a_0aside known_0 length_0 thrown_0 many_0 round_0 seed_0 hash_0 table_0 s_0 cells_0 owner_0 code_0 isOver_0 all_0 some_0 isRuled_0) sz) (wl_fM_rules cI cZ cJ cQ a_0 a_0table a_0s a_0cells a_0owner a_0code a_0isOver a_0all a_0some a_0isRuled a_0before a_0slots a_0isKept a_0buffer a_0chosen a_0last a_0corner a_0wide a_0cuts a_0aside known_0 length_0 thrown_0 out.1 out.2.2.2.2.2.2.1 seed_0 hash_0 out.2.1 s_0 out.2.2.1 out.2.2.2.1 out.2.2.2.2.1 out.2.2.2.2.2.1 out.2.2.2.2.2.2.2.1 out.2.2.2.2.2.2.2.2.1 out.2.2.2.2.2.2.2.2.2)) (va_A (wl_fM_rules cI cZ cJ cQ a_0 a_0table a_0s a_0cells a_0owner a_0code a_0isOver a_0all a_0some a_0isRuled a_0before a_0slots a_0isKept a_0buffer a_0chosen a_0last a_0corner a_0wide a_0cuts a_0aside known_0 length_0 thrown_0 many_0 round_0 seed_0 hash_0 table_0 s_0 cells_0 owner_0 code_0 isOver_0 all_0 some_0 isRuled_0) sz)) 0 0 (va_A (wl_fM_rules cI cZ cJ cQ a_0 a_0table a_0s a_0cells a_0owner a_0code a_0isOver a_0all a_0some a_0isRuled a_0before a_0slots a_0isKept a_0buffer a_0chosen a_0last a_0corner a_0wide a_0cuts a_0aside known_0 length_0 thrown_0 many_0 round_0 seed_0 hash_0 table_0 s_0 cells_0 owner_0 code_0 isOver_0 all_0 some_0 isRuled_0) sz) := by
  refine wh_ofWv (lv := [(0, .ref a_0)]) RX10 (by decide) rfl rfl (Nat.le_of_ble_eq_true rfl) rfl ?_
  intro p e s m below meth c A QQ hx hb hml hown hts hP hK hN hD hA hret ls hl
  have hS : va_S A s.heap s.heap [] := va_S.rf
  have hiX10 : ∀ w ∈ wsX100, w ∈ wsX10_rules := (fun _ h => List.mem_cons_of_mem _ (List.mem_append_right _ (h)))
  unfold fM_rules at hf
  refine lv_aload_n hx hb dX10_rules_0 rfl (lv_at hl 0 rfl) ?_
  obtain ⟨s1, h_s1, hf⟩ := hf_bind hf
  refine wh_callv (D := (dC, dI)) (ws' := (wl_fM_rules cI cZ cJ cQ a_0 a_0table a_0s a_0cells a_0owner a_0code a_0isOver a_0all a_0some a_0isRuled a_0before a_0slots a_0isKept a_0buffer a_0chosen a_0last a_0corner a_0wide a_0cuts a_0aside known_0 length_0 thrown_0 s1.1 round_0 seed_0 hash_0 s1.2.1 s_0 s1.2.2.1 s1.2.2.2.1 s1.2.2.2.2 isOver_0 all_0 some_0 isRuled_0)) (va_runV (As := []) (rest := []) ⟨hx, hb, hml, hown, hts⟩ (c_fM_finds l dC dI cI cZ cJ cQ a_0 a_0table a_0s a_0cells a_0owner a_0code a_0before a_0slots a_0isKept a_0buffer a_0isOver a_0isRuled a_0all a_0some a_0chosen a_0last a_0corner a_0wide a_0cuts a_0aside known_0 length_0 thrown_0 round_0 seed_0 hash_0 _ h_s1) (cwV 0 hts gX10_rules_X10_finds rfl rfl rfl (by decide +kernel) ⟨Nat.le_of_ble_eq_true rfl, Nat.le_of_ble_eq_true rfl⟩) (wh_preV (C := RX10) (T := TX10) (N := 26) hK hN hP hD [0, 1, 2, 3, 4, 5] rfl rfl 10 0 rfl rfl) rfl rfl hl.1 rfl (lv_room (Nat.le_of_ble_eq_true rfl)) dX10_rules_1 ⟨Nat.le_refl _, Nat.le_refl _⟩) hP hD hS hA [0, 1, 2, 3, 4, 5] [6, 7, 8, 9] [4, 5, 6, 7, 8, 9, 0, 1, 2, 3] rfl rfl rfl rfl (fun H locs hP hD hS => ?_)
  refine lv_iconst (v := 0) hx hb dX10_rules_4 (by decide) ?_
  refine lv_istore_n (lv' := [(1, .int (0 : Int32)), (0, .ref a_0)]) hx hb dX10_rules_5 rfl hl (by decide) rfl (fun ls hl => ?_)
  obtain ⟨r3, h_r3, hf⟩ := hf_bind hf
  have hE_1 : ∀ (H : Heap) (locs : List Loc) (ls : Array Slot), lv_has ls 3 [(0, .ref a_0)] → va_P (dC, dI) vwCl (wl_fM_rules cI cZ cJ cQ a_0 a_0table a_0s a_0cells a_0owner a_0code a_0isOver a_0all a_0some a_0isRuled a_0before a_0slots a_0isKept a_0buffer a_0chosen a_0last a_0corner a_0wide a_0cuts a_0aside known_0 length_0 thrown_0 s1.1 round_0 seed_0 hash_0 s1.2.1 s_0 s1.2.2.1 s1.2.2.2.1 s1.2.2.2.2 r3.2 all_0 some_0 isRuled_0) H → va_D A (wl_fM_rules cI cZ cJ cQ a_0 a_0table a_0s a_0cells a_0owner a_0code a_0isOver a_0all a_0some a_0isRuled a_0before a_0slots a_0isKept a_0buffer a_0chosen a_0last a_0corner a_0wide a_0cuts a_0aside known_0 length_0 thrown_0 s1.1 round_0 seed_0 hash_0 s1.2.1 s_0 s1.2.2.1 s1.2.2.2.1 s1.2.2.2.2 r3.2 all_0 some_0 isRuled_0) → va_S A s.heap H locs → W p l e ({ frames := 3, cells := 0, slots := 0, locals := 87 } : Room) s m [.ref a_0].toArray below meth c H locs 0 0 QQ (F0 m 27 ls []) := by
    intro H locs ls hl hP hD hS
    refine lv_aload_n hx hb dX10_rules_27 rfl (lv_at hl 0 rfl) ?_
    refine lv_iconst (v := 0) hx hb dX10_rules_28 (by decide) ?_
    refine wh_put (D := (dC, dI)) (ci := 10) (C := RX10) (T := TX10) (N := 26) (ty := .int) (v := .int (0 : Int32)) (ws' := (wl_fM_rules cI cZ cJ cQ a_0 a_0table a_0s a_0cells a_0owner a_0code a_0isOver a_0all a_0some a_0isRuled a_0before a_0slots a_0isKept a_0buffer a_0chosen a_0last a_0corner a_0wide a_0cuts a_0aside known_0 length_0 thrown_0 s1.1 (0 : Int32) seed_0 hash_0 s1.2.1 s_0 s1.2.2.1 s1.2.2.2.1 s1.2.2.2.2 r3.2 all_0 some_0 isRuled_0)) hx hb hts hiX10 tyX10 tyX10_ok nmX10 hown hK hP hD hS 0 rfl rfl 17 (by decide) (hts (.fieldLink RX10 116 "PaddockFieldsModel" "round" "I") (List.mem_cons_of_mem _ (List.mem_append_left _ (List.mem_append_left _ (List.mem_of_getElem? (i := 2) rfl))))) (fun _ h9 => h9) rfl rfl rfl rfl (Nat.le_of_ble_eq_true rfl) rfl dX10_rules_29 (fun H locs hP hD hS => ?_)
    refine lv_iconst (v := 1) hx hb dX10_rules_32 (by decide) ?_
    refine lv_istore_n (lv' := [(1, .int (1 : Int32)), (0, .ref a_0)]) hx hb dX10_rules_33 rfl hl (by decide) rfl (fun ls hl => ?_)
    obtain ⟨r18, h_r18, hf⟩ := hf_bind hf
    have hE_2 : ∀ (H : Heap) (locs : List Loc) (ls : Array Slot), lv_has ls 3 [] → va_P (dC, dI) vwCl (wl_fM_rules cI cZ cJ cQ a_0 a_0table a_0s a_0cells a_0owner a_0code a_0isOver a_0all a_0some a_0isRuled a_0before a_0slots a_0isKept a_0buffer a_0chosen a_0last a_0corner a_0wide a_0cuts a_0aside known_0 length_0 thrown_0 s1.1 r18.2.2.2.2.2 seed_0 hash_0 s1.2.1 s_0 s1.2.2.1 s1.2.2.2.1 s1.2.2.2.2 r18.2.2.2.1 r18.2.1 r18.2.2.1 r18.2.2.2.2.1) H → va_D A (wl_fM_rules cI cZ cJ cQ a_0 a_0table a_0s a_0cells a_0owner a_0code a_0isOver a_0all a_0some a_0isRuled a_0before a_0slots a_0isKept a_0buffer a_0chosen a_0last a_0corner a_0wide a_0cuts a_0aside known_0 length_0 thrown_0 s1.1 r18.2.2.2.2.2 seed_0 hash_0 s1.2.1 s_0 s1.2.2.1 s1.2.2.2.1 s1.2.2.2.2 r18.2.2.2.1 r18.2.1 r18.2.2.1 r18.2.2.2.2.1) → va_S A s.heap H locs → W p l e ({ frames := 3, cells := 0, slots := 0, locals := 87 } : Room) s m [.ref a_0].toArray below meth c H locs 0 0 QQ (F0 m 173 ls []) := by
      intro H locs ls hl hP hD hS
      obtain rfl := Option.some.inj hf
      exact hret _ _ _ _ hP hD hS dX10_rules_173
    have hL_3 : ∀ (N : Nat) (l1_4 : Int32) (all_0_5 : Nat → Int64) (some_0_6 : Nat → Int64) (isOver_0_7 : Nat → Int32) (isRuled_0_8 : Nat → Int32) (round_0_9 : Int32), fM_rules_L34 F s1.1 s1.2.2.1 s1.2.2.2.1 N l1_4 all_0_5 some_0_6 isOver_0_7 isRuled_0_8 round_0_9 = some r18 → ∀ (H : Heap) (locs : List Loc) (ls : Array Slot), lv_has ls 3 [(0, .ref a_0), (1, .int l1_4)] → va_P (dC, dI) vwCl (wl_fM_rules cI cZ cJ cQ a_0 a_0table a_0s a_0cells a_0owner a_0code a_0isOver a_0all a_0some a_0isRuled a_0before a_0slots a_0isKept a_0buffer a_0chosen a_0last a_0corner a_0wide a_0cuts a_0aside known_0 length_0 thrown_0 s1.1 round_0_9 seed_0 hash_0 s1.2.1 s_0 s1.2.2.1 s1.2.2.2.1 s1.2.2.2.2 isOver_0_7 all_0_5 some_0_6 isRuled_0_8) H → va_D A (wl_fM_rules cI cZ cJ cQ a_0 a_0table a_0s a_0cells a_0owner a_0code a_0isOver a_0all a_0some a_0isRuled a_0before a_0slots a_0isKept a_0buffer a_0chosen a_0last a_0corner a_0wide a_0cuts a_0aside known_0 length_0 thrown_0 s1.1 round_0_9 seed_0 hash_0 s1.2.1 s_0 s1.2.2.1 s1.2.2.2.1 s1.2.2.2.2 isOver_0_7 all_0_5 some_0_6 isRuled_0_8) → va_S A s.heap H locs → W p l e ({ frames := 3, cells := 0, slots := 0, locals := 87 } : Room) s m [.ref a_0].toArray below meth c H locs 0 0 QQ (F0 m 34 ls []) := by
      intro N
      induction N with
      | zero => intro l1_4 all_0_5 some_0_6 isOver_0_7 isRuled_0_8 round_0_9 hf; exact nomatch (show none = some _ from hf)
      | succ N ih =>
        intro l1_4 all_0_5 some_0_6 isOver_0_7 isRuled_0_8 round_0_9 hf H locs ls hl hP hD hS
        rw [fM_rules_L34] at hf
        refine lv_iload_n hx hb dX10_rules_34 rfl (lv_at hl 1 rfl) ?_
        refine lv_if_eq (tgt := 173) hx hb dX10_rules_35 (by decide) (fun cc => ?_) (fun cc => ?_)
        · replace hf := hf_pos cc hf
          obtain rfl := Option.some.inj hf
          exact hE_2 _ _ _ (lv_sub hl [] rfl) hP hD hS
        · replace hf := hf_neg cc hf
          refine lv_aload_n hx hb dX10_rules_38 rfl (lv_at hl 0 rfl) ?_
          obtain ⟨s4, h_s4, hf⟩ := hf_bind hf
          refine wh_callv (D := (dC, dI)) (ws' := (wl_fM_rules cI cZ cJ cQ a_0 a_0table a_0s a_0cells a_0owner a_0code a_0isOver a_0all a_0some a_0isRuled a_0before a_0slots a_0isKept a_0buffer a_0chosen a_0last a_0corner a_0wide a_0cuts a_0aside known_0 length_0 thrown_0 s1.1 round_0_9 seed_0 hash_0 s1.2.1 s_0 s1.2.2.1 s1.2.2.2.1 s1.2.2.2.2 isOver_0_7 s4.1 s4.2 isRuled_0_8)) (va_runV (As := []) (rest := []) ⟨hx, hb, hml, hown, hts⟩ (c_fM_tellsNumbers l dC dI cI cZ cJ cQ a_0 a_0all a_0some a_0isOver a_0owner a_0cells a_0s a_0before a_0slots a_0isKept a_0buffer a_0code a_0table a_0isRuled a_0chosen a_0last a_0corner a_0wide a_0cuts a_0aside known_0 length_0 thrown_0 round_0_9 seed_0 hash_0 _ h_s4) (cwV 0 hts gX10_rules_X10_tellsNumbers rfl rfl rfl (by decide +kernel) ⟨Nat.le_of_ble_eq_true rfl, Nat.le_of_ble_eq_true rfl⟩) (wh_preV (C := RX10) (T := TX10) (N := 26) hK hN hP hD [0, 7, 8, 6, 4, 3] rfl rfl 10 0 rfl rfl) rfl rfl hl.1 rfl (lv_room (Nat.le_of_ble_eq_true rfl)) dX10_rules_39 ⟨Nat.le_refl _, Nat.le_refl _⟩) hP hD hS hA [0, 7, 8, 6, 4, 3] [1, 2, 5, 9] [4, 0, 1, 9, 8, 2, 7, 5, 6, 3] rfl rfl rfl rfl (fun H locs hP hD hS => ?_)
          refine lv_iconst (v := 0) hx hb dX10_rules_42 (by decide) ?_
          refine lv_istore_n (lv' := [(1, .int (0 : Int32)), (0, .ref a_0)]) hx hb dX10_rules_43 rfl hl (by decide) rfl (fun ls hl => ?_)
          refine lv_iconst (v := 0) hx hb dX10_rules_44 (by decide) ?_
          refine lv_istore_n (lv' := [(2, .int (0 : Int32)), (1, .int (0 : Int32)), (0, .ref a_0)]) hx hb dX10_rules_45 rfl hl (by decide) rfl (fun ls hl => ?_)
          obtain ⟨r11, h_r11, hf⟩ := hf_bind hf
          have hE_10 : ∀ (H : Heap) (locs : List Loc) (ls : Array Slot), lv_has ls 3 [(0, .ref a_0), (1, .int r11.1)] → va_P (dC, dI) vwCl (wl_fM_rules cI cZ cJ cQ a_0 a_0table a_0s a_0cells a_0owner a_0code a_0isOver a_0all a_0some a_0isRuled a_0before a_0slots a_0isKept a_0buffer a_0chosen a_0last a_0corner a_0wide a_0cuts a_0aside known_0 length_0 thrown_0 s1.1 round_0_9 seed_0 hash_0 s1.2.1 s_0 s1.2.2.1 s1.2.2.2.1 s1.2.2.2.2 isOver_0_7 s4.1 s4.2 r11.2.2) H → va_D A (wl_fM_rules cI cZ cJ cQ a_0 a_0table a_0s a_0cells a_0owner a_0code a_0isOver a_0all a_0some a_0isRuled a_0before a_0slots a_0isKept a_0buffer a_0chosen a_0last a_0corner a_0wide a_0cuts a_0aside known_0 length_0 thrown_0 s1.1 round_0_9 seed_0 hash_0 s1.2.1 s_0 s1.2.2.1 s1.2.2.2.1 s1.2.2.2.2 isOver_0_7 s4.1 s4.2 r11.2.2) → va_S A s.heap H locs → W p l e ({ frames := 3, cells := 0, slots := 0, locals := 87 } : Room) s m [.ref a_0].toArray below meth c H locs 0 0 QQ (F0 m 107 ls []) := by
            intro H locs ls hl hP hD hS
            refine lv_iconst (v := 0) hx hb dX10_rules_107 (by decide) ?_
            refine lv_istore_n (lv' := [(2, .int (0 : Int32)), (0, .ref a_0), (1, .int r11.1)]) hx hb dX10_rules_108 rfl hl (by decide) rfl (fun ls hl => ?_)
            obtain ⟨r16, h_r16, hf⟩ := hf_bind hf
            have hE_11 : ∀ (H : Heap) (locs : List Loc) (ls : Array Slot), lv_has ls 3 [(0, .ref a_0), (1, .int r11.1)] → va_P (dC, dI) vwCl (wl_fM_rules cI cZ cJ cQ a_0 a_0table a_0s a_0cells a_0owner a_0code a_0isOver a_0all a_0some a_0isRuled a_0before a_0slots a_0isKept a_0buffer a_0chosen a_0last a_0corner a_0wide a_0cuts a_0aside known_0 length_0 thrown_0 s1.1 round_0_9 seed_0 hash_0 s1.2.1 s_0 s1.2.2.1 s1.2.2.2.1 s1.2.2.2.2 r16.2 s4.1 s4.2 r11.2.2) H → va_D A (wl_fM_rules cI cZ cJ cQ a_0 a_0table a_0s a_0cells a_0owner a_0code a_0isOver a_0all a_0some a_0isRuled a_0before a_0slots a_0isKept a_0buffer a_0chosen a_0last a_0corner a_0wide a_0cuts a_0aside known_0 length_0 thrown_0 s1.1 round_0_9 seed_0 hash_0 s1.2.1 s_0 s1.2.2.1 s1.2.2.2.1 s1.2.2.2.2 r16.2 s4.1 s4.2 r11.2.2) → va_S A s.heap H locs → W p l e ({ frames := 3, cells := 0, slots := 0, locals := 87 } : Room) s m [.ref a_0].toArray below meth c H locs 0 0 QQ (F0 m 152 ls []) := by
              intro H locs ls hl hP hD hS
              refine lv_aload_n hx hb dX10_rules_152 rfl (lv_at hl 0 rfl) ?_
              refine lv_dup hx hb dX10_rules_153 rfl ?_
              refine va_get (D := (dC, dI)) (ci := 10) (C := RX10) (T := TX10) (N := 26) hx hb hts hiX10 hown hK hP 0 rfl rfl 17 (by decide) (hts (.fieldLink RX10 116 "PaddockFieldsModel" "round" "I") (List.mem_cons_of_mem _ (List.mem_append_left _ (List.mem_append_left _ (List.mem_of_getElem? (i := 2) rfl))))) (fun _ h9 => h9) rfl dX10_rules_154 ?_
              refine lv_iload_n hx hb dX10_rules_157 rfl (lv_at hl 1 rfl) ?_
              obtain ⟨j17, h_j17, hf⟩ := hf_bind hf
              have hJ_12 : ∀ (H : Heap) (locs : List Loc) (ls : Array Slot), lv_has ls 3 [(0, .ref a_0), (1, .int r11.1)] → va_P (dC, dI) vwCl (wl_fM_rules cI cZ cJ cQ a_0 a_0table a_0s a_0cells a_0owner a_0code a_0isOver a_0all a_0some a_0isRuled a_0before a_0slots a_0isKept a_0buffer a_0chosen a_0last a_0corner a_0wide a_0cuts a_0aside known_0 length_0 thrown_0 s1.1 round_0_9 seed_0 hash_0 s1.2.1 s_0 s1.2.2.1 s1.2.2.2.1 s1.2.2.2.2 r16.2 s4.1 s4.2 r11.2.2) H → va_D A (wl_fM_rules cI cZ cJ cQ a_0 a_0table a_0s a_0cells a_0owner a_0code a_0isOver a_0all a_0some a_0isRuled a_0before a_0slots a_0isKept a_0buffer a_0chosen a_0last a_0corner a_0wide a_0cuts a_0aside known_0 length_0 thrown_0 s1.1 round_0_9 seed_0 hash_0 s1.2.1 s_0 s1.2.2.1 s1.2.2.2.1 s1.2.2.2.2 r16.2 s4.1 s4.2 r11.2.2) → va_S A s.heap H locs → W p l e ({ frames := 3, cells := 0, slots := 0, locals := 87 } : Room) s m [.ref a_0].toArray below meth c H locs 0 0 QQ (F0 m 166 ls [.int j17, .int round_0_9, .ref a_0]) := by
                intro H locs ls hl hP hD hS
                refine lv_iadd hx hb dX10_rules_166 ?_
                refine wh_put (D := (dC, dI)) (ci := 10) (C := RX10) (T := TX10) (N := 26) (ty := .int) (v := .int (round_0_9 + j17)) (ws' := (wl_fM_rules cI cZ cJ cQ a_0 a_0table a_0s a_0cells a_0owner a_0code a_0isOver a_0all a_0some a_0isRuled a_0before a_0slots a_0isKept a_0buffer a_0chosen a_0last a_0corner a_0wide a_0cuts a_0aside known_0 length_0 thrown_0 s1.1 (round_0_9 + j17) seed_0 hash_0 s1.2.1 s_0 s1.2.2.1 s1.2.2.2.1 s1.2.2.2.2 r16.2 s4.1 s4.2 r11.2.2)) hx hb hts hiX10 tyX10 tyX10_ok nmX10 hown hK hP hD hS 0 rfl rfl 17 (by decide) (hts (.fieldLink RX10 116 "PaddockFieldsModel" "round" "I") (List.mem_cons_of_mem _ (List.mem_append_left _ (List.mem_append_left _ (List.mem_of_getElem? (i := 2) rfl))))) (fun _ h9 => h9) rfl rfl rfl rfl (Nat.le_of_ble_eq_true rfl) rfl dX10_rules_167 (fun H locs hP hD hS => ?_)
                refine lv_goto (tgt := 34) hx hb dX10_rules_170 (by decide) ?_
                exact ih _ _ _ _ _ _ hf _ _ _ (lv_sub hl [0, 1] rfl) hP hD hS
              clear hf
              have hf := h_j17
              clear h_j17
              refine lv_if_eq (tgt := 165) hx hb dX10_rules_158 (by decide) (fun cc => ?_) (fun cc => ?_)
              · replace hf := hf_pos cc hf
                refine lv_iconst (v := 0) hx hb dX10_rules_165 (by decide) ?_
                obtain rfl := Option.some.inj hf
                exact hJ_12 _ _ _ (lv_sub hl [0, 1] rfl) hP hD hS
              · replace hf := hf_neg cc hf
                refine lv_iconst (v := 1) hx hb dX10_rules_161 (by decide) ?_
                refine lv_goto (tgt := 166) hx hb dX10_rules_162 (by decide) ?_
                obtain rfl := Option.some.inj hf
                exact hJ_12 _ _ _ (lv_sub hl [0, 1] rfl) hP hD hS
            have hL_13 : ∀ (N : Nat) (l2_14 : Int32) (isOver_0_15 : Nat → Int32), fM_rules_L109 F s1.1 r11.2.2 N l2_14 isOver_0_15 = some r16 → ∀ (H : Heap) (locs : List Loc) (ls : Array Slot), lv_has ls 3 [(0, .ref a_0), (1, .int r11.1), (2, .int l2_14)] → va_P (dC, dI) vwCl (wl_fM_rules cI cZ cJ cQ a_0 a_0table a_0s a_0cells a_0owner a_0code a_0isOver a_0all a_0some a_0isRuled a_0before a_0slots a_0isKept a_0buffer a_0chosen a_0last a_0corner a_0wide a_0cuts a_0aside known_0 length_0 thrown_0 s1.1 round_0_9 seed_0 hash_0 s1.2.1 s_0 s1.2.2.1 s1.2.2.2.1 s1.2.2.2.2 isOver_0_15 s4.1 s4.2 r11.2.2) H → va_D A (wl_fM_rules cI cZ cJ cQ a_0 a_0table a_0s a_0cells a_0owner a_0code a_0isOver a_0all a_0some a_0isRuled a_0before a_0slots a_0isKept a_0buffer a_0chosen a_0last a_0corner a_0wide a_0cuts a_0aside known_0 length_0 thrown_0 s1.1 round_0_9 seed_0 hash_0 s1.2.1 s_0 s1.2.2.1 s1.2.2.2.1 s1.2.2.2.2 isOver_0_15 s4.1 s4.2 r11.2.2) → va_S A s.heap H locs → W p l e ({ frames := 3, cells := 0, slots := 0, locals := 87 } : Room) s m [.ref a_0].toArray below meth c H locs 0 0 QQ (F0 m 109 ls []) := by
              intro N
              induction N with
              | zero => intro l2_14 isOver_0_15 hf; exact nomatch (show none = some _ from hf)
              | succ N ih =>
                intro l2_14 isOver_0_15 hf H locs ls hl hP hD hS
                rw [fM_rules_L109] at hf
                refine lv_iload_n hx hb dX10_rules_109 rfl (lv_at hl 2 rfl) ?_
                refine lv_aload_n hx hb dX10_rules_110 rfl (lv_at hl 0 rfl) ?_
                refine va_get (D := (dC, dI)) (ci := 10) (C := RX10) (T := TX10) (N := 26) hx hb hts hiX10 hown hK hP 0 rfl rfl 11 (by decide) (hts (.fieldLink RX10 102 "PaddockFieldsModel" "many" "I") (List.mem_cons_of_mem _ (List.mem_append_left _ (List.mem_append_left _ (List.mem_of_getElem? (i := 0) rfl))))) (fun _ h9 => h9) rfl dX10_rules_111 ?_
                refine lv_icmp_ge (tgt := 152) hx hb dX10_rules_114 (by decide) (fun cc => ?_) (fun cc => ?_)
                · replace hf := hf_pos cc hf
                  obtain rfl := Option.some.inj hf
                  exact hE_11 _ _ _ (lv_sub hl [0, 1] rfl) hP hD hS
                · replace hf := hf_neg cc hf
                  refine lv_aload_n hx hb dX10_rules_117 rfl (lv_at hl 0 rfl) ?_
                  refine va_get (D := (dC, dI)) (ci := 10) (C := RX10) (T := TX10) (N := 26) hx hb hts hiX10 hown hK hP 0 rfl rfl 13 (by decide) (hts (.fieldLink RX10 39 "PaddockFieldsModel" "isOver" "[Z") (List.mem_cons_of_mem _ (List.mem_append_left _ (List.mem_append_left _ (List.mem_of_getElem? (i := 1) rfl))))) (fun _ h9 => h9) rfl dX10_rules_118 ?_
                  refine lv_iload_n hx hb dX10_rules_121 rfl (lv_at hl 2 rfl) ?_
                  refine lv_aload_n hx hb dX10_rules_122 rfl (lv_at hl 0 rfl) ?_
                  refine va_get (D := (dC, dI)) (ci := 10) (C := RX10) (T := TX10) (N := 26) hx hb hts hiX10 hown hK hP 0 rfl rfl 13 (by decide) (hts (.fieldLink RX10 39 "PaddockFieldsModel" "isOver" "[Z") (List.mem_cons_of_mem _ (List.mem_append_left _ (List.mem_append_left _ (List.mem_of_getElem? (i := 1) rfl))))) (fun _ h9 => h9) rfl dX10_rules_123 ?_
                  refine lv_iload_n hx hb dX10_rules_126 rfl (lv_at hl 2 rfl) ?_
                  obtain ⟨v12, h_v12, hf⟩ := hf_bind hf
                  refine wh_ldZ (D := (dC, dI)) hx hb hK hP 6 1 rfl rfl h_v12 dX10_rules_127 ?_
                  obtain ⟨j14, h_j14, hf⟩ := hf_bind hf
                  have hJ_16 : ∀ (H : Heap) (locs : List Loc) (ls : Array Slot), lv_has ls 3 [(0, .ref a_0), (1, .int r11.1), (2, .int l2_14)] → va_P (dC, dI) vwCl (wl_fM_rules cI cZ cJ cQ a_0 a_0table a_0s a_0cells a_0owner a_0code a_0isOver a_0all a_0some a_0isRuled a_0before a_0slots a_0isKept a_0buffer a_0chosen a_0last a_0corner a_0wide a_0cuts a_0aside known_0 length_0 thrown_0 s1.1 round_0_9 seed_0 hash_0 s1.2.1 s_0 s1.2.2.1 s1.2.2.2.1 s1.2.2.2.2 isOver_0_15 s4.1 s4.2 r11.2.2) H → va_D A (wl_fM_rules cI cZ cJ cQ a_0 a_0table a_0s a_0cells a_0owner a_0code a_0isOver a_0all a_0some a_0isRuled a_0before a_0slots a_0isKept a_0buffer a_0chosen a_0last a_0corner a_0wide a_0cuts a_0aside known_0 length_0 thrown_0 s1.1 round_0_9 seed_0 hash_0 s1.2.1 s_0 s1.2.2.1 s1.2.2.2.1 s1.2.2.2.2 isOver_0_15 s4.1 s4.2 r11.2.2) → va_S A s.heap H locs → W p l e ({ frames := 3, cells := 0, slots := 0, locals := 87 } : Room) s m [.ref a_0].toArray below meth c H locs 0 0 QQ (F0 m 145 ls [.int j14, .int l2_14, .ref a_0isOver]) := by
                    intro H locs ls hl hP hD hS
                    obtain ⟨w15, h_w15, hf⟩ := hf_bind hf
                    refine wh_stZ (D := (dC, dI)) (ws' := (wl_fM_rules cI cZ cJ cQ a_0 a_0table a_0s a_0cells a_0owner a_0code a_0isOver a_0all a_0some a_0isRuled a_0before a_0slots a_0isKept a_0buffer a_0chosen a_0last a_0corner a_0wide a_0cuts a_0aside known_0 length_0 thrown_0 s1.1 round_0_9 seed_0 hash_0 s1.2.1 s_0 s1.2.2.1 s1.2.2.2.1 s1.2.2.2.2 w15 s4.1 s4.2 r11.2.2)) hx hb hK hP hD hS 6 1 rfl rfl rfl h_w15 dX10_rules_145 (fun H locs hP hD hS => ?_)
                    refine lv_iinc (v := (l2_14 + (1 : Int32))) (lv' := [(2, .int (l2_14 + (1 : Int32))), (0, .ref a_0), (1, .int r11.1)]) hx hb dX10_rules_146 hl (k := 2) rfl rfl (by decide) rfl (fun ls hl => ?_)
                    refine lv_goto (tgt := 109) hx hb dX10_rules_149 (by decide) ?_
                    exact ih _ _ hf _ _ _ (lv_sub hl [1, 2, 0] rfl) hP hD hS
                  clear hf
                  have hf := h_j14
                  clear h_j14
                  refine lv_if_ne (tgt := 140) hx hb dX10_rules_128 (by decide) (fun cc => ?_) (fun cc => ?_)
                  · replace hf := hf_pos cc hf
                    refine lv_iconst (v := 1) hx hb dX10_rules_140 (by decide) ?_
                    refine lv_goto (tgt := 145) hx hb dX10_rules_141 (by decide) ?_
                    obtain rfl := Option.some.inj hf
                    exact hJ_16 _ _ _ (lv_sub hl [0, 1, 2] rfl) hP hD hS
                  · replace hf := hf_neg (not_not_intro cc) hf
                    refine lv_aload_n hx hb dX10_rules_131 rfl (lv_at hl 0 rfl) ?_
                    refine va_get (D := (dC, dI)) (ci := 10) (C := RX10) (T := TX10) (N := 26) hx hb hts hiX10 hown hK hP 0 rfl rfl 14 (by decide) (hts (.fieldLink RX10 42 "PaddockFieldsModel" "isRuled" "[Z") (List.mem_cons_of_mem _ (List.mem_append_left _ (List.mem_append_left _ (List.mem_of_getElem? (i := 3) rfl))))) (fun _ h9 => h9) rfl dX10_rules_132 ?_
                    refine lv_iload_n hx hb dX10_rules_135 rfl (lv_at hl 2 rfl) ?_
                    obtain ⟨v13, h_v13, hf⟩ := hf_bind hf
                    refine wh_ldZ (D := (dC, dI)) hx hb hK hP 9 1 rfl rfl h_v13 dX10_rules_136 ?_
                    refine lv_if_eq (tgt := 144) hx hb dX10_rules_137 (by decide) (fun cc => ?_) (fun cc => ?_)
                    · replace hf := hf_pos cc hf
                      refine lv_iconst (v := 0) hx hb dX10_rules_144 (by decide) ?_
                      obtain rfl := Option.some.inj hf
                      exact hJ_16 _ _ _ (lv_sub hl [0, 1, 2] rfl) hP hD hS
                    · replace hf := hf_neg cc hf
                      refine lv_iconst (v := 1) hx hb dX10_rules_140 (by decide) ?_
                      refine lv_goto (tgt := 145) hx hb dX10_rules_141 (by decide) ?_
                      obtain rfl := Option.some.inj hf
                      exact hJ_16 _ _ _ (lv_sub hl [0, 1, 2] rfl) hP hD hS
            exact hL_13 _ _ _ h_r16 _ _ _ (lv_sub hl [1, 2, 0] rfl) hP hD hS
          have hL_17 : ∀ (N : Nat) (l1_18 : Int32) (l2_19 : Int32) (isRuled_0_20 : Nat → Int32), fM_rules_L46 F s1.1 s1.2.2.1 s1.2.2.2.1 isOver_0_7 s4.1 s4.2 N l1_18 l2_19 isRuled_0_20 = some r11 → ∀ (H : Heap) (locs : List Loc) (ls : Array Slot), lv_has ls 3 [(0, .ref a_0), (1, .int l1_18), (2, .int l2_19)] → va_P (dC, dI) vwCl (wl_fM_rules cI cZ cJ cQ a_0 a_0table a_0s a_0cells a_0owner a_0code a_0isOver a_0all a_0some a_0isRuled a_0before a_0slots a_0isKept a_0buffer a_0chosen a_0last a_0corner a_0wide a_0cuts a_0aside known_0 length_0 thrown_0 s1.1 round_0_9 seed_0 hash_0 s1.2.1 s_0 s1.2.2.1 s1.2.2.2.1 s1.2.2.2.2 isOver_0_7 s4.1 s4.2 isRuled_0_20) H → va_D A (wl_fM_rules cI cZ cJ cQ a_0 a_0table a_0s a_0cells a_0owner a_0code a_0isOver a_0all a_0some a_0isRuled a_0before a_0slots a_0isKept a_0buffer a_0chosen a_0last a_0corner a_0wide a_0cuts a_0aside known_0 length_0 thrown_0 s1.1 round_0_9 seed_0 hash_0 s1.2.1 s_0 s1.2.2.1 s1.2.2.2.1 s1.2.2.2.2 isOver_0_7 s4.1 s4.2 isRuled_0_20) → va_S A s.heap H locs → W p l e ({ frames := 3, cells := 0, slots := 0, locals := 87 } : Room) s m [.ref a_0].toArray below meth c H locs 0 0 QQ (F0 m 46 ls []) := by
            intro N
            induction N with
            | zero => intro l1_18 l2_19 isRuled_0_20 hf; exact nomatch (show none = some _ from hf)
            | succ N ih =>
              intro l1_18 l2_19 isRuled_0_20 hf H locs ls hl hP hD hS
              rw [fM_rules_L46] at hf
              refine lv_iload_n hx hb dX10_rules_46 rfl (lv_at hl 2 rfl) ?_
              refine lv_aload_n hx hb dX10_rules_47 rfl (lv_at hl 0 rfl) ?_
              refine va_get (D := (dC, dI)) (ci := 10) (C := RX10) (T := TX10) (N := 26) hx hb hts hiX10 hown hK hP 0 rfl rfl 11 (by decide) (hts (.fieldLink RX10 102 "PaddockFieldsModel" "many" "I") (List.mem_cons_of_mem _ (List.mem_append_left _ (List.mem_append_left _ (List.mem_of_getElem? (i := 0) rfl))))) (fun _ h9 => h9) rfl dX10_rules_48 ?_
              refine lv_icmp_ge (tgt := 107) hx hb dX10_rules_51 (by decide) (fun cc => ?_) (fun cc => ?_)
              · replace hf := hf_pos cc hf
                obtain rfl := Option.some.inj hf
                exact hE_10 _ _ _ (lv_sub hl [0, 1] rfl) hP hD hS
              · replace hf := hf_neg cc hf
                refine lv_aload_n hx hb dX10_rules_54 rfl (lv_at hl 0 rfl) ?_
                refine va_get (D := (dC, dI)) (ci := 10) (C := RX10) (T := TX10) (N := 26) hx hb hts hiX10 hown hK hP 0 rfl rfl 14 (by decide) (hts (.fieldLink RX10 42 "PaddockFieldsModel" "isRuled" "[Z") (List.mem_cons_of_mem _ (List.mem_append_left _ (List.mem_append_left _ (List.mem_of_getElem? (i := 3) rfl))))) (fun _ h9 => h9) rfl dX10_rules_55 ?_
                refine lv_iload_n hx hb dX10_rules_58 rfl (lv_at hl 2 rfl) ?_
                refine lv_aload_n hx hb dX10_rules_59 rfl (lv_at hl 0 rfl) ?_
                refine va_get (D := (dC, dI)) (ci := 10) (C := RX10) (T := TX10) (N := 26) hx hb hts hiX10 hown hK hP 0 rfl rfl 13 (by decide) (hts (.fieldLink RX10 39 "PaddockFieldsModel" "isOver" "[Z") (List.mem_cons_of_mem _ (List.mem_append_left _ (List.mem_append_left _ (List.mem_of_getElem? (i := 1) rfl))))) (fun _ h9 => h9) rfl dX10_rules_60 ?_
                refine lv_iload_n hx hb dX10_rules_63 rfl (lv_at hl 2 rfl) ?_
                obtain ⟨v5, h_v5, hf⟩ := hf_bind hf
                refine wh_ldZ (D := (dC, dI)) hx hb hK hP 6 1 rfl rfl h_v5 dX10_rules_64 ?_
                obtain ⟨j7, h_j7, hf⟩ := hf_bind hf
                have hJ_21 : ∀ (H : Heap) (locs : List Loc) (ls : Array Slot), lv_has ls 3 [(0, .ref a_0), (1, .int l1_18), (2, .int l2_19)] → va_P (dC, dI) vwCl (wl_fM_rules cI cZ cJ cQ a_0 a_0table a_0s a_0cells a_0owner a_0code a_0isOver a_0all a_0some a_0isRuled a_0before a_0slots a_0isKept a_0buffer a_0chosen a_0last a_0corner a_0wide a_0cuts a_0aside known_0 length_0 thrown_0 s1.1 round_0_9 seed_0 hash_0 s1.2.1 s_0 s1.2.2.1 s1.2.2.2.1 s1.2.2.2.2 isOver_0_7 s4.1 s4.2 isRuled_0_20) H → va_D A (wl_fM_rules cI cZ cJ cQ a_0 a_0table a_0s a_0cells a_0owner a_0code a_0isOver a_0all a_0some a_0isRuled a_0before a_0slots a_0isKept a_0buffer a_0chosen a_0last a_0corner a_0wide a_0cuts a_0aside known_0 length_0 thrown_0 s1.1 round_0_9 seed_0 hash_0 s1.2.1 s_0 s1.2.2.1 s1.2.2.2.1 s1.2.2.2.2 isOver_0_7 s4.1 s4.2 isRuled_0_20) → va_S A s.heap H locs → W p l e ({ frames := 3, cells := 0, slots := 0, locals := 87 } : Room) s m [.ref a_0].toArray below meth c H locs 0 0 QQ (F0 m 81 ls [.int j7, .int l2_19, .ref a_0isRuled]) := by
                  intro H locs ls hl hP hD hS
                  obtain ⟨w8, h_w8, hf⟩ := hf_bind hf
                  refine wh_stZ (D := (dC, dI)) (ws' := (wl_fM_rules cI cZ cJ cQ a_0 a_0table a_0s a_0cells a_0owner a_0code a_0isOver a_0all a_0some a_0isRuled a_0before a_0slots a_0isKept a_0buffer a_0chosen a_0last a_0corner a_0wide a_0cuts a_0aside known_0 length_0 thrown_0 s1.1 round_0_9 seed_0 hash_0 s1.2.1 s_0 s1.2.2.1 s1.2.2.2.1 s1.2.2.2.2 isOver_0_7 s4.1 s4.2 w8)) hx hb hK hP hD hS 9 1 rfl rfl rfl h_w8 dX10_rules_81 (fun H locs hP hD hS => ?_)
                  refine lv_iload_n hx hb dX10_rules_82 rfl (lv_at hl 1 rfl) ?_
                  obtain ⟨j10, h_j10, hf⟩ := hf_bind hf
                  have hJ_22 : ∀ (H : Heap) (locs : List Loc) (ls : Array Slot), lv_has ls 3 [(0, .ref a_0), (2, .int l2_19)] → va_P (dC, dI) vwCl (wl_fM_rules cI cZ cJ cQ a_0 a_0table a_0s a_0cells a_0owner a_0code a_0isOver a_0all a_0some a_0isRuled a_0before a_0slots a_0isKept a_0buffer a_0chosen a_0last a_0corner a_0wide a_0cuts a_0aside known_0 length_0 thrown_0 s1.1 round_0_9 seed_0 hash_0 s1.2.1 s_0 s1.2.2.1 s1.2.2.2.1 s1.2.2.2.2 isOver_0_7 s4.1 s4.2 w8) H → va_D A (wl_fM_rules cI cZ cJ cQ a_0 a_0table a_0s a_0cells a_0owner a_0code a_0isOver a_0all a_0some a_0isRuled a_0before a_0slots a_0isKept a_0buffer a_0chosen a_0last a_0corner a_0wide a_0cuts a_0aside known_0 length_0 thrown_0 s1.1 round_0_9 seed_0 hash_0 s1.2.1 s_0 s1.2.2.1 s1.2.2.2.1 s1.2.2.2.2 isOver_0_7 s4.1 s4.2 w8) → va_S A s.heap H locs → W p l e ({ frames := 3, cells := 0, slots := 0, locals := 87 } : Room) s m [.ref a_0].toArray below meth c H locs 0 0 QQ (F0 m 100 ls [.int j10]) := by
                    intro H locs ls hl hP hD hS
                    refine lv_istore_n (lv' := [(1, .int j10), (0, .ref a_0), (2, .int l2_19)]) hx hb dX10_rules_100 rfl hl (by decide) rfl (fun ls hl => ?_)
                    refine lv_iinc (v := (l2_19 + (1 : Int32))) (lv' := [(2, .int (l2_19 + (1 : Int32))), (1, .int j10), (0, .ref a_0)]) hx hb dX10_rules_101 hl (k := 2) rfl rfl (by decide) rfl (fun ls hl => ?_)
                    refine lv_goto (tgt := 46) hx hb dX10_rules_104 (by decide) ?_
                    exact ih _ _ _ hf _ _ _ (lv_sub hl [2, 1, 0] rfl) hP hD hS
                  clear hf
                  have hf := h_j10
                  clear h_j10
                  refine lv_if_ne (tgt := 95) hx hb dX10_rules_83 (by decide) (fun cc => ?_) (fun cc => ?_)
                  · replace hf := hf_pos cc hf
                    refine lv_iconst (v := 1) hx hb dX10_rules_95 (by decide) ?_
                    refine lv_goto (tgt := 100) hx hb dX10_rules_96 (by decide) ?_
                    obtain rfl := Option.some.inj hf
                    exact hJ_22 _ _ _ (lv_sub hl [0, 2] rfl) hP hD hS
                  · replace hf := hf_neg (not_not_intro cc) hf
                    refine lv_aload_n hx hb dX10_rules_86 rfl (lv_at hl 0 rfl) ?_
                    refine va_get (D := (dC, dI)) (ci := 10) (C := RX10) (T := TX10) (N := 26) hx hb hts hiX10 hown hK hP 0 rfl rfl 14 (by decide) (hts (.fieldLink RX10 42 "PaddockFieldsModel" "isRuled" "[Z") (List.mem_cons_of_mem _ (List.mem_append_left _ (List.mem_append_left _ (List.mem_of_getElem? (i := 3) rfl))))) (fun _ h9 => h9) rfl dX10_rules_87 ?_
                    refine lv_iload_n hx hb dX10_rules_90 rfl (lv_at hl 2 rfl) ?_
                    obtain ⟨v9, h_v9, hf⟩ := hf_bind hf
                    refine wh_ldZ (D := (dC, dI)) hx hb hK hP 9 1 rfl rfl h_v9 dX10_rules_91 ?_
                    refine lv_if_eq (tgt := 99) hx hb dX10_rules_92 (by decide) (fun cc => ?_) (fun cc => ?_)
                    · replace hf := hf_pos cc hf
                      refine lv_iconst (v := 0) hx hb dX10_rules_99 (by decide) ?_
                      obtain rfl := Option.some.inj hf
                      exact hJ_22 _ _ _ (lv_sub hl [0, 2] rfl) hP hD hS
                    · replace hf := hf_neg cc hf
                      refine lv_iconst (v := 1) hx hb dX10_rules_95 (by decide) ?_
                      refine lv_goto (tgt := 100) hx hb dX10_rules_96 (by decide) ?_
                      obtain rfl := Option.some.inj hf
                      exact hJ_22 _ _ _ (lv_sub hl [0, 2] rfl) hP hD hS
                clear hf
                have hf := h_j7
                clear h_j7
                refine lv_if_ne (tgt := 80) hx hb dX10_rules_65 (by decide) (fun cc => ?_) (fun cc => ?_)
                · replace hf := hf_pos cc hf
                  refine lv_iconst (v := 0) hx hb dX10_rules_80 (by decide) ?_
                  obtain rfl := Option.some.inj hf
                  exact hJ_21 _ _ _ (lv_sub hl [0, 1, 2] rfl) hP hD hS
                · replace hf := hf_neg (not_not_intro cc) hf
                  refine lv_aload_n hx hb dX10_rules_68 rfl (lv_at hl 0 rfl) ?_
                  refine lv_iload_n hx hb dX10_rules_69 rfl (lv_at hl 2 rfl) ?_
                  obtain ⟨s6, h_s6, hf⟩ := hf_bind hf
                  refine wh_calli (D := (dC, dI)) (ws' := (wl_fM_rules cI cZ cJ cQ a_0 a_0table a_0s a_0cells a_0owner a_0code a_0isOver a_0all a_0some a_0isRuled a_0before a_0slots a_0isKept a_0buffer a_0chosen a_0last a_0corner a_0wide a_0cuts a_0aside known_0 length_0 thrown_0 s1.1 round_0_9 seed_0 hash_0 s1.2.1 s_0 s1.2.2.1 s1.2.2.2.1 s1.2.2.2.2 isOver_0_7 s4.1 s4.2 isRuled_0_20)) (va_runV (As := [.int l2_19]) (rest := [.int l2_19, .ref a_0isRuled]) ⟨hx, hb, hml, hown, hts⟩ (c_fM_isOut l dC dI cI cZ cJ cQ a_0 a_0owner a_0some a_0all a_0cells a_0s a_0before a_0slots a_0isKept a_0buffer a_0code a_0table a_0isOver a_0isRuled a_0chosen a_0last a_0corner a_0wide a_0cuts a_0aside known_0 length_0 thrown_0 s1.1 round_0_9 seed_0 hash_0 _ h_s6) (cwV 1 hts gX10_rules_X10_isOut rfl rfl rfl (by decide +kernel) ⟨Nat.le_of_ble_eq_true rfl, Nat.le_of_ble_eq_true rfl⟩) (wh_preV (C := RX10) (T := TX10) (N := 26) hK hN hP hD [0, 4, 8, 7, 3] rfl rfl 10 0 rfl rfl) rfl rfl hl.1 rfl (lv_room (Nat.le_of_ble_eq_true rfl)) dX10_rules_70 ⟨Nat.le_refl _, Nat.le_refl _⟩) hP hD hS hA [0, 4, 8, 7, 3] [1, 2, 5, 6, 9] [5, 0, 1, 9, 6, 2, 3, 8, 7, 4] rfl rfl rfl rfl (fun H locs hP hD hS => ?_)
                  refine lv_if_eq (tgt := 80) hx hb dX10_rules_73 (by decide) (fun cc => ?_) (fun cc => ?_)
                  · replace hf := hf_pos cc hf
                    refine lv_iconst (v := 0) hx hb dX10_rules_80 (by decide) ?_
                    obtain rfl := Option.some.inj hf
                    exact hJ_21 _ _ _ (lv_sub hl [0, 1, 2] rfl) hP hD hS
                  · replace hf := hf_neg cc hf
                    refine lv_iconst (v := 1) hx hb dX10_rules_76 (by decide) ?_
                    refine lv_goto (tgt := 81) hx hb dX10_rules_77 (by decide) ?_
                    obtain rfl := Option.some.inj hf
                    exact hJ_21 _ _ _ (lv_sub hl [0, 1, 2] rfl) hP hD hS
          exact hL_17 _ _ _ _ h_r11 _ _ _ (lv_sub hl [2, 1, 0] rfl) hP hD hS
    exact hL_3 _ _ _ _ _ _ _ h_r18 _ _ _ (lv_sub hl [1, 0] rfl) hP hD hS
  have hL_23 : ∀ (N : Nat) (l1_24 : Int32) (isOver_0_25 : Nat → Int32), fM_rules_L6 F s1.1 N l1_24 isOver_0_25 = some r3 → ∀ (H : Heap) (locs : List Loc) (ls : Array Slot), lv_has ls 3 [(0, .ref a_0), (1, .int l1_24)] → va_P (dC, dI) vwCl (wl_fM_rules cI cZ cJ cQ a_0 a_0table a_0s a_0cells a_0owner a_0code a_0isOver a_0all a_0some a_0isRuled a_0before a_0slots a_0isKept a_0buffer a_0chosen a_0last a_0corner a_0wide a_0cuts a_0aside known_0 length_0 thrown_0 s1.1 round_0 seed_0 hash_0 s1.2.1 s_0 s1.2.2.1 s1.2.2.2.1 s1.2.2.2.2 isOver_0_25 all_0 some_0 isRuled_0) H → va_D A (wl_fM_rules cI cZ cJ cQ a_0 a_0table a_0s a_0cells a_0owner a_0code a_0isOver a_0all a_0some a_0isRuled a_0before a_0slots a_0isKept a_0buffer a_0chosen a_0last a_0corner a_0wide a_0cuts a_0aside known_0 length_0 thrown_0 s1.1 round_0 seed_0 hash_0 s1.2.1 s_0 s1.2.2.1 s1.2.2.2.1 s1.2.2.2.2 isOver_0_25 all_0 some_0 isRuled_0) → va_S A s.heap H locs → W p l e ({ frames := 3, cells := 0, slots := 0, locals := 87 } : Room) s m [.ref a_0].toArray below meth c H locs 0 0 QQ (F0 m 6 ls []) := by
    intro N
    induction N with
    | zero => intro l1_24 isOver_0_25 hf; exact nomatch (show none = some _ from hf)
    | succ N ih =>
      intro l1_24 isOver_0_25 hf H locs ls hl hP hD hS
      rw [fM_rules_L6] at hf
      refine lv_iload_n hx hb dX10_rules_6 rfl (lv_at hl 1 rfl) ?_
      refine lv_aload_n hx hb dX10_rules_7 rfl (lv_at hl 0 rfl) ?_
      refine va_get (D := (dC, dI)) (ci := 10) (C := RX10) (T := TX10) (N := 26) hx hb hts hiX10 hown hK hP 0 rfl rfl 11 (by decide) (hts (.fieldLink RX10 102 "PaddockFieldsModel" "many" "I") (List.mem_cons_of_mem _ (List.mem_append_left _ (List.mem_append_left _ (List.mem_of_getElem? (i := 0) rfl))))) (fun _ h9 => h9) rfl dX10_rules_8 ?_
      refine lv_icmp_ge (tgt := 27) hx hb dX10_rules_11 (by decide) (fun cc => ?_) (fun cc => ?_)
      · replace hf := hf_pos cc hf
        obtain rfl := Option.some.inj hf
        exact hE_1 _ _ _ (lv_sub hl [0] rfl) hP hD hS
      · replace hf := hf_neg cc hf
        refine lv_aload_n hx hb dX10_rules_14 rfl (lv_at hl 0 rfl) ?_
        refine va_get (D := (dC, dI)) (ci := 10) (C := RX10) (T := TX10) (N := 26) hx hb hts hiX10 hown hK hP 0 rfl rfl 13 (by decide) (hts (.fieldLink RX10 39 "PaddockFieldsModel" "isOver" "[Z") (List.mem_cons_of_mem _ (List.mem_append_left _ (List.mem_append_left _ (List.mem_of_getElem? (i := 1) rfl))))) (fun _ h9 => h9) rfl dX10_rules_15 ?_
        refine lv_iload_n hx hb dX10_rules_18 rfl (lv_at hl 1 rfl) ?_
        refine lv_iconst (v := 0) hx hb dX10_rules_19 (by decide) ?_
        obtain ⟨w2, h_w2, hf⟩ := hf_bind hf
        refine wh_stZ (D := (dC, dI)) (ws' := (wl_fM_rules cI cZ cJ cQ a_0 a_0table a_0s a_0cells a_0owner a_0code a_0isOver a_0all a_0some a_0isRuled a_0before a_0slots a_0isKept a_0buffer a_0chosen a_0last a_0corner a_0wide a_0cuts a_0aside known_0 length_0 thrown_0 s1.1 round_0 seed_0 hash_0 s1.2.1 s_0 s1.2.2.1 s1.2.2.2.1 s1.2.2.2.2 w2 all_0 some_0 isRuled_0)) hx hb hK hP hD hS 6 1 rfl rfl rfl h_w2 dX10_rules_20 (fun H locs hP hD hS => ?_)
        refine lv_iinc (v := (l1_24 + (1 : Int32))) (lv' := [(1, .int (l1_24 + (1 : Int32))), (0, .ref a_0)]) hx hb dX10_rules_21 hl (k := 1) rfl rfl (by decide) rfl (fun ls hl => ?_)
        refine lv_goto (tgt := 6) hx hb dX10_rules_24 (by decide) ?_
        exact ih _ _ hf _ _ _ (lv_sub hl [1, 0] rfl) hP hD hS
  exact hL_23 _ _ _ h_r3 _ _ _ (lv_sub hl [1, 0] rfl) hP hD hS
set_option maxHeartbeats 4000000 in
set_option maxRecDepth 100000 in
theorem c_fM_isAgainst (l : Launch) (dC : Nat → ClassId) (dI : Nat → Nat → Nat) (cI cZ cJ cQ : ClassId) (a_0 a_0s a_0some a_0before a_0slots a_0isKept a_0buffer a_0cells a_0owner a_0code a_0table a_0isOver a_0isRuled a_0all a_0chosen a_0last a_0corner a_0wide a_0cuts a_0aside : Nat) (known_0 : Int32) (length_0 : Int32) (thrown_0 : Int32) (many_0 : Int32) (round_0 : Int32) (seed_0 : Int64) (hash_0 : Int64) (sz : Nat) {F : Nat} {s_0 : Nat → Int32} {some_0 : Nat → Int64} {out : Int32} (hf : fM_isAgainst F s_0 some_0 = some out) : Met l yX10_isAgainst wsX10_isAgainst ({ frames := 1, cells := 0, slots := 0, locals := 23 } : Room) (va_Pc [.ref a_0] (wlP (dC, dI) (wlT cI cZ cJ cQ) (wl_fM_isAgainst cI cZ cJ cQ a_0 a_0s a_0some a_0before a_0slots a_0isKept a_0buffer a_0cells a_0owner a_0code a_0table a_0isOver a_0isRuled a_0all a_0chosen a_0last a_0corner a_0wide a_0cuts a_0aside known_0 length_0 thrown_0 many_0 round_0 seed_0 hash_0 s_0 some_0) sz)) (va_Qi (fun (v : Int32) (_ : Unit) => v = out) (wlQ (dC, dI) (va_A (wl_fM_isAgainst cI cZ cJ cQ a_0 a_0s a_0some a_0before a_0slots a_0isKept a_0buffer a_0cells a_0owner a_0code a_0table a_0isOver a_0isRuled a_0all a_0chosen a_0last a_0corner a_0wide a_0cuts a_0aside known_0 length_0 thrown_0 many_0 round_0 seed_0 hash_0 s_0 some_0) sz) (wl_fM_isAgainst cI cZ cJ cQ a_0 a_0s a_0some a_0before a_0slots a_0isKept a_0buffer a_0cells a_0owner a_0code a_0table a_0isOver a_0isRuled a_0all a_0chosen a_0last a_0corner a_0wide a_0cuts a_0aside known_0 length_0 thrown_0 many_0 round_0 seed_0 hash_0 s_0 some_0)) (va_A (wl_fM_isAgainst cI cZ cJ cQ a_0 a_0s a_0some a_0before a_0slots a_0isKept a_0buffer a_0cells a_0owner a_0code a_0table a_0isOver a_0isRuled a_0all a_0chosen a_0last a_0corner a_0wide a_0cuts a_0aside known_0 length_0 thrown_0 many_0 round_0 seed_0 hash_0 s_0 some_0) sz)) 0 0 (va_A (wl_fM_isAgainst cI cZ cJ cQ a_0 a_0s a_0some a_0before a_0slots a_0isKept a_0buffer a_0cells a_0owner a_0code a_0table a_0isOver a_0isRuled a_0all a_0chosen a_0last a_0corner a_0wide a_0cuts a_0aside known_0 length_0 thrown_0 many_0 round_0 seed_0 hash_0 s_0 some_0) sz) := by
  refine wh_ofWz (lv := [(0, .ref a_0)]) RX10 (by decide) rfl rfl (Nat.le_of_ble_eq_true rfl) rfl ?_
  intro p e s m below meth c A QQ hx hb hml hown hts hP hK hN hD hA hret ls hl
  have hS : va_S A s.heap s.heap [] := va_S.rf
  have hiX10 : ∀ w ∈ wsX100, w ∈ wsX10_isAgainst := (fun _ h => List.mem_cons_of_mem _ (List.mem_append_right _ (h)))
  unfold fM_isAgainst at hf
  refine lv_aload_n hx hb dX10_isAgainst_0 rfl (lv_at hl 0 rfl) ?_
  obtain ⟨s1, h_s1, hf⟩ := hf_bind hf
  refine wh_calll (D := (dC, dI)) (ws' := (wl_fM_isAgainst cI cZ cJ cQ a_0 a_0s a_0some a_0before a_0slots a_0isKept a_0buffer a_0cells a_0owner a_0code a_0table a_0isOver a_0isRuled a_0all a_0chosen a_0last a_0corner a_0wide a_0cuts a_0aside known_0 length_0 thrown_0 many_0 round_0 seed_0 hash_0 s_0 some_0)) (va_runV (As := []) (rest := []) ⟨hx, hb, hml, hown, hts⟩ (c_fM_taken l dC dI cI cZ cJ cQ a_0 a_0s a_0before a_0slots a_0isKept a_0buffer a_0cells a_0owner a_0code a_0table a_0isOver a_0isRuled a_0all a_0some a_0chosen a_0last a_0corner a_0wide a_0cuts a_0aside known_0 length_0 thrown_0 many_0 round_0 seed_0 hash_0 _ h_s1) (cwV 0 hts gX10_isAgainst_X10_taken rfl rfl rfl (by decide +kernel) ⟨Nat.le_of_ble_eq_true rfl, Nat.le_of_ble_eq_true rfl⟩) (wh_preV (C := RX10) (T := TX10) (N := 26) hK hN hP hD [0, 1] rfl rfl 10 0 rfl rfl) rfl rfl hl.1 rfl (lv_room (Nat.le_of_ble_eq_true rfl)) dX10_isAgainst_1 ⟨Nat.le_refl _, Nat.le_refl _⟩) hP hD hS hA [0, 1] [2] [1, 2, 0] rfl rfl rfl rfl (fun H locs hP hD hS => ?_)
  refine lv_lstore_n (lv' := [(1, .long s1), (0, .ref a_0)]) hx hb dX10_isAgainst_4 rfl hl (by decide) rfl (fun ls hl => ?_)
  refine lv_iconst (v := 0) hx hb dX10_isAgainst_5 (by decide) ?_
  refine lv_istore_n (lv' := [(3, .int (0 : Int32)), (1, .long s1), (0, .ref a_0)]) hx hb dX10_isAgainst_6 rfl hl (by decide) rfl (fun ls hl => ?_)
  refine lv_iconst (v := 0) hx hb dX10_isAgainst_7 (by decide) ?_
  refine lv_istore (lv' := [(4, .int (0 : Int32)), (3, .int (0 : Int32)), (1, .long s1), (0, .ref a_0)]) hx hb dX10_isAgainst_8 hl (by decide) rfl (fun ls hl => ?_)
  obtain ⟨r7, h_r7, hf⟩ := hf_bind hf
  have hE_1 : ∀ (H : Heap) (locs : List Loc) (ls : Array Slot), lv_has ls 5 [(1, .long r7.1), (3, .int r7.2.1)] → va_P (dC, dI) vwCl (wl_fM_isAgainst cI cZ cJ cQ a_0 a_0s a_0some a_0before a_0slots a_0isKept a_0buffer a_0cells a_0owner a_0code a_0table a_0isOver a_0isRuled a_0all a_0chosen a_0last a_0corner a_0wide a_0cuts a_0aside known_0 length_0 thrown_0 many_0 round_0 seed_0 hash_0 s_0 some_0) H → va_D A (wl_fM_isAgainst cI cZ cJ cQ a_0 a_0s a_0some a_0before a_0slots a_0isKept a_0buffer a_0cells a_0owner a_0code a_0table a_0isOver a_0isRuled a_0all a_0chosen a_0last a_0corner a_0wide a_0cuts a_0aside known_0 length_0 thrown_0 many_0 round_0 seed_0 hash_0 s_0 some_0) → va_S A s.heap H locs → W p l e ({ frames := 1, cells := 0, slots := 0, locals := 23 } : Room) s m [.ref a_0].toArray below meth c H locs 0 0 QQ (F0 m 78 ls []) := by
    intro H locs ls hl hP hD hS
    refine lv_iload_n hx hb dX10_isAgainst_78 rfl (lv_at hl 1 rfl) ?_
    refine lv_if_ne (tgt := 90) hx hb dX10_isAgainst_79 (by decide) (fun cc => ?_) (fun cc => ?_)
    · replace hf := hf_pos cc hf
      refine lv_iconst (v := 1) hx hb dX10_isAgainst_90 (by decide) ?_
      refine lv_goto (tgt := 95) hx hb dX10_isAgainst_91 (by decide) ?_
      obtain rfl := Option.some.inj hf
      exact hret _ _ _ _ (by decide) hP hD hS dX10_isAgainst_95
    · replace hf := hf_neg (not_not_intro cc) hf
      refine lv_lload_n hx hb dX10_isAgainst_82 rfl (lv_at hl 0 rfl) ?_
      refine lv_ldc2 hx hb hown (hts (.constantLong RX10 109 (4398046511103)) (List.mem_cons_of_mem _ (List.mem_append_left _ (List.mem_of_getElem? (i := 2) rfl)))) dX10_isAgainst_83 ?_
      refine W.lcmp hx hb dX10_isAgainst_86 ?_
      refine lv_if_eq (tgt := 94) hx hb dX10_isAgainst_87 (by decide) (fun cc => ?_) (fun cc => ?_)
      · replace hf := hf_pos ((lg_cmp_eq _ _).mp cc) hf
        refine lv_iconst (v := 0) hx hb dX10_isAgainst_94 (by decide) ?_
        obtain rfl := Option.some.inj hf
        exact hret _ _ _ _ (by decide) hP hD hS dX10_isAgainst_95
      · replace hf := hf_neg (mt (lg_cmp_eq _ _).mpr cc) hf
        refine lv_iconst (v := 1) hx hb dX10_isAgainst_90 (by decide) ?_
        refine lv_goto (tgt := 95) hx hb dX10_isAgainst_91 (by decide) ?_
        obtain rfl := Option.some.inj hf
        exact hret _ _ _ _ (by decide) hP hD hS dX10_isAgainst_95
  have hL_2 : ∀ (N : Nat) (l1_3 : Int64) (l3_4 : Int32) (l4_5 : Int32), fM_isAgainst_L10 F s_0 some_0 N l1_3 l3_4 l4_5 = some r7 → ∀ (H : Heap) (locs : List Loc) (ls : Array Slot), lv_has ls 5 [(0, .ref a_0), (1, .long l1_3), (3, .int l3_4), (4, .int l4_5)] → va_P (dC, dI) vwCl (wl_fM_isAgainst cI cZ cJ cQ a_0 a_0s a_0some a_0before a_0slots a_0isKept a_0buffer a_0cells a_0owner a_0code a_0table a_0isOver a_0isRuled a_0all a_0chosen a_0last a_0corner a_0wide a_0cuts a_0aside known_0 length_0 thrown_0 many_0 round_0 seed_0 hash_0 s_0 some_0) H → va_D A (wl_fM_isAgainst cI cZ cJ cQ a_0 a_0s a_0some a_0before a_0slots a_0isKept a_0buffer a_0cells a_0owner a_0code a_0table a_0isOver a_0isRuled a_0all a_0chosen a_0last a_0corner a_0wide a_0cuts a_0aside known_0 length_0 thrown_0 many_0 round_0 seed_0 hash_0 s_0 some_0) → va_S A s.heap H locs → W p l e ({ frames := 1, cells := 0, slots := 0, locals := 23 } : Room) s m [.ref a_0].toArray below meth c H locs 0 0 QQ (F0 m 10 ls []) := by
    intro N
    induction N with
    | zero => intro l1_3 l3_4 l4_5 hf; exact nomatch (show none = some _ from hf)
    | succ N ih =>
      intro l1_3 l3_4 l4_5 hf H locs ls hl hP hD hS
      rw [fM_isAgainst_L10] at hf
      refine lv_iload hx hb dX10_isAgainst_10 (lv_at hl 3 rfl) ?_
      refine lv_bipush (v := 42) hx hb dX10_isAgainst_12 (by decide) ?_
      refine lv_icmp_ge (tgt := 78) hx hb dX10_isAgainst_14 (by decide) (fun cc => ?_) (fun cc => ?_)
      · replace hf := hf_pos cc hf
        obtain rfl := Option.some.inj hf
        exact hE_1 _ _ _ (lv_sub hl [1, 2] rfl) hP hD hS
      · replace hf := hf_neg cc hf
        refine lv_lload_n hx hb dX10_isAgainst_17 rfl (lv_at hl 1 rfl) ?_
        refine lv_aload_n hx hb dX10_isAgainst_18 rfl (lv_at hl 0 rfl) ?_
        refine va_get (D := (dC, dI)) (ci := 10) (C := RX10) (T := TX10) (N := 26) hx hb hts hiX10 hown hK hP 0 rfl rfl 16 (by decide) (hts (.fieldLink RX10 48 "PaddockFieldsModel" "some" "[J") (List.mem_cons_of_mem _ (List.mem_append_left _ (List.mem_of_getElem? (i := 0) rfl)))) (fun _ h9 => h9) rfl dX10_isAgainst_19 ?_
        refine lv_iload hx hb dX10_isAgainst_22 (lv_at hl 3 rfl) ?_
        obtain ⟨v2, h_v2, hf⟩ := hf_bind hf
        refine wh_ldJ (D := (dC, dI)) hx hb hK hP 2 2 rfl rfl h_v2 dX10_isAgainst_24 ?_
        refine lv_lor hx hb dX10_isAgainst_25 ?_
        refine lv_lstore_n (lv' := [(1, .long (l1_3 ||| v2)), (0, .ref a_0), (3, .int l3_4), (4, .int l4_5)]) hx hb dX10_isAgainst_26 rfl hl (by decide) rfl (fun ls hl => ?_)
        refine lv_iload_n hx hb dX10_isAgainst_27 rfl (lv_at hl 2 rfl) ?_
        obtain ⟨j6, h_j6, hf⟩ := hf_bind hf
        have hJ_6 : ∀ (H : Heap) (locs : List Loc) (ls : Array Slot), lv_has ls 5 [(0, .ref a_0), (1, .long (l1_3 ||| v2)), (4, .int l4_5)] → va_P (dC, dI) vwCl (wl_fM_isAgainst cI cZ cJ cQ a_0 a_0s a_0some a_0before a_0slots a_0isKept a_0buffer a_0cells a_0owner a_0code a_0table a_0isOver a_0isRuled a_0all a_0chosen a_0last a_0corner a_0wide a_0cuts a_0aside known_0 length_0 thrown_0 many_0 round_0 seed_0 hash_0 s_0 some_0) H → va_D A (wl_fM_isAgainst cI cZ cJ cQ a_0 a_0s a_0some a_0before a_0slots a_0isKept a_0buffer a_0cells a_0owner a_0code a_0table a_0isOver a_0isRuled a_0all a_0chosen a_0last a_0corner a_0wide a_0cuts a_0aside known_0 length_0 thrown_0 many_0 round_0 seed_0 hash_0 s_0 some_0) → va_S A s.heap H locs → W p l e ({ frames := 1, cells := 0, slots := 0, locals := 23 } : Room) s m [.ref a_0].toArray below meth c H locs 0 0 QQ (F0 m 71 ls [.int j6]) := by
          intro H locs ls hl hP hD hS
          refine lv_istore_n (lv' := [(3, .int j6), (0, .ref a_0), (1, .long (l1_3 ||| v2)), (4, .int l4_5)]) hx hb dX10_isAgainst_71 rfl hl (by decide) rfl (fun ls hl => ?_)
          refine lv_iinc (v := (l4_5 + (1 : Int32))) (lv' := [(4, .int (l4_5 + (1 : Int32))), (3, .int j6), (0, .ref a_0), (1, .long (l1_3 ||| v2))]) hx hb dX10_isAgainst_72 hl (k := 3) rfl rfl (by decide) rfl (fun ls hl => ?_)
          refine lv_goto (tgt := 10) hx hb dX10_isAgainst_75 (by decide) ?_
          exact ih _ _ _ hf _ _ _ (lv_sub hl [2, 3, 1, 0] rfl) hP hD hS
        clear hf
        have hf := h_j6
        clear h_j6
        refine lv_if_ne (tgt := 66) hx hb dX10_isAgainst_28 (by decide) (fun cc => ?_) (fun cc => ?_)
        · replace hf := hf_pos cc hf
          refine lv_iconst (v := 1) hx hb dX10_isAgainst_66 (by decide) ?_
          refine lv_goto (tgt := 71) hx hb dX10_isAgainst_67 (by decide) ?_
          obtain rfl := Option.some.inj hf
          exact hJ_6 _ _ _ (lv_sub hl [1, 0, 3] rfl) hP hD hS
        · replace hf := hf_neg (not_not_intro cc) hf
          refine lv_aload_n hx hb dX10_isAgainst_31 rfl (lv_at hl 1 rfl) ?_
          refine va_get (D := (dC, dI)) (ci := 10) (C := RX10) (T := TX10) (N := 26) hx hb hts hiX10 hown hK hP 0 rfl rfl 0 (by decide) (hts (.fieldLink RX10 7 "PaddockFieldsModel" "s" "[I") (List.mem_cons_of_mem _ (List.mem_append_left _ (List.mem_of_getElem? (i := 1) rfl)))) (fun _ h9 => h9) rfl dX10_isAgainst_32 ?_
          refine lv_iload hx hb dX10_isAgainst_35 (lv_at hl 3 rfl) ?_
          obtain ⟨v3, h_v3, hf⟩ := hf_bind hf
          refine wh_ldI (D := (dC, dI)) hx hb hK hP 1 0 rfl rfl h_v3 dX10_isAgainst_37 ?_
          refine lv_if_le (tgt := 70) hx hb dX10_isAgainst_38 (by decide) (fun cc => ?_) (fun cc => ?_)
          · replace hf := hf_pos cc hf
            refine lv_iconst (v := 0) hx hb dX10_isAgainst_70 (by decide) ?_
            obtain rfl := Option.some.inj hf
            exact hJ_6 _ _ _ (lv_sub hl [1, 0, 3] rfl) hP hD hS
          · replace hf := hf_neg cc hf
            refine lv_aload_n hx hb dX10_isAgainst_41 rfl (lv_at hl 1 rfl) ?_
            refine va_get (D := (dC, dI)) (ci := 10) (C := RX10) (T := TX10) (N := 26) hx hb hts hiX10 hown hK hP 0 rfl rfl 0 (by decide) (hts (.fieldLink RX10 7 "PaddockFieldsModel" "s" "[I") (List.mem_cons_of_mem _ (List.mem_append_left _ (List.mem_of_getElem? (i := 1) rfl)))) (fun _ h9 => h9) rfl dX10_isAgainst_42 ?_
            refine lv_bipush (v := 42) hx hb dX10_isAgainst_45 (by decide) ?_
            refine lv_iload hx hb dX10_isAgainst_47 (lv_at hl 3 rfl) ?_
            refine lv_iadd hx hb dX10_isAgainst_49 ?_
            obtain ⟨v4, h_v4, hf⟩ := hf_bind hf
            refine wh_ldI (D := (dC, dI)) hx hb hK hP 1 0 rfl rfl h_v4 dX10_isAgainst_50 ?_
            refine lv_if_ne (tgt := 70) hx hb dX10_isAgainst_51 (by decide) (fun cc => ?_) (fun cc => ?_)
            · replace hf := hf_pos cc hf
              refine lv_iconst (v := 0) hx hb dX10_isAgainst_70 (by decide) ?_
              obtain rfl := Option.some.inj hf
              exact hJ_6 _ _ _ (lv_sub hl [1, 0, 3] rfl) hP hD hS
            · replace hf := hf_neg (not_not_intro cc) hf
              refine lv_aload_n hx hb dX10_isAgainst_54 rfl (lv_at hl 1 rfl) ?_
              refine va_get (D := (dC, dI)) (ci := 10) (C := RX10) (T := TX10) (N := 26) hx hb hts hiX10 hown hK hP 0 rfl rfl 16 (by decide) (hts (.fieldLink RX10 48 "PaddockFieldsModel" "some" "[J") (List.mem_cons_of_mem _ (List.mem_append_left _ (List.mem_of_getElem? (i := 0) rfl)))) (fun _ h9 => h9) rfl dX10_isAgainst_55 ?_
              refine lv_iload hx hb dX10_isAgainst_58 (lv_at hl 3 rfl) ?_
              obtain ⟨v5, h_v5, hf⟩ := hf_bind hf
              refine wh_ldJ (D := (dC, dI)) hx hb hK hP 2 2 rfl rfl h_v5 dX10_isAgainst_60 ?_
              refine lv_lconst (v := 0) hx hb dX10_isAgainst_61 (by decide) ?_
              refine W.lcmp hx hb dX10_isAgainst_62 ?_
              refine lv_if_ne (tgt := 70) hx hb dX10_isAgainst_63 (by decide) (fun cc => ?_) (fun cc => ?_)
              · replace hf := hf_pos (mt (lg_cmp_eq _ _).mpr cc) hf
                refine lv_iconst (v := 0) hx hb dX10_isAgainst_70 (by decide) ?_
                obtain rfl := Option.some.inj hf
                exact hJ_6 _ _ _ (lv_sub hl [1, 0, 3] rfl) hP hD hS
              · replace hf := hf_neg (not_not_intro ((lg_cmp_eq _ _).mp cc)) hf
                refine lv_iconst (v := 1) hx hb dX10_isAgainst_66 (by decide) ?_
                refine lv_goto (tgt := 71) hx hb dX10_isAgainst_67 (by decide) ?_
                obtain rfl := Option.some.inj hf
                exact hJ_6 _ _ _ (lv_sub hl [1, 0, 3] rfl) hP hD hS
  exact hL_2 _ _ _ _ h_r7 _ _ _ (lv_sub hl [3, 2, 1, 0] rfl) hP hD hS
set_option maxHeartbeats 4000000 in
set_option maxRecDepth 100000 in
theorem c_fM_leftIn (l : Launch) (dC : Nat → ClassId) (dI : Nat → Nat → Nat) (cI cZ cJ cQ : ClassId) (a_0 a_0owner a_0isOver a_0s a_0before a_0slots a_0isKept a_0buffer a_0cells a_0code a_0table a_0isRuled a_0all a_0some a_0chosen a_0last a_0corner a_0wide a_0cuts a_0aside : Nat) (known_0 : Int32) (length_0 : Int32) (thrown_0 : Int32) (round_0 : Int32) (seed_0 : Int64) (hash_0 : Int64) (sz : Nat) {F : Nat} {x1 : Int32} {many_0 : Int32} {owner_0 : Nat → Int32} {isOver_0 : Nat → Int32} {out : Int32} (hf : fM_leftIn F x1 many_0 owner_0 isOver_0 = some out) : Met l yX10_leftIn wsX10_leftIn ({ frames := 0, cells := 0, slots := 0, locals := 0 } : Room) (va_Pc [.ref a_0, .int x1] (wlP (dC, dI) (wlT cI cZ cJ cQ) (wl_fM_leftIn cI cZ cJ cQ a_0 a_0owner a_0isOver a_0s a_0before a_0slots a_0isKept a_0buffer a_0cells a_0code a_0table a_0isRuled a_0all a_0some a_0chosen a_0last a_0corner a_0wide a_0cuts a_0aside known_0 length_0 thrown_0 many_0 round_0 seed_0 hash_0 owner_0 isOver_0) sz)) (va_Qi (fun (v : Int32) (_ : Unit) => v = out) (wlQ (dC, dI) (va_A (wl_fM_leftIn cI cZ cJ cQ a_0 a_0owner a_0isOver a_0s a_0before a_0slots a_0isKept a_0buffer a_0cells a_0code a_0table a_0isRuled a_0all a_0some a_0chosen a_0last a_0corner a_0wide a_0cuts a_0aside known_0 length_0 thrown_0 many_0 round_0 seed_0 hash_0 owner_0 isOver_0) sz) (wl_fM_leftIn cI cZ cJ cQ a_0 a_0owner a_0isOver a_0s a_0before a_0slots a_0isKept a_0buffer a_0cells a_0code a_0table a_0isRuled a_0all a_0some a_0chosen a_0last a_0corner a_0wide a_0cuts a_0aside known_0 length_0 thrown_0 many_0 round_0 seed_0 hash_0 owner_0 isOver_0)) (va_A (wl_fM_leftIn cI cZ cJ cQ a_0 a_0owner a_0isOver a_0s a_0before a_0slots a_0isKept a_0buffer a_0cells a_0code a_0table a_0isRuled a_0all a_0some a_0chosen a_0last a_0corner a_0wide a_0cuts a_0aside known_0 length_0 thrown_0 many_0 round_0 seed_0 hash_0 owner_0 isOver_0) sz)) 0 0 (va_A (wl_fM_leftIn cI cZ cJ cQ a_0 a_0owner a_0isOver a_0s a_0before a_0slots a_0isKept a_0buffer a_0cells a_0code a_0table a_0isRuled a_0all a_0some a_0chosen a_0last a_0corner a_0wide a_0cuts a_0aside known_0 length_0 thrown_0 many_0 round_0 seed_0 hash_0 owner_0 isOver_0) sz) := by
  refine wh_ofWi (lv := [(0, .ref a_0), (1, .int x1)]) RX10 (by decide) rfl rfl (Nat.le_of_ble_eq_true rfl) rfl ?_
  intro p e s m below meth c A QQ hx hb hml hown hts hP hK hN hD hA hret ls hl
  have hS : va_S A s.heap s.heap [] := va_S.rf
  have hiX10 : ∀ w ∈ wsX100, w ∈ wsX10_leftIn := (fun _ h => List.mem_cons_of_mem _ (List.mem_append_right _ (h)))
  unfold fM_leftIn at hf
  refine lv_iconst (v := 0) hx hb dX10_leftIn_0 (by decide) ?_
  refine lv_istore_n (lv' := [(2, .int (0 : Int32)), (0, .ref a_0), (1, .int x1)]) hx hb dX10_leftIn_1 rfl hl (by decide) rfl (fun ls hl => ?_)
  refine lv_iconst (v := 0) hx hb dX10_leftIn_2 (by decide) ?_
  refine lv_istore_n (lv' := [(3, .int (0 : Int32)), (2, .int (0 : Int32)), (0, .ref a_0), (1, .int x1)]) hx hb dX10_leftIn_3 rfl hl (by decide) rfl (fun ls hl => ?_)
  obtain ⟨r4, h_r4, hf⟩ := hf_bind hf
  have hE_1 : ∀ (H : Heap) (locs : List Loc) (ls : Array Slot), lv_has ls 4 [(2, .int r4.1)] → va_P (dC, dI) vwCl (wl_fM_leftIn cI cZ cJ cQ a_0 a_0owner a_0isOver a_0s a_0before a_0slots a_0isKept a_0buffer a_0cells a_0code a_0table a_0isRuled a_0all a_0some a_0chosen a_0last a_0corner a_0wide a_0cuts a_0aside known_0 length_0 thrown_0 many_0 round_0 seed_0 hash_0 owner_0 isOver_0) H → va_D A (wl_fM_leftIn cI cZ cJ cQ a_0 a_0owner a_0isOver a_0s a_0before a_0slots a_0isKept a_0buffer a_0cells a_0code a_0table a_0isRuled a_0all a_0some a_0chosen a_0last a_0corner a_0wide a_0cuts a_0aside known_0 length_0 thrown_0 many_0 round_0 seed_0 hash_0 owner_0 isOver_0) → va_S A s.heap H locs → W p l e ({ frames := 0, cells := 0, slots := 0, locals := 0 } : Room) s m [.ref a_0, .int x1].toArray below meth c H locs 0 0 QQ (F0 m 45 ls []) := by
    intro H locs ls hl hP hD hS
    refine lv_iload_n hx hb dX10_leftIn_45 rfl (lv_at hl 0 rfl) ?_
    obtain rfl := Option.some.inj hf
    exact hret _ _ _ _ hP hD hS dX10_leftIn_46
  have hL_2 : ∀ (N : Nat) (l2_3 : Int32) (l3_4 : Int32), fM_leftIn_L4 F x1 many_0 owner_0 isOver_0 N l2_3 l3_4 = some r4 → ∀ (H : Heap) (locs : List Loc) (ls : Array Slot), lv_has ls 4 [(0, .ref a_0), (1, .int x1), (2, .int l2_3), (3, .int l3_4)] → va_P (dC, dI) vwCl (wl_fM_leftIn cI cZ cJ cQ a_0 a_0owner a_0isOver a_0s a_0before a_0slots a_0isKept a_0buffer a_0cells a_0code a_0table a_0isRuled a_0all a_0some a_0chosen a_0last a_0corner a_0wide a_0cuts a_0aside known_0 length_0 thrown_0 many_0 round_0 seed_0 hash_0 owner_0 isOver_0) H → va_D A (wl_fM_leftIn cI cZ cJ cQ a_0 a_0owner a_0isOver a_0s a_0before a_0slots a_0isKept a_0buffer a_0cells a_0code a_0table a_0isRuled a_0all a_0some a_0chosen a_0last a_0corner a_0wide a_0cuts a_0aside known_0 length_0 thrown_0 many_0 round_0 seed_0 hash_0 owner_0 isOver_0) → va_S A s.heap H locs → W p l e ({ frames := 0, cells := 0, slots := 0, locals := 0 } : Room) s m [.ref a_0, .int x1].toArray below meth c H locs 0 0 QQ (F0 m 4 ls []) := by
    intro N
    induction N with
    | zero => intro l2_3 l3_4 hf; exact nomatch (show none = some _ from hf)
    | succ N ih =>
      intro l2_3 l3_4 hf H locs ls hl hP hD hS
      rw [fM_leftIn_L4] at hf
      refine lv_iload_n hx hb dX10_leftIn_4 rfl (lv_at hl 3 rfl) ?_
      refine lv_aload_n hx hb dX10_leftIn_5 rfl (lv_at hl 0 rfl) ?_
      refine va_get (D := (dC, dI)) (ci := 10) (C := RX10) (T := TX10) (N := 26) hx hb hts hiX10 hown hK hP 0 rfl rfl 11 (by decide) (hts (.fieldLink RX10 102 "PaddockFieldsModel" "many" "I") (List.mem_cons_of_mem _ (List.mem_append_left _ (List.mem_of_getElem? (i := 0) rfl)))) (fun _ h9 => h9) rfl dX10_leftIn_6 ?_
      refine lv_icmp_ge (tgt := 45) hx hb dX10_leftIn_9 (by decide) (fun cc => ?_) (fun cc => ?_)
      · replace hf := hf_pos cc hf
        obtain rfl := Option.some.inj hf
        exact hE_1 _ _ _ (lv_sub hl [2] rfl) hP hD hS
      · replace hf := hf_neg cc hf
        refine lv_iload_n hx hb dX10_leftIn_12 rfl (lv_at hl 2 rfl) ?_
        refine lv_aload_n hx hb dX10_leftIn_13 rfl (lv_at hl 0 rfl) ?_
        refine va_get (D := (dC, dI)) (ci := 10) (C := RX10) (T := TX10) (N := 26) hx hb hts hiX10 hown hK hP 0 rfl rfl 9 (by decide) (hts (.fieldLink RX10 30 "PaddockFieldsModel" "owner" "[I") (List.mem_cons_of_mem _ (List.mem_append_left _ (List.mem_of_getElem? (i := 1) rfl)))) (fun _ h9 => h9) rfl dX10_leftIn_14 ?_
        refine lv_iload_n hx hb dX10_leftIn_17 rfl (lv_at hl 3 rfl) ?_
        obtain ⟨v1, h_v1, hf⟩ := hf_bind hf
        refine wh_ldI (D := (dC, dI)) hx hb hK hP 1 0 rfl rfl h_v1 dX10_leftIn_18 ?_
        refine lv_iload_n hx hb dX10_leftIn_19 rfl (lv_at hl 1 rfl) ?_
        obtain ⟨j3, h_j3, hf⟩ := hf_bind hf
        have hJ_5 : ∀ (H : Heap) (locs : List Loc) (ls : Array Slot), lv_has ls 4 [(0, .ref a_0), (1, .int x1), (3, .int l3_4)] → va_P (dC, dI) vwCl (wl_fM_leftIn cI cZ cJ cQ a_0 a_0owner a_0isOver a_0s a_0before a_0slots a_0isKept a_0buffer a_0cells a_0code a_0table a_0isRuled a_0all a_0some a_0chosen a_0last a_0corner a_0wide a_0cuts a_0aside known_0 length_0 thrown_0 many_0 round_0 seed_0 hash_0 owner_0 isOver_0) H → va_D A (wl_fM_leftIn cI cZ cJ cQ a_0 a_0owner a_0isOver a_0s a_0before a_0slots a_0isKept a_0buffer a_0cells a_0code a_0table a_0isRuled a_0all a_0some a_0chosen a_0last a_0corner a_0wide a_0cuts a_0aside known_0 length_0 thrown_0 many_0 round_0 seed_0 hash_0 owner_0 isOver_0) → va_S A s.heap H locs → W p l e ({ frames := 0, cells := 0, slots := 0, locals := 0 } : Room) s m [.ref a_0, .int x1].toArray below meth c H locs 0 0 QQ (F0 m 37 ls [.int j3, .int l2_3]) := by
          intro H locs ls hl hP hD hS
          refine lv_iadd hx hb dX10_leftIn_37 ?_
          refine lv_istore_n (lv' := [(2, .int (l2_3 + j3)), (0, .ref a_0), (1, .int x1), (3, .int l3_4)]) hx hb dX10_leftIn_38 rfl hl (by decide) rfl (fun ls hl => ?_)
          refine lv_iinc (v := (l3_4 + (1 : Int32))) (lv' := [(3, .int (l3_4 + (1 : Int32))), (2, .int (l2_3 + j3)), (0, .ref a_0), (1, .int x1)]) hx hb dX10_leftIn_39 hl (k := 3) rfl rfl (by decide) rfl (fun ls hl => ?_)
          refine lv_goto (tgt := 4) hx hb dX10_leftIn_42 (by decide) ?_
          exact ih _ _ hf _ _ _ (lv_sub hl [2, 3, 1, 0] rfl) hP hD hS
        clear hf
        have hf := h_j3
        clear h_j3
        refine lv_icmp_ne (tgt := 36) hx hb dX10_leftIn_20 (by decide) (fun cc => ?_) (fun cc => ?_)
        · replace hf := hf_pos cc hf
          refine lv_iconst (v := 0) hx hb dX10_leftIn_36 (by decide) ?_
          obtain rfl := Option.some.inj hf
          exact hJ_5 _ _ _ (lv_sub hl [0, 1, 3] rfl) hP hD hS
        · replace hf := hf_neg (not_not_intro cc) hf
          refine lv_aload_n hx hb dX10_leftIn_23 rfl (lv_at hl 0 rfl) ?_
          refine va_get (D := (dC, dI)) (ci := 10) (C := RX10) (T := TX10) (N := 26) hx hb hts hiX10 hown hK hP 0 rfl rfl 13 (by decide) (hts (.fieldLink RX10 39 "PaddockFieldsModel" "isOver" "[Z") (List.mem_cons_of_mem _ (List.mem_append_left _ (List.mem_of_getElem? (i := 2) rfl)))) (fun _ h9 => h9) rfl dX10_leftIn_24 ?_
          refine lv_iload_n hx hb dX10_leftIn_27 rfl (lv_at hl 3 rfl) ?_
          obtain ⟨v2, h_v2, hf⟩ := hf_bind hf
          refine wh_ldZ (D := (dC, dI)) hx hb hK hP 2 1 rfl rfl h_v2 dX10_leftIn_28 ?_
          refine lv_if_ne (tgt := 36) hx hb dX10_leftIn_29 (by decide) (fun cc => ?_) (fun cc => ?_)
          · replace hf := hf_pos cc hf
            refine lv_iconst (v := 0) hx hb dX10_leftIn_36 (by decide) ?_
            obtain rfl := Option.some.inj hf
            exact hJ_5 _ _ _ (lv_sub hl [0, 1, 3] rfl) hP hD hS
          · replace hf := hf_neg (not_not_intro cc) hf
            refine lv_iconst (v := 1) hx hb dX10_leftIn_32 (by decide) ?_
            refine lv_goto (tgt := 37) hx hb dX10_leftIn_33 (by decide) ?_
            obtain rfl := Option.some.inj hf
            exact hJ_5 _ _ _ (lv_sub hl [0, 1, 3] rfl) hP hD hS
  exact hL_2 _ _ _ h_r4 _ _ _ (lv_sub hl [2, 3, 1, 0] rfl) hP hD hS
set_option maxHeartbeats 4000000 in
set_option maxRecDepth 100000 in
theorem c_fM_leftAll (l : Launch) (dC : Nat → ClassId) (dI : Nat → Nat → Nat) (cI cZ cJ cQ : ClassId) (a_0 a_0isOver a_0s a_0before a_0slots a_0isKept a_0buffer a_0cells a_0owner a_0code a_0table a_0isRuled a_0all a_0some a_0chosen a_0last a_0corner a_0wide a_0cuts a_0aside : Nat) (known_0 : Int32) (length_0 : Int32) (thrown_0 : Int32) (round_0 : Int32) (seed_0 : Int64) (hash_0 : Int64) (sz : Nat) {F : Nat} {many_0 : Int32} {isOver_0 : Nat → Int32} {out : Int32} (hf : fM_leftAll F many_0 isOver_0 = some out) : Met l yX10_leftAll wsX10_leftAll ({ frames := 0, cells := 0, slots := 0, locals := 0 } : Room) (va_Pc [.ref a_0] (wlP (dC, dI) (wlT cI cZ cJ cQ) (wl_fM_leftAll cI cZ cJ cQ a_0 a_0isOver a_0s a_0before a_0slots a_0isKept a_0buffer a_0cells a_0owner a_0code a_0table a_0isRuled a_0all a_0some a_0chosen a_0last a_0corner a_0wide a_0cuts a_0aside known_0 length_0 thrown_0 many_0 round_0 seed_0 hash_0 isOver_0) sz)) (va_Qi (fun (v : Int32) (_ : Unit) => v = out) (wlQ (dC, dI) (va_A (wl_fM_leftAll cI cZ cJ cQ a_0 a_0isOver a_0s a_0before a_0slots a_0isKept a_0buffer a_0cells a_0owner a_0code a_0table a_0isRuled a_0all a_0some a_0chosen a_0last a_0corner a_0wide a_0cuts a_0aside known_0 length_0 thrown_0 many_0 round_0 seed_0 hash_0 isOver_0) sz) (wl_fM_leftAll cI cZ cJ cQ a_0 a_0isOver a_0s a_0before a_0slots a_0isKept a_0buffer a_0cells a_0owner a_0code a_0table a_0isRuled a_0all a_0some a_0chosen a_0last a_0corner a_0wide a_0cuts a_0aside known_0 length_0 thrown_0 many_0 round_0 seed_0 hash_0 isOver_0)) (va_A (wl_fM_leftAll cI cZ cJ cQ a_0 a_0isOver a_0s a_0before a_0slots a_0isKept a_0buffer a_0cells a_0owner a_0code a_0table a_0isRuled a_0all a_0some a_0chosen a_0last a_0corner a_0wide a_0cuts a_0aside known_0 length_0 thrown_0 many_0 round_0 seed_0 hash_0 isOver_0) sz)) 0 0 (va_A (wl_fM_leftAll cI cZ cJ cQ a_0 a_0isOver a_0s a_0before a_0slots a_0isKept a_0buffer a_0cells a_0owner a_0code a_0table a_0isRuled a_0all a_0some a_0chosen a_0last a_0corner a_0wide a_0cuts a_0aside known_0 length_0 thrown_0 many_0 round_0 seed_0 hash_0 isOver_0) sz) := by
  refine wh_ofWi (lv := [(0, .ref a_0)]) RX10 (by decide) rfl rfl (Nat.le_of_ble_eq_true rfl) rfl ?_
  intro p e s m below meth c A QQ hx hb hml hown hts hP hK hN hD hA hret ls hl
  have hS : va_S A s.heap s.heap [] := va_S.rf
  have hiX10 : ∀ w ∈ wsX100, w ∈ wsX10_leftAll := (fun _ h => List.mem_cons_of_mem _ (List.mem_append_right _ (h)))
  unfold fM_leftAll at hf
  refine lv_iconst (v := 0) hx hb dX10_leftAll_0 (by decide) ?_
  refine lv_istore_n (lv' := [(1, .int (0 : Int32)), (0, .ref a_0)]) hx hb dX10_leftAll_1 rfl hl (by decide) rfl (fun ls hl => ?_)
  refine lv_iconst (v := 0) hx hb dX10_leftAll_2 (by decide) ?_
  refine lv_istore_n (lv' := [(2, .int (0 : Int32)), (1, .int (0 : Int32)), (0, .ref a_0)]) hx hb dX10_leftAll_3 rfl hl (by decide) rfl (fun ls hl => ?_)
  obtain ⟨r3, h_r3, hf⟩ := hf_bind hf
  have hE_1 : ∀ (H : Heap) (locs : List Loc) (ls : Array Slot), lv_has ls 3 [(1, .int r3.1)] → va_P (dC, dI) vwCl (wl_fM_leftAll cI cZ cJ cQ a_0 a_0isOver a_0s a_0before a_0slots a_0isKept a_0buffer a_0cells a_0owner a_0code a_0table a_0isRuled a_0all a_0some a_0chosen a_0last a_0corner a_0wide a_0cuts a_0aside known_0 length_0 thrown_0 many_0 round_0 seed_0 hash_0 isOver_0) H → va_D A (wl_fM_leftAll cI cZ cJ cQ a_0 a_0isOver a_0s a_0before a_0slots a_0isKept a_0buffer a_0cells a_0owner a_0code a_0table a_0isRuled a_0all a_0some a_0chosen a_0last a_0corner a_0wide a_0cuts a_0aside known_0 length_0 thrown_0 many_0 round_0 seed_0 hash_0 isOver_0) → va_S A s.heap H locs → W p l e ({ frames := 0, cells := 0, slots := 0, locals := 0 } : Room) s m [.ref a_0].toArray below meth c H locs 0 0 QQ (F0 m 35 ls []) := by
    intro H locs ls hl hP hD hS
    refine lv_iload_n hx hb dX10_leftAll_35 rfl (lv_at hl 0 rfl) ?_
    obtain rfl := Option.some.inj hf
    exact hret _ _ _ _ hP hD hS dX10_leftAll_36
  have hL_2 : ∀ (N : Nat) (l1_3 : Int32) (l2_4 : Int32), fM_leftAll_L4 F many_0 isOver_0 N l1_3 l2_4 = some r3 → ∀ (H : Heap) (locs : List Loc) (ls : Array Slot), lv_has ls 3 [(0, .ref a_0), (1, .int l1_3), (2, .int l2_4)] → va_P (dC, dI) vwCl (wl_fM_leftAll cI cZ cJ cQ a_0 a_0isOver a_0s a_0before a_0slots a_0isKept a_0buffer a_0cells a_0owner a_0code a_0table a_0isRuled a_0all a_0some a_0chosen a_0last a_0corner a_0wide a_0cuts a_0aside known_0 length_0 thrown_0 many_0 round_0 seed_0 hash_0 isOver_0) H → va_D A (wl_fM_leftAll cI cZ cJ cQ a_0 a_0isOver a_0s a_0before a_0slots a_0isKept a_0buffer a_0cells a_0owner a_0code a_0table a_0isRuled a_0all a_0some a_0chosen a_0last a_0corner a_0wide a_0cuts a_0aside known_0 length_0 thrown_0 many_0 round_0 seed_0 hash_0 isOver_0) → va_S A s.heap H locs → W p l e ({ frames := 0, cells := 0, slots := 0, locals := 0 } : Room) s m [.ref a_0].toArray below meth c H locs 0 0 QQ (F0 m 4 ls []) := by
    intro N
    induction N with
    | zero => intro l1_3 l2_4 hf; exact nomatch (show none = some _ from hf)
    | succ N ih =>
      intro l1_3 l2_4 hf H locs ls hl hP hD hS
      rw [fM_leftAll_L4] at hf
      refine lv_iload_n hx hb dX10_leftAll_4 rfl (lv_at hl 2 rfl) ?_
      refine lv_aload_n hx hb dX10_leftAll_5 rfl (lv_at hl 0 rfl) ?_
      refine va_get (D := (dC, dI)) (ci := 10) (C := RX10) (T := TX10) (N := 26) hx hb hts hiX10 hown hK hP 0 rfl rfl 11 (by decide) (hts (.fieldLink RX10 102 "PaddockFieldsModel" "many" "I") (List.mem_cons_of_mem _ (List.mem_append_left _ (List.mem_of_getElem? (i := 0) rfl)))) (fun _ h9 => h9) rfl dX10_leftAll_6 ?_
      refine lv_icmp_ge (tgt := 35) hx hb dX10_leftAll_9 (by decide) (fun cc => ?_) (fun cc => ?_)
      · replace hf := hf_pos cc hf
        obtain rfl := Option.some.inj hf
        exact hE_1 _ _ _ (lv_sub hl [1] rfl) hP hD hS
      · replace hf := hf_neg cc hf
        refine lv_iload_n hx hb dX10_leftAll_12 rfl (lv_at hl 1 rfl) ?_
        refine lv_aload_n hx hb dX10_leftAll_13 rfl (lv_at hl 0 rfl) ?_
        refine va_get (D := (dC, dI)) (ci := 10) (C := RX10) (T := TX10) (N := 26) hx hb hts hiX10 hown hK hP 0 rfl rfl 13 (by decide) (hts (.fieldLink RX10 39 "PaddockFieldsModel" "isOver" "[Z") (List.mem_cons_of_mem _ (List.mem_append_left _ (List.mem_of_getElem? (i := 1) rfl)))) (fun _ h9 => h9) rfl dX10_leftAll_14 ?_
        refine lv_iload_n hx hb dX10_leftAll_17 rfl (lv_at hl 2 rfl) ?_
        obtain ⟨v1, h_v1, hf⟩ := hf_bind hf
        refine wh_ldZ (D := (dC, dI)) hx hb hK hP 1 1 rfl rfl h_v1 dX10_leftAll_18 ?_
        obtain ⟨j2, h_j2, hf⟩ := hf_bind hf
        have hJ_5 : ∀ (H : Heap) (locs : List Loc) (ls : Array Slot), lv_has ls 3 [(0, .ref a_0), (2, .int l2_4)] → va_P (dC, dI) vwCl (wl_fM_leftAll cI cZ cJ cQ a_0 a_0isOver a_0s a_0before a_0slots a_0isKept a_0buffer a_0cells a_0owner a_0code a_0table a_0isRuled a_0all a_0some a_0chosen a_0last a_0corner a_0wide a_0cuts a_0aside known_0 length_0 thrown_0 many_0 round_0 seed_0 hash_0 isOver_0) H → va_D A (wl_fM_leftAll cI cZ cJ cQ a_0 a_0isOver a_0s a_0before a_0slots a_0isKept a_0buffer a_0cells a_0owner a_0code a_0table a_0isRuled a_0all a_0some a_0chosen a_0last a_0corner a_0wide a_0cuts a_0aside known_0 length_0 thrown_0 many_0 round_0 seed_0 hash_0 isOver_0) → va_S A s.heap H locs → W p l e ({ frames := 0, cells := 0, slots := 0, locals := 0 } : Room) s m [.ref a_0].toArray below meth c H locs 0 0 QQ (F0 m 27 ls [.int j2, .int l1_3]) := by
          intro H locs ls hl hP hD hS
          refine lv_iadd hx hb dX10_leftAll_27 ?_
          refine lv_istore_n (lv' := [(1, .int (l1_3 + j2)), (0, .ref a_0), (2, .int l2_4)]) hx hb dX10_leftAll_28 rfl hl (by decide) rfl (fun ls hl => ?_)
          refine lv_iinc (v := (l2_4 + (1 : Int32))) (lv' := [(2, .int (l2_4 + (1 : Int32))), (1, .int (l1_3 + j2)), (0, .ref a_0)]) hx hb dX10_leftAll_29 hl (k := 2) rfl rfl (by decide) rfl (fun ls hl => ?_)
          refine lv_goto (tgt := 4) hx hb dX10_leftAll_32 (by decide) ?_
          exact ih _ _ hf _ _ _ (lv_sub hl [2, 1, 0] rfl) hP hD hS
        clear hf
        have hf := h_j2
        clear h_j2
        refine lv_if_eq (tgt := 26) hx hb dX10_leftAll_19 (by decide) (fun cc => ?_) (fun cc => ?_)
        · replace hf := hf_pos cc hf
          refine lv_iconst (v := 1) hx hb dX10_leftAll_26 (by decide) ?_
          obtain rfl := Option.some.inj hf
          exact hJ_5 _ _ _ (lv_sub hl [0, 2] rfl) hP hD hS
        · replace hf := hf_neg cc hf
          refine lv_iconst (v := 0) hx hb dX10_leftAll_22 (by decide) ?_
          refine lv_goto (tgt := 27) hx hb dX10_leftAll_23 (by decide) ?_
          obtain rfl := Option.some.inj hf
          exact hJ_5 _ _ _ (lv_sub hl [0, 2] rfl) hP hD hS
  exact hL_2 _ _ _ h_r3 _ _ _ (lv_sub hl [2, 1, 0] rfl) hP hD hS
set_option maxHeartbeats 4000000 in
set_option maxRecDepth 100000 in
theorem c_fM_isSure (l : Launch) (dC : Nat → ClassId) (dI : Nat → Nat → Nat) (cI cZ cJ cQ : ClassId) (a_0 a_0s a_0owner a_0isOver a_0before a_0slots a_0isKept a_0buffer a_0cells a_0code a_0table a_0isRuled a_0all a_0some a_0chosen a_0last a_0corner a_0wide a_0cuts a_0aside : Nat) (known_0 : Int32) (length_0 : Int32) (thrown_0 : Int32) (round_0 : Int32) (seed_0 : Int64) (hash_0 : Int64) (sz : Nat) {F : Nat} {x1 : Int32} {s_0 : Nat → Int32} {many_0 : Int32} {owner_0 : Nat → Int32} {isOver_0 : Nat → Int32} {out : Int32} (hf : fM_isSure F x1 s_0 many_0 owner_0 isOver_0 = some out) : Met l yX10_isSure wsX10_isSure ({ frames := 1, cells := 0, slots := 0, locals := 23 } : Room) (va_Pc [.ref a_0, .int x1] (wlP (dC, dI) (wlT cI cZ cJ cQ) (wl_fM_isSure cI cZ cJ cQ a_0 a_0s a_0owner a_0isOver a_0before a_0slots a_0isKept a_0buffer a_0cells a_0code a_0table a_0isRuled a_0all a_0some a_0chosen a_0last a_0corner a_0wide a_0cuts a_0aside known_0 length_0 thrown_0 many_0 round_0 seed_0 hash_0 s_0 owner_0 isOver_0) sz)) (va_Qi (fun (v : Int32) (_ : Unit) => v = out) (wlQ (dC, dI) (va_A (wl_fM_isSure cI cZ cJ cQ a_0 a_0s a_0owner a_0isOver a_0before a_0slots a_0isKept a_0buffer a_0cells a_0code a_0table a_0isRuled a_0all a_0some a_0chosen a_0last a_0corner a_0wide a_0cuts a_0aside known_0 length_0 thrown_0 many_0 round_0 seed_0 hash_0 s_0 owner_0 isOver_0) sz) (wl_fM_isSure cI cZ cJ cQ a_0 a_0s a_0owner a_0isOver a_0before a_0slots a_0isKept a_0buffer a_0cells a_0code a_0table a_0isRuled a_0all a_0some a_0chosen a_0last a_0corner a_0wide a_0cuts a_0aside known_0 length_0 thrown_0 many_0 round_0 seed_0 hash_0 s_0 owner_0 isOver_0)) (va_A (wl_fM_isSure cI cZ cJ cQ a_0 a_0s a_0owner a_0isOver a_0before a_0slots a_0isKept a_0buffer a_0cells a_0code a_0table a_0isRuled a_0all a_0some a_0chosen a_0last a_0corner a_0wide a_0cuts a_0aside known_0 length_0 thrown_0 many_0 round_0 seed_0 hash_0 s_0 owner_0 isOver_0) sz)) 0 0 (va_A (wl_fM_isSure cI cZ cJ cQ a_0 a_0s a_0owner a_0isOver a_0before a_0slots a_0isKept a_0buffer a_0cells a_0code a_0table a_0isRuled a_0all a_0some a_0chosen a_0last a_0corner a_0wide a_0cuts a_0aside known_0 length_0 thrown_0 many_0 round_0 seed_0 hash_0 s_0 owner_0 isOver_0) sz) := by
  refine wh_ofWz (lv := [(0, .ref a_0), (1, .int x1)]) RX10 (by decide) rfl rfl (Nat.le_of_ble_eq_true rfl) rfl ?_
  intro p e s m below meth c A QQ hx hb hml hown hts hP hK hN hD hA hret ls hl
  have hS : va_S A s.heap s.heap [] := va_S.rf
  have hiX10 : ∀ w ∈ wsX100, w ∈ wsX10_isSure := (fun _ h => List.mem_cons_of_mem _ (List.mem_append_right _ (h)))
  unfold fM_isSure at hf
  refine lv_aload_n hx hb dX10_isSure_0 rfl (lv_at hl 0 rfl) ?_
  refine va_get (D := (dC, dI)) (ci := 10) (C := RX10) (T := TX10) (N := 26) hx hb hts hiX10 hown hK hP 0 rfl rfl 0 (by decide) (hts (.fieldLink RX10 7 "PaddockFieldsModel" "s" "[I") (List.mem_cons_of_mem _ (List.mem_append_left _ (List.mem_of_getElem? (i := 0) rfl)))) (fun _ h9 => h9) rfl dX10_isSure_1 ?_
  refine lv_iload_n hx hb dX10_isSure_4 rfl (lv_at hl 1 rfl) ?_
  obtain ⟨v1, h_v1, hf⟩ := hf_bind hf
  refine wh_ldI (D := (dC, dI)) hx hb hK hP 1 0 rfl rfl h_v1 dX10_isSure_5 ?_
  refine lv_if_le (tgt := 34) hx hb dX10_isSure_6 (by decide) (fun cc => ?_) (fun cc => ?_)
  · replace hf := hf_pos cc hf
    refine lv_iconst (v := 0) hx hb dX10_isSure_34 (by decide) ?_
    obtain rfl := Option.some.inj hf
    exact hret _ _ _ _ (by decide) hP hD hS dX10_isSure_35
  · replace hf := hf_neg cc hf
    refine lv_aload_n hx hb dX10_isSure_9 rfl (lv_at hl 0 rfl) ?_
    refine va_get (D := (dC, dI)) (ci := 10) (C := RX10) (T := TX10) (N := 26) hx hb hts hiX10 hown hK hP 0 rfl rfl 0 (by decide) (hts (.fieldLink RX10 7 "PaddockFieldsModel" "s" "[I") (List.mem_cons_of_mem _ (List.mem_append_left _ (List.mem_of_getElem? (i := 0) rfl)))) (fun _ h9 => h9) rfl dX10_isSure_10 ?_
    refine lv_bipush (v := 42) hx hb dX10_isSure_13 (by decide) ?_
    refine lv_iload_n hx hb dX10_isSure_15 rfl (lv_at hl 1 rfl) ?_
    refine lv_iadd hx hb dX10_isSure_16 ?_
    obtain ⟨v2, h_v2, hf⟩ := hf_bind hf
    refine wh_ldI (D := (dC, dI)) hx hb hK hP 1 0 rfl rfl h_v2 dX10_isSure_17 ?_
    refine lv_if_ne (tgt := 34) hx hb dX10_isSure_18 (by decide) (fun cc => ?_) (fun cc => ?_)
    · replace hf := hf_pos cc hf
      refine lv_iconst (v := 0) hx hb dX10_isSure_34 (by decide) ?_
      obtain rfl := Option.some.inj hf
      exact hret _ _ _ _ (by decide) hP hD hS dX10_isSure_35
    · replace hf := hf_neg (not_not_intro cc) hf
      refine lv_aload_n hx hb dX10_isSure_21 rfl (lv_at hl 0 rfl) ?_
      refine lv_iload_n hx hb dX10_isSure_22 rfl (lv_at hl 1 rfl) ?_
      obtain ⟨s3, h_s3, hf⟩ := hf_bind hf
      refine wh_calli (D := (dC, dI)) (ws' := (wl_fM_isSure cI cZ cJ cQ a_0 a_0s a_0owner a_0isOver a_0before a_0slots a_0isKept a_0buffer a_0cells a_0code a_0table a_0isRuled a_0all a_0some a_0chosen a_0last a_0corner a_0wide a_0cuts a_0aside known_0 length_0 thrown_0 many_0 round_0 seed_0 hash_0 s_0 owner_0 isOver_0)) (va_runV (As := [.int x1]) (rest := []) ⟨hx, hb, hml, hown, hts⟩ (c_fM_leftIn l dC dI cI cZ cJ cQ a_0 a_0owner a_0isOver a_0s a_0before a_0slots a_0isKept a_0buffer a_0cells a_0code a_0table a_0isRuled a_0all a_0some a_0chosen a_0last a_0corner a_0wide a_0cuts a_0aside known_0 length_0 thrown_0 round_0 seed_0 hash_0 _ h_s3) (cwV 1 hts gX10_isSure_X10_leftIn rfl rfl rfl (by decide +kernel) ⟨Nat.le_of_ble_eq_true rfl, Nat.le_of_ble_eq_true rfl⟩) (wh_preV (C := RX10) (T := TX10) (N := 26) hK hN hP hD [0, 2, 3] rfl rfl 10 0 rfl rfl) rfl rfl hl.1 rfl (lv_room (Nat.le_of_ble_eq_true rfl)) dX10_isSure_23 ⟨Nat.le_refl _, Nat.le_refl _⟩) hP hD hS hA [0, 2, 3] [1] [1, 0, 2, 3] rfl rfl rfl rfl (fun H locs hP hD hS => ?_)
      refine lv_iconst (v := 1) hx hb dX10_isSure_26 (by decide) ?_
      refine lv_icmp_ne (tgt := 34) hx hb dX10_isSure_27 (by decide) (fun cc => ?_) (fun cc => ?_)
      · replace hf := hf_pos cc hf
        refine lv_iconst (v := 0) hx hb dX10_isSure_34 (by decide) ?_
        obtain rfl := Option.some.inj hf
        exact hret _ _ _ _ (by decide) hP hD hS dX10_isSure_35
      · replace hf := hf_neg (not_not_intro cc) hf
        refine lv_iconst (v := 1) hx hb dX10_isSure_30 (by decide) ?_
        refine lv_goto (tgt := 35) hx hb dX10_isSure_31 (by decide) ?_
        obtain rfl := Option.some.inj hf
        exact hret _ _ _ _ (by decide) hP hD hS dX10_isSure_35
set_option maxHeartbeats 4000000 in
set_option maxRecDepth 100000 in
theorem c_fM_sure (l : Launch) (dC : Nat → ClassId) (dI : Nat → Nat → Nat) (cI cZ cJ cQ : ClassId) (a_0 a_0s a_0owner a_0isOver a_0before a_0slots a_0isKept a_0buffer a_0cells a_0code a_0table a_0isRuled a_0all a_0some a_0chosen a_0last a_0corner a_0wide a_0cuts a_0aside : Nat) (known_0 : Int32) (length_0 : Int32) (thrown_0 : Int32) (round_0 : Int32) (seed_0 : Int64) (hash_0 : Int64) (sz : Nat) {F : Nat} {s_0 : Nat → Int32} {many_0 : Int32} {owner_0 : Nat → Int32} {isOver_0 : Nat → Int32} {out : Int32} (hf : fM_sure F s_0 many_0 owner_0 isOver_0 = some out) : Met l yX10_sure wsX10_sure ({ frames := 2, cells := 0, slots := 0, locals := 44 } : Room) (va_Pc [.ref a_0] (wlP (dC, dI) (wlT cI cZ cJ cQ) (wl_fM_sure cI cZ cJ cQ a_0 a_0s a_0owner a_0isOver a_0before a_0slots a_0isKept a_0buffer a_0cells a_0code a_0table a_0isRuled a_0all a_0some a_0chosen a_0last a_0corner a_0wide a_0cuts a_0aside known_0 length_0 thrown_0 many_0 round_0 seed_0 hash_0 s_0 owner_0 isOver_0) sz)) (va_Qi (fun (v : Int32) (_ : Unit) => v = out) (wlQ (dC, dI) (va_A (wl_fM_sure cI cZ cJ cQ a_0 a_0s a_0owner a_0isOver a_0before a_0slots a_0isKept a_0buffer a_0cells a_0code a_0table a_0isRuled a_0all a_0some a_0chosen a_0last a_0corner a_0wide a_0cuts a_0aside known_0 length_0 thrown_0 many_0 round_0 seed_0 hash_0 s_0 owner_0 isOver_0) sz) (wl_fM_sure cI cZ cJ cQ a_0 a_0s a_0owner a_0isOver a_0before a_0slots a_0isKept a_0buffer a_0cells a_0code a_0table a_0isRuled a_0all a_0some a_0chosen a_0last a_0corner a_0wide a_0cuts a_0aside known_0 length_0 thrown_0 many_0 round_0 seed_0 hash_0 s_0 owner_0 isOver_0)) (va_A (wl_fM_sure cI cZ cJ cQ a_0 a_0s a_0owner a_0isOver a_0before a_0slots a_0isKept a_0buffer a_0cells a_0code a_0table a_0isRuled a_0all a_0some a_0chosen a_0last a_0corner a_0wide a_0cuts a_0aside known_0 length_0 thrown_0 many_0 round_0 seed_0 hash_0 s_0 owner_0 isOver_0) sz)) 0 0 (va_A (wl_fM_sure cI cZ cJ cQ a_0 a_0s a_0owner a_0isOver a_0before a_0slots a_0isKept a_0buffer a_0cells a_0code a_0table a_0isRuled a_0all a_0some a_0chosen a_0last a_0corner a_0wide a_0cuts a_0aside known_0 length_0 thrown_0 many_0 round_0 seed_0 hash_0 s_0 owner_0 isOver_0) sz) := by
  refine wh_ofWi (lv := [(0, .ref a_0)]) RX10 (by decide) rfl rfl (Nat.le_of_ble_eq_true rfl) rfl ?_
  intro p e s m below meth c A QQ hx hb hml hown hts hP hK hN hD hA hret ls hl
  have hS : va_S A s.heap s.heap [] := va_S.rf
  unfold fM_sure at hf
  refine lv_iconst (v := 0) hx hb dX10_sure_0 (by decide) ?_
  refine lv_istore_n (lv' := [(1, .int (0 : Int32)), (0, .ref a_0)]) hx hb dX10_sure_1 rfl hl (by decide) rfl (fun ls hl => ?_)
  refine lv_iconst (v := 0) hx hb dX10_sure_2 (by decide) ?_
  refine lv_istore_n (lv' := [(2, .int (0 : Int32)), (1, .int (0 : Int32)), (0, .ref a_0)]) hx hb dX10_sure_3 rfl hl (by decide) rfl (fun ls hl => ?_)
  obtain ⟨r3, h_r3, hf⟩ := hf_bind hf
  have hE_1 : ∀ (H : Heap) (locs : List Loc) (ls : Array Slot), lv_has ls 3 [(1, .int r3.1)] → va_P (dC, dI) vwCl (wl_fM_sure cI cZ cJ cQ a_0 a_0s a_0owner a_0isOver a_0before a_0slots a_0isKept a_0buffer a_0cells a_0code a_0table a_0isRuled a_0all a_0some a_0chosen a_0last a_0corner a_0wide a_0cuts a_0aside known_0 length_0 thrown_0 many_0 round_0 seed_0 hash_0 s_0 owner_0 isOver_0) H → va_D A (wl_fM_sure cI cZ cJ cQ a_0 a_0s a_0owner a_0isOver a_0before a_0slots a_0isKept a_0buffer a_0cells a_0code a_0table a_0isRuled a_0all a_0some a_0chosen a_0last a_0corner a_0wide a_0cuts a_0aside known_0 length_0 thrown_0 many_0 round_0 seed_0 hash_0 s_0 owner_0 isOver_0) → va_S A s.heap H locs → W p l e ({ frames := 2, cells := 0, slots := 0, locals := 44 } : Room) s m [.ref a_0].toArray below meth c H locs 0 0 QQ (F0 m 32 ls []) := by
    intro H locs ls hl hP hD hS
    refine lv_iload_n hx hb dX10_sure_32 rfl (lv_at hl 0 rfl) ?_
    obtain rfl := Option.some.inj hf
    exact hret _ _ _ _ hP hD hS dX10_sure_33
  have hL_2 : ∀ (N : Nat) (l1_3 : Int32) (l2_4 : Int32), fM_sure_L4 F s_0 many_0 owner_0 isOver_0 N l1_3 l2_4 = some r3 → ∀ (H : Heap) (locs : List Loc) (ls : Array Slot), lv_has ls 3 [(0, .ref a_0), (1, .int l1_3), (2, .int l2_4)] → va_P (dC, dI) vwCl (wl_fM_sure cI cZ cJ cQ a_0 a_0s a_0owner a_0isOver a_0before a_0slots a_0isKept a_0buffer a_0cells a_0code a_0table a_0isRuled a_0all a_0some a_0chosen a_0last a_0corner a_0wide a_0cuts a_0aside known_0 length_0 thrown_0 many_0 round_0 seed_0 hash_0 s_0 owner_0 isOver_0) H → va_D A (wl_fM_sure cI cZ cJ cQ a_0 a_0s a_0owner a_0isOver a_0before a_0slots a_0isKept a_0buffer a_0cells a_0code a_0table a_0isRuled a_0all a_0some a_0chosen a_0last a_0corner a_0wide a_0cuts a_0aside known_0 length_0 thrown_0 many_0 round_0 seed_0 hash_0 s_0 owner_0 isOver_0) → va_S A s.heap H locs → W p l e ({ frames := 2, cells := 0, slots := 0, locals := 44 } : Room) s m [.ref a_0].toArray below meth c H locs 0 0 QQ (F0 m 4 ls []) := by
    intro N
    induction N with
    | zero => intro l1_3 l2_4 hf; exact nomatch (show none = some _ from hf)
    | succ N ih =>
      intro l1_3 l2_4 hf H locs ls hl hP hD hS
      rw [fM_sure_L4] at hf
      refine lv_iload_n hx hb dX10_sure_4 rfl (lv_at hl 2 rfl) ?_
      refine lv_bipush (v := 42) hx hb dX10_sure_5 (by decide) ?_
      refine lv_icmp_ge (tgt := 32) hx hb dX10_sure_7 (by decide) (fun cc => ?_) (fun cc => ?_)
      · replace hf := hf_pos cc hf
        obtain rfl := Option.some.inj hf
        exact hE_1 _ _ _ (lv_sub hl [1] rfl) hP hD hS
      · replace hf := hf_neg cc hf
        refine lv_iload_n hx hb dX10_sure_10 rfl (lv_at hl 1 rfl) ?_
        refine lv_aload_n hx hb dX10_sure_11 rfl (lv_at hl 0 rfl) ?_
        refine lv_iload_n hx hb dX10_sure_12 rfl (lv_at hl 2 rfl) ?_
        obtain ⟨s1, h_s1, hf⟩ := hf_bind hf
        refine wh_calli (D := (dC, dI)) (ws' := (wl_fM_sure cI cZ cJ cQ a_0 a_0s a_0owner a_0isOver a_0before a_0slots a_0isKept a_0buffer a_0cells a_0code a_0table a_0isRuled a_0all a_0some a_0chosen a_0last a_0corner a_0wide a_0cuts a_0aside known_0 length_0 thrown_0 many_0 round_0 seed_0 hash_0 s_0 owner_0 isOver_0)) (va_runV (As := [.int l2_4]) (rest := [.int l1_3]) ⟨hx, hb, hml, hown, hts⟩ (c_fM_isSure l dC dI cI cZ cJ cQ a_0 a_0s a_0owner a_0isOver a_0before a_0slots a_0isKept a_0buffer a_0cells a_0code a_0table a_0isRuled a_0all a_0some a_0chosen a_0last a_0corner a_0wide a_0cuts a_0aside known_0 length_0 thrown_0 round_0 seed_0 hash_0 _ h_s1) (cwV 1 hts gX10_sure_X10_isSure rfl rfl rfl (by decide +kernel) ⟨Nat.le_of_ble_eq_true rfl, Nat.le_of_ble_eq_true rfl⟩) (wh_preV (C := RX10) (T := TX10) (N := 26) hK hN hP hD [0, 1, 2, 3] rfl rfl 10 0 rfl rfl) rfl rfl hl.1 rfl (lv_room (Nat.le_of_ble_eq_true rfl)) dX10_sure_13 ⟨Nat.le_refl _, Nat.le_refl _⟩) hP hD hS hA [0, 1, 2, 3] [] [0, 1, 2, 3] rfl rfl rfl rfl (fun H locs hP hD hS => ?_)
        obtain ⟨j2, h_j2, hf⟩ := hf_bind hf
        have hJ_5 : ∀ (H : Heap) (locs : List Loc) (ls : Array Slot), lv_has ls 3 [(0, .ref a_0), (2, .int l2_4)] → va_P (dC, dI) vwCl (wl_fM_sure cI cZ cJ cQ a_0 a_0s a_0owner a_0isOver a_0before a_0slots a_0isKept a_0buffer a_0cells a_0code a_0table a_0isRuled a_0all a_0some a_0chosen a_0last a_0corner a_0wide a_0cuts a_0aside known_0 length_0 thrown_0 many_0 round_0 seed_0 hash_0 s_0 owner_0 isOver_0) H → va_D A (wl_fM_sure cI cZ cJ cQ a_0 a_0s a_0owner a_0isOver a_0before a_0slots a_0isKept a_0buffer a_0cells a_0code a_0table a_0isRuled a_0all a_0some a_0chosen a_0last a_0corner a_0wide a_0cuts a_0aside known_0 length_0 thrown_0 many_0 round_0 seed_0 hash_0 s_0 owner_0 isOver_0) → va_S A s.heap H locs → W p l e ({ frames := 2, cells := 0, slots := 0, locals := 44 } : Room) s m [.ref a_0].toArray below meth c H locs 0 0 QQ (F0 m 24 ls [.int j2, .int l1_3]) := by
          intro H locs ls hl hP hD hS
          refine lv_iadd hx hb dX10_sure_24 ?_
          refine lv_istore_n (lv' := [(1, .int (l1_3 + j2)), (0, .ref a_0), (2, .int l2_4)]) hx hb dX10_sure_25 rfl hl (by decide) rfl (fun ls hl => ?_)
          refine lv_iinc (v := (l2_4 + (1 : Int32))) (lv' := [(2, .int (l2_4 + (1 : Int32))), (1, .int (l1_3 + j2)), (0, .ref a_0)]) hx hb dX10_sure_26 hl (k := 2) rfl rfl (by decide) rfl (fun ls hl => ?_)
          refine lv_goto (tgt := 4) hx hb dX10_sure_29 (by decide) ?_
          exact ih _ _ hf _ _ _ (lv_sub hl [2, 1, 0] rfl) hP hD hS
        clear hf
        have hf := h_j2
        clear h_j2
        refine lv_if_eq (tgt := 23) hx hb dX10_sure_16 (by decide) (fun cc => ?_) (fun cc => ?_)
        · replace hf := hf_pos cc hf
          refine lv_iconst (v := 0) hx hb dX10_sure_23 (by decide) ?_
          obtain rfl := Option.some.inj hf
          exact hJ_5 _ _ _ (lv_sub hl [0, 2] rfl) hP hD hS
        · replace hf := hf_neg cc hf
          refine lv_iconst (v := 1) hx hb dX10_sure_19 (by decide) ?_
          refine lv_goto (tgt := 24) hx hb dX10_sure_20 (by decide) ?_
          obtain rfl := Option.some.inj hf
          exact hJ_5 _ _ _ (lv_sub hl [0, 2] rfl) hP hD hS
  exact hL_2 _ _ _ h_r3 _ _ _ (lv_sub hl [2, 1, 0] rfl) hP hD hS
set_option maxHeartbeats 4000000 in
set_option maxRecDepth 100000 in
theorem c_fM_firstSure (l : Launch) (dC : Nat → ClassId) (dI : Nat → Nat → Nat) (cI cZ cJ cQ : ClassId) (a_0 a_0s a_0owner a_0isOver a_0before a_0slots a_0isKept a_0buffer a_0cells a_0code a_0table a_0isRuled a_0all a_0some a_0chosen a_0last a_0corner a_0wide a_0cuts a_0aside : Nat) (known_0 : Int32) (length_0 : Int32) (thrown_0 : Int32) (round_0 : Int32) (seed_0 : Int64) (hash_0 : Int64) (sz : Nat) {F : Nat} {s_0 : Nat → Int32} {many_0 : Int32} {owner_0 : Nat → Int32} {isOver_0 : Nat → Int32} {out : Int32} (hf : fM_firstSure F s_0 many_0 owner_0 isOver_0 = some out) : Met l yX10_firstSure wsX10_firstSure ({ frames := 2, cells := 0, slots := 0, locals := 44 } : Room) (va_Pc [.ref a_0] (wlP (dC, dI) (wlT cI cZ cJ cQ) (wl_fM_firstSure cI cZ cJ cQ a_0 a_0s a_0owner a_0isOver a_0before a_0slots a_0isKept a_0buffer a_0cells a_0code a_0table a_0isRuled a_0all a_0some a_0chosen a_0last a_0corner a_0wide a_0cuts a_0aside known_0 length_0 thrown_0 many_0 round_0 seed_0 hash_0 s_0 owner_0 isOver_0) sz)) (va_Qi (fun (v : Int32) (_ : Unit) => v = out) (wlQ (dC, dI) (va_A (wl_fM_firstSure cI cZ cJ cQ a_0 a_0s a_0owner a_0isOver a_0before a_0slots a_0isKept a_0buffer a_0cells a_0code a_0table a_0isRuled a_0all a_0some a_0chosen a_0last a_0corner a_0wide a_0cuts a_0aside known_0 length_0 thrown_0 many_0 round_0 seed_0 hash_0 s_0 owner_0 isOver_0) sz) (wl_fM_firstSure cI cZ cJ cQ a_0 a_0s a_0owner a_0isOver a_0before a_0slots a_0isKept a_0buffer a_0cells a_0code a_0table a_0isRuled a_0all a_0some a_0chosen a_0last a_0corner a_0wide a_0cuts a_0aside known_0 length_0 thrown_0 many_0 round_0 seed_0 hash_0 s_0 owner_0 isOver_0)) (va_A (wl_fM_firstSure cI cZ cJ cQ a_0 a_0s a_0owner a_0isOver a_0before a_0slots a_0isKept a_0buffer a_0cells a_0code a_0table a_0isRuled a_0all a_0some a_0chosen a_0last a_0corner a_0wide a_0cuts a_0aside known_0 length_0 thrown_0 many_0 round_0 seed_0 hash_0 s_0 owner_0 isOver_0) sz)) 0 0 (va_A (wl_fM_firstSure cI cZ cJ cQ a_0 a_0s a_0owner a_0isOver a_0before a_0slots a_0isKept a_0buffer a_0cells a_0code a_0table a_0isRuled a_0all a_0some a_0chosen a_0last a_0corner a_0wide a_0cuts a_0aside known_0 length_0 thrown_0 many_0 round_0 seed_0 hash_0 s_0 owner_0 isOver_0) sz) := by
  refine wh_ofWi (lv := [(0, .ref a_0)]) RX10 (by decide) rfl rfl (Nat.le_of_ble_eq_true rfl) rfl ?_
  intro p e s m below meth c A QQ hx hb hml hown hts hP hK hN hD hA hret ls hl
  have hS : va_S A s.heap s.heap [] := va_S.rf
  unfold fM_firstSure at hf
  refine lv_iconst (v := 0) hx hb dX10_firstSure_0 (by decide) ?_
  refine lv_istore_n (lv' := [(1, .int (0 : Int32)), (0, .ref a_0)]) hx hb dX10_firstSure_1 rfl hl (by decide) rfl (fun ls hl => ?_)
  have hL_1 : ∀ (N : Nat) (l1_2 : Int32), fM_firstSure_L2 F s_0 many_0 owner_0 isOver_0 N l1_2 = some out → ∀ (H : Heap) (locs : List Loc) (ls : Array Slot), lv_has ls 2 [(0, .ref a_0), (1, .int l1_2)] → va_P (dC, dI) vwCl (wl_fM_firstSure cI cZ cJ cQ a_0 a_0s a_0owner a_0isOver a_0before a_0slots a_0isKept a_0buffer a_0cells a_0code a_0table a_0isRuled a_0all a_0some a_0chosen a_0last a_0corner a_0wide a_0cuts a_0aside known_0 length_0 thrown_0 many_0 round_0 seed_0 hash_0 s_0 owner_0 isOver_0) H → va_D A (wl_fM_firstSure cI cZ cJ cQ a_0 a_0s a_0owner a_0isOver a_0before a_0slots a_0isKept a_0buffer a_0cells a_0code a_0table a_0isRuled a_0all a_0some a_0chosen a_0last a_0corner a_0wide a_0cuts a_0aside known_0 length_0 thrown_0 many_0 round_0 seed_0 hash_0 s_0 owner_0 isOver_0) → va_S A s.heap H locs → W p l e ({ frames := 2, cells := 0, slots := 0, locals := 44 } : Room) s m [.ref a_0].toArray below meth c H locs 0 0 QQ (F0 m 2 ls []) := by
    intro N
    induction N with
    | zero => intro l1_2 hf; exact nomatch (show none = some _ from hf)
    | succ N ih =>
      intro l1_2 hf H locs ls hl hP hD hS
      rw [fM_firstSure_L2] at hf
      refine lv_iload_n hx hb dX10_firstSure_2 rfl (lv_at hl 1 rfl) ?_
      refine lv_bipush (v := 42) hx hb dX10_firstSure_3 (by decide) ?_
      refine lv_icmp_ge (tgt := 24) hx hb dX10_firstSure_5 (by decide) (fun cc => ?_) (fun cc => ?_)
      · replace hf := hf_pos cc hf
        refine lv_iconst (v := -1) hx hb dX10_firstSure_24 (by decide) ?_
        obtain rfl := Option.some.inj hf
        exact hret _ _ _ _ hP hD hS dX10_firstSure_25
      · replace hf := hf_neg cc hf
        refine lv_aload_n hx hb dX10_firstSure_8 rfl (lv_at hl 0 rfl) ?_
        refine lv_iload_n hx hb dX10_firstSure_9 rfl (lv_at hl 1 rfl) ?_
        obtain ⟨s1, h_s1, hf⟩ := hf_bind hf
        refine wh_calli (D := (dC, dI)) (ws' := (wl_fM_firstSure cI cZ cJ cQ a_0 a_0s a_0owner a_0isOver a_0before a_0slots a_0isKept a_0buffer a_0cells a_0code a_0table a_0isRuled a_0all a_0some a_0chosen a_0last a_0corner a_0wide a_0cuts a_0aside known_0 length_0 thrown_0 many_0 round_0 seed_0 hash_0 s_0 owner_0 isOver_0)) (va_runV (As := [.int l1_2]) (rest := []) ⟨hx, hb, hml, hown, hts⟩ (c_fM_isSure l dC dI cI cZ cJ cQ a_0 a_0s a_0owner a_0isOver a_0before a_0slots a_0isKept a_0buffer a_0cells a_0code a_0table a_0isRuled a_0all a_0some a_0chosen a_0last a_0corner a_0wide a_0cuts a_0aside known_0 length_0 thrown_0 round_0 seed_0 hash_0 _ h_s1) (cwV 1 hts gX10_firstSure_X10_isSure rfl rfl rfl (by decide +kernel) ⟨Nat.le_of_ble_eq_true rfl, Nat.le_of_ble_eq_true rfl⟩) (wh_preV (C := RX10) (T := TX10) (N := 26) hK hN hP hD [0, 1, 2, 3] rfl rfl 10 0 rfl rfl) rfl rfl hl.1 rfl (lv_room (Nat.le_of_ble_eq_true rfl)) dX10_firstSure_10 ⟨Nat.le_refl _, Nat.le_refl _⟩) hP hD hS hA [0, 1, 2, 3] [] [0, 1, 2, 3] rfl rfl rfl rfl (fun H locs hP hD hS => ?_)
        refine lv_if_eq (tgt := 18) hx hb dX10_firstSure_13 (by decide) (fun cc => ?_) (fun cc => ?_)
        · replace hf := hf_pos cc hf
          refine lv_iinc (v := (l1_2 + (1 : Int32))) (lv' := [(1, .int (l1_2 + (1 : Int32))), (0, .ref a_0)]) hx hb dX10_firstSure_18 hl (k := 1) rfl rfl (by decide) rfl (fun ls hl => ?_)
          refine lv_goto (tgt := 2) hx hb dX10_firstSure_21 (by decide) ?_
          exact ih _ hf _ _ _ (lv_sub hl [1, 0] rfl) hP hD hS
        · replace hf := hf_neg cc hf
          refine lv_iload_n hx hb dX10_firstSure_16 rfl (lv_at hl 1 rfl) ?_
          obtain rfl := Option.some.inj hf
          exact hret _ _ _ _ hP hD hS dX10_firstSure_17
  exact hL_1 _ _ hf _ _ _ (lv_sub hl [1, 0] rfl) hP hD hS
set_option maxHeartbeats 4000000 in
set_option maxRecDepth 100000 in
theorem c_fM_remembers (l : Launch) (dC : Nat → ClassId) (dI : Nat → Nat → Nat) (cI cZ cJ cQ : ClassId) (a_0 a_0s a_0corner a_0wide a_0chosen a_0cells a_0owner a_0before a_0slots a_0isKept a_0buffer a_0code a_0table a_0isOver a_0isRuled a_0all a_0some a_0last a_0cuts a_0aside : Nat) (known_0 : Int32) (length_0 : Int32) (thrown_0 : Int32) (many_0 : Int32) (round_0 : Int32) (seed_0 : Int64) (hash_0 : Int64) (sz : Nat) {F : Nat} {x1 : Int32} {s_0 : Nat → Int32} {corner_0 : Nat → Int32} {wide_0 : Nat → Int32} {chosen_0 : Nat → Int32} {cells_0 : Nat → Int64} {owner_0 : Nat → Int32} {out : (Nat → Int32) × (Nat → Int32)} (hf : fM_remembers F x1 s_0 corner_0 wide_0 chosen_0 cells_0 owner_0 = some out) : Met l yX10_remembers wsX10_remembers ({ frames := 2, cells := 0, slots := 0, locals := 45 } : Room) (va_Pc [.ref a_0, .int x1] (wlP (dC, dI) (wlT cI cZ cJ cQ) (wl_fM_remembers cI cZ cJ cQ a_0 a_0s a_0corner a_0wide a_0chosen a_0cells a_0owner a_0before a_0slots a_0isKept a_0buffer a_0code a_0table a_0isOver a_0isRuled a_0all a_0some a_0last a_0cuts a_0aside known_0 length_0 thrown_0 many_0 round_0 seed_0 hash_0 s_0 corner_0 wide_0 chosen_0 cells_0 owner_0) sz)) (va_Qv (fun (_ : Unit) => True) (wlQ (dC, dI) (va_A (wl_fM_remembers cI cZ cJ cQ a_0 a_0s a_0corner a_0wide a_0chosen a_0cells a_0owner a_0before a_0slots a_0isKept a_0buffer a_0code a_0table a_0isOver a_0isRuled a_0all a_0some a_0last a_0cuts a_0aside known_0 length_0 thrown_0 many_0 round_0 seed_0 hash_0 s_0 corner_0 wide_0 chosen_0 cells_0 owner_0) sz) (wl_fM_remembers cI cZ cJ cQ a_0 a_0s a_0corner a_0wide a_0chosen a_0cells a_0owner a_0before a_0slots a_0isKept a_0buffer a_0code a_0table a_0isOver a_0isRuled a_0all a_0some a_0last a_0cuts a_0aside known_0 length_0 thrown_0 many_0 round_0 seed_0 hash_0 s_0 out.1 out.2 chosen_0 cells_0 owner_0)) (va_A (wl_fM_remembers cI cZ cJ cQ a_0 a_0s a_0corner a_0wide a_0chosen a_0cells a_0owner a_0before a_0slots a_0isKept a_0buffer a_0code a_0table a_0isOver a_0isRuled a_0all a_0some a_0last a_0cuts a_0aside known_0 length_0 thrown_0 many_0 round_0 seed_0 hash_0 s_0 corner_0 wide_0 chosen_0 cells_0 owner_0) sz)) 0 0 (va_A (wl_fM_remembers cI cZ cJ cQ a_0 a_0s a_0corner a_0wide a_0chosen a_0cells a_0owner a_0before a_0slots a_0isKept a_0buffer a_0code a_0table a_0isOver a_0isRuled a_0all a_0some a_0last a_0cuts a_0aside known_0 length_0 thrown_0 many_0 round_0 seed_0 hash_0 s_0 corner_0 wide_0 chosen_0 cells_0 owner_0) sz) := by
  refine wh_ofWv (lv := [(0, .ref a_0), (1, .int x1)]) RX10 (by decide) rfl rfl (Nat.le_of_ble_eq_true rfl) rfl ?_
  intro p e s m below meth c A QQ hx hb hml hown hts hP hK hN hD hA hret ls hl
  have hS : va_S A s.heap s.heap [] := va_S.rf
  have hiX10 : ∀ w ∈ wsX100, w ∈ wsX10_remembers := (fun _ h => List.mem_cons_of_mem _ (List.mem_append_right _ (h)))
  unfold fM_remembers at hf
  refine lv_iconst (v := 0) hx hb dX10_remembers_0 (by decide) ?_
  refine lv_istore_n (lv' := [(2, .int (0 : Int32)), (0, .ref a_0), (1, .int x1)]) hx hb dX10_remembers_1 rfl hl (by decide) rfl (fun ls hl => ?_)
  obtain ⟨r8, h_r8, hf⟩ := hf_bind hf
  have hE_1 : ∀ (H : Heap) (locs : List Loc) (ls : Array Slot), lv_has ls 4 [(0, .ref a_0), (1, .int x1)] → va_P (dC, dI) vwCl (wl_fM_remembers cI cZ cJ cQ a_0 a_0s a_0corner a_0wide a_0chosen a_0cells a_0owner a_0before a_0slots a_0isKept a_0buffer a_0code a_0table a_0isOver a_0isRuled a_0all a_0some a_0last a_0cuts a_0aside known_0 length_0 thrown_0 many_0 round_0 seed_0 hash_0 s_0 r8.2.1 r8.2.2 chosen_0 cells_0 owner_0) H → va_D A (wl_fM_remembers cI cZ cJ cQ a_0 a_0s a_0corner a_0wide a_0chosen a_0cells a_0owner a_0before a_0slots a_0isKept a_0buffer a_0code a_0table a_0isOver a_0isRuled a_0all a_0some a_0last a_0cuts a_0aside known_0 length_0 thrown_0 many_0 round_0 seed_0 hash_0 s_0 r8.2.1 r8.2.2 chosen_0 cells_0 owner_0) → va_S A s.heap H locs → W p l e ({ frames := 2, cells := 0, slots := 0, locals := 45 } : Room) s m [.ref a_0, .int x1].toArray below meth c H locs 0 0 QQ (F0 m 61 ls []) := by
    intro H locs ls hl hP hD hS
    refine lv_iconst (v := 0) hx hb dX10_remembers_61 (by decide) ?_
    refine lv_istore_n (lv' := [(2, .int (0 : Int32)), (0, .ref a_0), (1, .int x1)]) hx hb dX10_remembers_62 rfl hl (by decide) rfl (fun ls hl => ?_)
    obtain ⟨r22, h_r22, hf⟩ := hf_bind hf
    have hE_2 : ∀ (H : Heap) (locs : List Loc) (ls : Array Slot), lv_has ls 4 [] → va_P (dC, dI) vwCl (wl_fM_remembers cI cZ cJ cQ a_0 a_0s a_0corner a_0wide a_0chosen a_0cells a_0owner a_0before a_0slots a_0isKept a_0buffer a_0code a_0table a_0isOver a_0isRuled a_0all a_0some a_0last a_0cuts a_0aside known_0 length_0 thrown_0 many_0 round_0 seed_0 hash_0 s_0 r22.2.1 r22.2.2 chosen_0 cells_0 owner_0) H → va_D A (wl_fM_remembers cI cZ cJ cQ a_0 a_0s a_0corner a_0wide a_0chosen a_0cells a_0owner a_0before a_0slots a_0isKept a_0buffer a_0code a_0table a_0isOver a_0isRuled a_0all a_0some a_0last a_0cuts a_0aside known_0 length_0 thrown_0 many_0 round_0 seed_0 hash_0 s_0 r22.2.1 r22.2.2 chosen_0 cells_0 owner_0) → va_S A s.heap H locs → W p l e ({ frames := 2, cells := 0, slots := 0, locals := 45 } : Room) s m [.ref a_0, .int x1].toArray below meth c H locs 0 0 QQ (F0 m 148 ls []) := by
      intro H locs ls hl hP hD hS
      obtain rfl := Option.some.inj hf
      exact hret _ _ _ _ hP hD hS dX10_remembers_148
    have hL_3 : ∀ (N : Nat) (l2_4 : Int32) (corner_0_5 : Nat → Int32) (wide_0_6 : Nat → Int32), fM_remembers_L63 F x1 s_0 chosen_0 cells_0 owner_0 N l2_4 corner_0_5 wide_0_6 = some r22 → ∀ (H : Heap) (locs : List Loc) (ls : Array Slot), lv_has ls 4 [(0, .ref a_0), (1, .int x1), (2, .int l2_4)] → va_P (dC, dI) vwCl (wl_fM_remembers cI cZ cJ cQ a_0 a_0s a_0corner a_0wide a_0chosen a_0cells a_0owner a_0before a_0slots a_0isKept a_0buffer a_0code a_0table a_0isOver a_0isRuled a_0all a_0some a_0last a_0cuts a_0aside known_0 length_0 thrown_0 many_0 round_0 seed_0 hash_0 s_0 corner_0_5 wide_0_6 chosen_0 cells_0 owner_0) H → va_D A (wl_fM_remembers cI cZ cJ cQ a_0 a_0s a_0corner a_0wide a_0chosen a_0cells a_0owner a_0before a_0slots a_0isKept a_0buffer a_0code a_0table a_0isOver a_0isRuled a_0all a_0some a_0last a_0cuts a_0aside known_0 length_0 thrown_0 many_0 round_0 seed_0 hash_0 s_0 corner_0_5 wide_0_6 chosen_0 cells_0 owner_0) → va_S A s.heap H locs → W p l e ({ frames := 2, cells := 0, slots := 0, locals := 45 } : Room) s m [.ref a_0, .int x1].toArray below meth c H locs 0 0 QQ (F0 m 63 ls []) := by
      intro N
      induction N with
      | zero => intro l2_4 corner_0_5 wide_0_6 hf; exact nomatch (show none = some _ from hf)
      | succ N ih =>
        intro l2_4 corner_0_5 wide_0_6 hf H locs ls hl hP hD hS
        rw [fM_remembers_L63] at hf
        refine lv_iload_n hx hb dX10_remembers_63 rfl (lv_at hl 2 rfl) ?_
        refine lv_iload_n hx hb dX10_remembers_64 rfl (lv_at hl 1 rfl) ?_
        refine lv_icmp_ge (tgt := 148) hx hb dX10_remembers_65 (by decide) (fun cc => ?_) (fun cc => ?_)
        · replace hf := hf_pos cc hf
          obtain rfl := Option.some.inj hf
          exact hE_2 _ _ _ (lv_sub hl [] rfl) hP hD hS
        · replace hf := hf_neg cc hf
          refine lv_iconst (v := 0) hx hb dX10_remembers_68 (by decide) ?_
          refine lv_istore_n (lv' := [(3, .int (0 : Int32)), (0, .ref a_0), (1, .int x1), (2, .int l2_4)]) hx hb dX10_remembers_69 rfl hl (by decide) rfl (fun ls hl => ?_)
          obtain ⟨r21, h_r21, hf⟩ := hf_bind hf
          have hE_7 : ∀ (H : Heap) (locs : List Loc) (ls : Array Slot), lv_has ls 4 [(0, .ref a_0), (1, .int x1), (2, .int l2_4)] → va_P (dC, dI) vwCl (wl_fM_remembers cI cZ cJ cQ a_0 a_0s a_0corner a_0wide a_0chosen a_0cells a_0owner a_0before a_0slots a_0isKept a_0buffer a_0code a_0table a_0isOver a_0isRuled a_0all a_0some a_0last a_0cuts a_0aside known_0 length_0 thrown_0 many_0 round_0 seed_0 hash_0 s_0 r21.2.1 r21.2.2 chosen_0 cells_0 owner_0) H → va_D A (wl_fM_remembers cI cZ cJ cQ a_0 a_0s a_0corner a_0wide a_0chosen a_0cells a_0owner a_0before a_0slots a_0isKept a_0buffer a_0code a_0table a_0isOver a_0isRuled a_0all a_0some a_0last a_0cuts a_0aside known_0 length_0 thrown_0 many_0 round_0 seed_0 hash_0 s_0 r21.2.1 r21.2.2 chosen_0 cells_0 owner_0) → va_S A s.heap H locs → W p l e ({ frames := 2, cells := 0, slots := 0, locals := 45 } : Room) s m [.ref a_0, .int x1].toArray below meth c H locs 0 0 QQ (F0 m 142 ls []) := by
            intro H locs ls hl hP hD hS
            refine lv_iinc (v := (l2_4 + (1 : Int32))) (lv' := [(2, .int (l2_4 + (1 : Int32))), (0, .ref a_0), (1, .int x1)]) hx hb dX10_remembers_142 hl (k := 2) rfl rfl (by decide) rfl (fun ls hl => ?_)
            refine lv_goto (tgt := 63) hx hb dX10_remembers_145 (by decide) ?_
            exact ih _ _ _ hf _ _ _ (lv_sub hl [1, 2, 0] rfl) hP hD hS
          have hL_8 : ∀ (N : Nat) (l3_9 : Int32) (corner_0_10 : Nat → Int32) (wide_0_11 : Nat → Int32), fM_remembers_L70 F l2_4 s_0 chosen_0 cells_0 owner_0 N l3_9 corner_0_10 wide_0_11 = some r21 → ∀ (H : Heap) (locs : List Loc) (ls : Array Slot), lv_has ls 4 [(0, .ref a_0), (1, .int x1), (2, .int l2_4), (3, .int l3_9)] → va_P (dC, dI) vwCl (wl_fM_remembers cI cZ cJ cQ a_0 a_0s a_0corner a_0wide a_0chosen a_0cells a_0owner a_0before a_0slots a_0isKept a_0buffer a_0code a_0table a_0isOver a_0isRuled a_0all a_0some a_0last a_0cuts a_0aside known_0 length_0 thrown_0 many_0 round_0 seed_0 hash_0 s_0 corner_0_10 wide_0_11 chosen_0 cells_0 owner_0) H → va_D A (wl_fM_remembers cI cZ cJ cQ a_0 a_0s a_0corner a_0wide a_0chosen a_0cells a_0owner a_0before a_0slots a_0isKept a_0buffer a_0code a_0table a_0isOver a_0isRuled a_0all a_0some a_0last a_0cuts a_0aside known_0 length_0 thrown_0 many_0 round_0 seed_0 hash_0 s_0 corner_0_10 wide_0_11 chosen_0 cells_0 owner_0) → va_S A s.heap H locs → W p l e ({ frames := 2, cells := 0, slots := 0, locals := 45 } : Room) s m [.ref a_0, .int x1].toArray below meth c H locs 0 0 QQ (F0 m 70 ls []) := by
            intro N
            induction N with
            | zero => intro l3_9 corner_0_10 wide_0_11 hf; exact nomatch (show none = some _ from hf)
            | succ N ih =>
              intro l3_9 corner_0_10 wide_0_11 hf H locs ls hl hP hD hS
              rw [fM_remembers_L70] at hf
              refine lv_iload_n hx hb dX10_remembers_70 rfl (lv_at hl 3 rfl) ?_
              refine lv_bipush (v := 42) hx hb dX10_remembers_71 (by decide) ?_
              refine lv_icmp_ge (tgt := 142) hx hb dX10_remembers_73 (by decide) (fun cc => ?_) (fun cc => ?_)
              · replace hf := hf_pos cc hf
                obtain rfl := Option.some.inj hf
                exact hE_7 _ _ _ (lv_sub hl [0, 1, 2] rfl) hP hD hS
              · replace hf := hf_neg cc hf
                refine lv_aload_n hx hb dX10_remembers_76 rfl (lv_at hl 0 rfl) ?_
                refine va_get (D := (dC, dI)) (ci := 10) (C := RX10) (T := TX10) (N := 26) hx hb hts hiX10 hown hK hP 0 rfl rfl 8 (by decide) (hts (.fieldLink RX10 26 "PaddockFieldsModel" "cells" "[J") (List.mem_cons_of_mem _ (List.mem_append_left _ (List.mem_of_getElem? (i := 3) rfl)))) (fun _ h9 => h9) rfl dX10_remembers_77 ?_
                refine lv_aload_n hx hb dX10_remembers_80 rfl (lv_at hl 0 rfl) ?_
                refine va_get (D := (dC, dI)) (ci := 10) (C := RX10) (T := TX10) (N := 26) hx hb hts hiX10 hown hK hP 0 rfl rfl 18 (by decide) (hts (.fieldLink RX10 51 "PaddockFieldsModel" "chosen" "[I") (List.mem_cons_of_mem _ (List.mem_append_left _ (List.mem_of_getElem? (i := 4) rfl)))) (fun _ h9 => h9) rfl dX10_remembers_81 ?_
                refine lv_iload_n hx hb dX10_remembers_84 rfl (lv_at hl 2 rfl) ?_
                obtain ⟨v9, h_v9, hf⟩ := hf_bind hf
                refine wh_ldI (D := (dC, dI)) hx hb hK hP 4 0 rfl rfl h_v9 dX10_remembers_85 ?_
                obtain ⟨v10, h_v10, hf⟩ := hf_bind hf
                refine wh_ldJ (D := (dC, dI)) hx hb hK hP 5 2 rfl rfl h_v10 dX10_remembers_86 ?_
                refine lv_iload_n hx hb dX10_remembers_87 rfl (lv_at hl 3 rfl) ?_
                obtain ⟨s11, h_s11, hf⟩ := hf_bind hf
                refine wh_calli (D := (dC, dI)) (ws' := (wl_fM_remembers cI cZ cJ cQ a_0 a_0s a_0corner a_0wide a_0chosen a_0cells a_0owner a_0before a_0slots a_0isKept a_0buffer a_0code a_0table a_0isOver a_0isRuled a_0all a_0some a_0last a_0cuts a_0aside known_0 length_0 thrown_0 many_0 round_0 seed_0 hash_0 s_0 corner_0_10 wide_0_11 chosen_0 cells_0 owner_0)) (va_runS (As := [.long v10, .int l3_9]) (rest := []) ⟨hx, hb, hml, hown, hts⟩ (c_fM_has l dC dI cI cZ cJ cQ _ h_s11) (va_cwS 2 hts gX10_remembers_X10_has rfl rfl rfl (by decide +kernel) ⟨Nat.le_of_ble_eq_true rfl, Nat.le_of_ble_eq_true rfl⟩) (wh_preS hK hN hP hD [] rfl rfl) rfl rfl hl.1 rfl (lv_room (Nat.le_of_ble_eq_true rfl)) dX10_remembers_88 ⟨Nat.le_refl _, Nat.le_refl _⟩) hP hD hS hA [] [0, 1, 2, 3, 4, 5, 6] [0, 1, 2, 3, 4, 5, 6] rfl rfl rfl rfl (fun H locs hP hD hS => ?_)
                obtain ⟨j20, h_j20, hf⟩ := hf_bind hf
                have hJ_12 : ∀ (H : Heap) (locs : List Loc) (ls : Array Slot), lv_has ls 4 [(0, .ref a_0), (1, .int x1), (2, .int l2_4), (3, .int l3_9)] → va_P (dC, dI) vwCl (wl_fM_remembers cI cZ cJ cQ a_0 a_0s a_0corner a_0wide a_0chosen a_0cells a_0owner a_0before a_0slots a_0isKept a_0buffer a_0code a_0table a_0isOver a_0isRuled a_0all a_0some a_0last a_0cuts a_0aside known_0 length_0 thrown_0 many_0 round_0 seed_0 hash_0 s_0 j20.1 j20.2 chosen_0 cells_0 owner_0) H → va_D A (wl_fM_remembers cI cZ cJ cQ a_0 a_0s a_0corner a_0wide a_0chosen a_0cells a_0owner a_0before a_0slots a_0isKept a_0buffer a_0code a_0table a_0isOver a_0isRuled a_0all a_0some a_0last a_0cuts a_0aside known_0 length_0 thrown_0 many_0 round_0 seed_0 hash_0 s_0 j20.1 j20.2 chosen_0 cells_0 owner_0) → va_S A s.heap H locs → W p l e ({ frames := 2, cells := 0, slots := 0, locals := 45 } : Room) s m [.ref a_0, .int x1].toArray below meth c H locs 0 0 QQ (F0 m 136 ls []) := by
                  intro H locs ls hl hP hD hS
                  refine lv_iinc (v := (l3_9 + (1 : Int32))) (lv' := [(3, .int (l3_9 + (1 : Int32))), (0, .ref a_0), (1, .int x1), (2, .int l2_4)]) hx hb dX10_remembers_136 hl (k := 3) rfl rfl (by decide) rfl (fun ls hl => ?_)
                  refine lv_goto (tgt := 70) hx hb dX10_remembers_139 (by decide) ?_
                  exact ih _ _ _ hf _ _ _ (lv_sub hl [1, 2, 3, 0] rfl) hP hD hS
                clear hf
                have hf := h_j20
                clear h_j20
                refine lv_if_eq (tgt := 136) hx hb dX10_remembers_91 (by decide) (fun cc => ?_) (fun cc => ?_)
                · replace hf := hf_pos cc hf
                  obtain rfl := Option.some.inj hf
                  exact hJ_12 _ _ _ (lv_sub hl [0, 1, 2, 3] rfl) hP hD hS
                · replace hf := hf_neg cc hf
                  refine lv_aload_n hx hb dX10_remembers_94 rfl (lv_at hl 0 rfl) ?_
                  refine va_get (D := (dC, dI)) (ci := 10) (C := RX10) (T := TX10) (N := 26) hx hb hts hiX10 hown hK hP 0 rfl rfl 20 (by decide) (hts (.fieldLink RX10 57 "PaddockFieldsModel" "corner" "[I") (List.mem_cons_of_mem _ (List.mem_append_left _ (List.mem_of_getElem? (i := 0) rfl)))) (fun _ h9 => h9) rfl dX10_remembers_95 ?_
                  refine lv_iload_n hx hb dX10_remembers_98 rfl (lv_at hl 3 rfl) ?_
                  refine lv_aload_n hx hb dX10_remembers_99 rfl (lv_at hl 0 rfl) ?_
                  refine va_get (D := (dC, dI)) (ci := 10) (C := RX10) (T := TX10) (N := 26) hx hb hts hiX10 hown hK hP 0 rfl rfl 8 (by decide) (hts (.fieldLink RX10 26 "PaddockFieldsModel" "cells" "[J") (List.mem_cons_of_mem _ (List.mem_append_left _ (List.mem_of_getElem? (i := 3) rfl)))) (fun _ h9 => h9) rfl dX10_remembers_100 ?_
                  refine lv_aload_n hx hb dX10_remembers_103 rfl (lv_at hl 0 rfl) ?_
                  refine va_get (D := (dC, dI)) (ci := 10) (C := RX10) (T := TX10) (N := 26) hx hb hts hiX10 hown hK hP 0 rfl rfl 18 (by decide) (hts (.fieldLink RX10 51 "PaddockFieldsModel" "chosen" "[I") (List.mem_cons_of_mem _ (List.mem_append_left _ (List.mem_of_getElem? (i := 4) rfl)))) (fun _ h9 => h9) rfl dX10_remembers_104 ?_
                  refine lv_iload_n hx hb dX10_remembers_107 rfl (lv_at hl 2 rfl) ?_
                  obtain ⟨v12, h_v12, hf⟩ := hf_bind hf
                  refine wh_ldI (D := (dC, dI)) hx hb hK hP 4 0 rfl rfl h_v12 dX10_remembers_108 ?_
                  obtain ⟨v13, h_v13, hf⟩ := hf_bind hf
                  refine wh_ldJ (D := (dC, dI)) hx hb hK hP 5 2 rfl rfl h_v13 dX10_remembers_109 ?_
                  obtain ⟨s14, h_s14, hf⟩ := hf_bind hf
                  refine wh_calli (D := (dC, dI)) (ws' := (wl_fM_remembers cI cZ cJ cQ a_0 a_0s a_0corner a_0wide a_0chosen a_0cells a_0owner a_0before a_0slots a_0isKept a_0buffer a_0code a_0table a_0isOver a_0isRuled a_0all a_0some a_0last a_0cuts a_0aside known_0 length_0 thrown_0 many_0 round_0 seed_0 hash_0 s_0 corner_0_10 wide_0_11 chosen_0 cells_0 owner_0)) (va_runS (As := [.long v13]) (rest := [.int l3_9, .ref a_0corner]) ⟨hx, hb, hml, hown, hts⟩ (c_fM_lowest l dC dI cI cZ cJ cQ _ h_s14) (va_cwS 1 hts gX10_remembers_X10_lowest rfl rfl rfl (by decide +kernel) ⟨Nat.le_of_ble_eq_true rfl, Nat.le_of_ble_eq_true rfl⟩) (wh_preS hK hN hP hD [] rfl rfl) rfl rfl hl.1 rfl (lv_room (Nat.le_of_ble_eq_true rfl)) dX10_remembers_110 ⟨Nat.le_refl _, Nat.le_refl _⟩) hP hD hS hA [] [0, 1, 2, 3, 4, 5, 6] [0, 1, 2, 3, 4, 5, 6] rfl rfl rfl rfl (fun H locs hP hD hS => ?_)
                  obtain ⟨w15, h_w15, hf⟩ := hf_bind hf
                  refine wh_stI (D := (dC, dI)) (ws' := (wl_fM_remembers cI cZ cJ cQ a_0 a_0s a_0corner a_0wide a_0chosen a_0cells a_0owner a_0before a_0slots a_0isKept a_0buffer a_0code a_0table a_0isOver a_0isRuled a_0all a_0some a_0last a_0cuts a_0aside known_0 length_0 thrown_0 many_0 round_0 seed_0 hash_0 s_0 w15 wide_0_11 chosen_0 cells_0 owner_0)) hx hb hK hP hD hS 2 0 rfl rfl rfl h_w15 dX10_remembers_113 (fun H locs hP hD hS => ?_)
                  refine lv_aload_n hx hb dX10_remembers_114 rfl (lv_at hl 0 rfl) ?_
                  refine va_get (D := (dC, dI)) (ci := 10) (C := RX10) (T := TX10) (N := 26) hx hb hts hiX10 hown hK hP 0 rfl rfl 21 (by decide) (hts (.fieldLink RX10 60 "PaddockFieldsModel" "wide" "[I") (List.mem_cons_of_mem _ (List.mem_append_left _ (List.mem_of_getElem? (i := 2) rfl)))) (fun _ h9 => h9) rfl dX10_remembers_115 ?_
                  refine lv_iload_n hx hb dX10_remembers_118 rfl (lv_at hl 3 rfl) ?_
                  refine lv_aload_n hx hb dX10_remembers_119 rfl (lv_at hl 0 rfl) ?_
                  refine va_get (D := (dC, dI)) (ci := 10) (C := RX10) (T := TX10) (N := 26) hx hb hts hiX10 hown hK hP 0 rfl rfl 0 (by decide) (hts (.fieldLink RX10 7 "PaddockFieldsModel" "s" "[I") (List.mem_cons_of_mem _ (List.mem_append_left _ (List.mem_of_getElem? (i := 1) rfl)))) (fun _ h9 => h9) rfl dX10_remembers_120 ?_
                  refine lv_aload_n hx hb dX10_remembers_123 rfl (lv_at hl 0 rfl) ?_
                  refine va_get (D := (dC, dI)) (ci := 10) (C := RX10) (T := TX10) (N := 26) hx hb hts hiX10 hown hK hP 0 rfl rfl 9 (by decide) (hts (.fieldLink RX10 30 "PaddockFieldsModel" "owner" "[I") (List.mem_cons_of_mem _ (List.mem_append_left _ (List.mem_of_getElem? (i := 5) rfl)))) (fun _ h9 => h9) rfl dX10_remembers_124 ?_
                  refine lv_aload_n hx hb dX10_remembers_127 rfl (lv_at hl 0 rfl) ?_
                  refine va_get (D := (dC, dI)) (ci := 10) (C := RX10) (T := TX10) (N := 26) hx hb hts hiX10 hown hK hP 0 rfl rfl 18 (by decide) (hts (.fieldLink RX10 51 "PaddockFieldsModel" "chosen" "[I") (List.mem_cons_of_mem _ (List.mem_append_left _ (List.mem_of_getElem? (i := 4) rfl)))) (fun _ h9 => h9) rfl dX10_remembers_128 ?_
                  refine lv_iload_n hx hb dX10_remembers_131 rfl (lv_at hl 2 rfl) ?_
                  obtain ⟨v16, h_v16, hf⟩ := hf_bind hf
                  refine wh_ldI (D := (dC, dI)) hx hb hK hP 4 0 rfl rfl h_v16 dX10_remembers_132 ?_
                  obtain ⟨v17, h_v17, hf⟩ := hf_bind hf
                  refine wh_ldI (D := (dC, dI)) hx hb hK hP 6 0 rfl rfl h_v17 dX10_remembers_133 ?_
                  obtain ⟨v18, h_v18, hf⟩ := hf_bind hf
                  refine wh_ldI (D := (dC, dI)) hx hb hK hP 1 0 rfl rfl h_v18 dX10_remembers_134 ?_
                  obtain ⟨w19, h_w19, hf⟩ := hf_bind hf
                  refine wh_stI (D := (dC, dI)) (ws' := (wl_fM_remembers cI cZ cJ cQ a_0 a_0s a_0corner a_0wide a_0chosen a_0cells a_0owner a_0before a_0slots a_0isKept a_0buffer a_0code a_0table a_0isOver a_0isRuled a_0all a_0some a_0last a_0cuts a_0aside known_0 length_0 thrown_0 many_0 round_0 seed_0 hash_0 s_0 w15 w19 chosen_0 cells_0 owner_0)) hx hb hK hP hD hS 3 0 rfl rfl rfl h_w19 dX10_remembers_135 (fun H locs hP hD hS => ?_)
                  obtain rfl := Option.some.inj hf
                  exact hJ_12 _ _ _ (lv_sub hl [0, 1, 2, 3] rfl) hP hD hS
          exact hL_8 _ _ _ _ h_r21 _ _ _ (lv_sub hl [1, 2, 3, 0] rfl) hP hD hS
    exact hL_3 _ _ _ _ h_r22 _ _ _ (lv_sub hl [1, 2, 0] rfl) hP hD hS
  have hL_13 : ∀ (N : Nat) (l2_14 : Int32) (corner_0_15 : Nat → Int32) (wide_0_16 : Nat → Int32), fM_remembers_L2 F s_0 N l2_14 corner_0_15 wide_0_16 = some r8 → ∀ (H : Heap) (locs : List Loc) (ls : Array Slot), lv_has ls 4 [(0, .ref a_0), (1, .int x1), (2, .int l2_14)] → va_P (dC, dI) vwCl (wl_fM_remembers cI cZ cJ cQ a_0 a_0s a_0corner a_0wide a_0chosen a_0cells a_0owner a_0before a_0slots a_0isKept a_0buffer a_0code a_0table a_0isOver a_0isRuled a_0all a_0some a_0last a_0cuts a_0aside known_0 length_0 thrown_0 many_0 round_0 seed_0 hash_0 s_0 corner_0_15 wide_0_16 chosen_0 cells_0 owner_0) H → va_D A (wl_fM_remembers cI cZ cJ cQ a_0 a_0s a_0corner a_0wide a_0chosen a_0cells a_0owner a_0before a_0slots a_0isKept a_0buffer a_0code a_0table a_0isOver a_0isRuled a_0all a_0some a_0last a_0cuts a_0aside known_0 length_0 thrown_0 many_0 round_0 seed_0 hash_0 s_0 corner_0_15 wide_0_16 chosen_0 cells_0 owner_0) → va_S A s.heap H locs → W p l e ({ frames := 2, cells := 0, slots := 0, locals := 45 } : Room) s m [.ref a_0, .int x1].toArray below meth c H locs 0 0 QQ (F0 m 2 ls []) := by
    intro N
    induction N with
    | zero => intro l2_14 corner_0_15 wide_0_16 hf; exact nomatch (show none = some _ from hf)
    | succ N ih =>
      intro l2_14 corner_0_15 wide_0_16 hf H locs ls hl hP hD hS
      rw [fM_remembers_L2] at hf
      refine lv_iload_n hx hb dX10_remembers_2 rfl (lv_at hl 2 rfl) ?_
      refine lv_bipush (v := 42) hx hb dX10_remembers_3 (by decide) ?_
      refine lv_icmp_ge (tgt := 61) hx hb dX10_remembers_5 (by decide) (fun cc => ?_) (fun cc => ?_)
      · replace hf := hf_pos cc hf
        obtain rfl := Option.some.inj hf
        exact hE_1 _ _ _ (lv_sub hl [0, 1] rfl) hP hD hS
      · replace hf := hf_neg cc hf
        refine lv_aload_n hx hb dX10_remembers_8 rfl (lv_at hl 0 rfl) ?_
        refine va_get (D := (dC, dI)) (ci := 10) (C := RX10) (T := TX10) (N := 26) hx hb hts hiX10 hown hK hP 0 rfl rfl 20 (by decide) (hts (.fieldLink RX10 57 "PaddockFieldsModel" "corner" "[I") (List.mem_cons_of_mem _ (List.mem_append_left _ (List.mem_of_getElem? (i := 0) rfl)))) (fun _ h9 => h9) rfl dX10_remembers_9 ?_
        refine lv_iload_n hx hb dX10_remembers_12 rfl (lv_at hl 2 rfl) ?_
        refine lv_aload_n hx hb dX10_remembers_13 rfl (lv_at hl 0 rfl) ?_
        refine va_get (D := (dC, dI)) (ci := 10) (C := RX10) (T := TX10) (N := 26) hx hb hts hiX10 hown hK hP 0 rfl rfl 0 (by decide) (hts (.fieldLink RX10 7 "PaddockFieldsModel" "s" "[I") (List.mem_cons_of_mem _ (List.mem_append_left _ (List.mem_of_getElem? (i := 1) rfl)))) (fun _ h9 => h9) rfl dX10_remembers_14 ?_
        refine lv_bipush (v := 42) hx hb dX10_remembers_17 (by decide) ?_
        refine lv_iload_n hx hb dX10_remembers_19 rfl (lv_at hl 2 rfl) ?_
        refine lv_iadd hx hb dX10_remembers_20 ?_
        obtain ⟨v1, h_v1, hf⟩ := hf_bind hf
        refine wh_ldI (D := (dC, dI)) hx hb hK hP 1 0 rfl rfl h_v1 dX10_remembers_21 ?_
        refine lv_iconst (v := 1) hx hb dX10_remembers_22 (by decide) ?_
        refine lv_isub hx hb dX10_remembers_23 ?_
        obtain ⟨w2, h_w2, hf⟩ := hf_bind hf
        refine wh_stI (D := (dC, dI)) (ws' := (wl_fM_remembers cI cZ cJ cQ a_0 a_0s a_0corner a_0wide a_0chosen a_0cells a_0owner a_0before a_0slots a_0isKept a_0buffer a_0code a_0table a_0isOver a_0isRuled a_0all a_0some a_0last a_0cuts a_0aside known_0 length_0 thrown_0 many_0 round_0 seed_0 hash_0 s_0 w2 wide_0_16 chosen_0 cells_0 owner_0)) hx hb hK hP hD hS 2 0 rfl rfl rfl h_w2 dX10_remembers_24 (fun H locs hP hD hS => ?_)
        refine lv_aload_n hx hb dX10_remembers_25 rfl (lv_at hl 0 rfl) ?_
        refine va_get (D := (dC, dI)) (ci := 10) (C := RX10) (T := TX10) (N := 26) hx hb hts hiX10 hown hK hP 0 rfl rfl 21 (by decide) (hts (.fieldLink RX10 60 "PaddockFieldsModel" "wide" "[I") (List.mem_cons_of_mem _ (List.mem_append_left _ (List.mem_of_getElem? (i := 2) rfl)))) (fun _ h9 => h9) rfl dX10_remembers_26 ?_
        refine lv_iload_n hx hb dX10_remembers_29 rfl (lv_at hl 2 rfl) ?_
        refine lv_aload_n hx hb dX10_remembers_30 rfl (lv_at hl 0 rfl) ?_
        refine va_get (D := (dC, dI)) (ci := 10) (C := RX10) (T := TX10) (N := 26) hx hb hts hiX10 hown hK hP 0 rfl rfl 0 (by decide) (hts (.fieldLink RX10 7 "PaddockFieldsModel" "s" "[I") (List.mem_cons_of_mem _ (List.mem_append_left _ (List.mem_of_getElem? (i := 1) rfl)))) (fun _ h9 => h9) rfl dX10_remembers_31 ?_
        refine lv_bipush (v := 42) hx hb dX10_remembers_34 (by decide) ?_
        refine lv_iload_n hx hb dX10_remembers_36 rfl (lv_at hl 2 rfl) ?_
        refine lv_iadd hx hb dX10_remembers_37 ?_
        obtain ⟨v3, h_v3, hf⟩ := hf_bind hf
        refine wh_ldI (D := (dC, dI)) hx hb hK hP 1 0 rfl rfl h_v3 dX10_remembers_38 ?_
        obtain ⟨j6, h_j6, hf⟩ := hf_bind hf
        have hJ_17 : ∀ (H : Heap) (locs : List Loc) (ls : Array Slot), lv_has ls 4 [(0, .ref a_0), (1, .int x1), (2, .int l2_14)] → va_P (dC, dI) vwCl (wl_fM_remembers cI cZ cJ cQ a_0 a_0s a_0corner a_0wide a_0chosen a_0cells a_0owner a_0before a_0slots a_0isKept a_0buffer a_0code a_0table a_0isOver a_0isRuled a_0all a_0some a_0last a_0cuts a_0aside known_0 length_0 thrown_0 many_0 round_0 seed_0 hash_0 s_0 w2 wide_0_16 chosen_0 cells_0 owner_0) H → va_D A (wl_fM_remembers cI cZ cJ cQ a_0 a_0s a_0corner a_0wide a_0chosen a_0cells a_0owner a_0before a_0slots a_0isKept a_0buffer a_0code a_0table a_0isOver a_0isRuled a_0all a_0some a_0last a_0cuts a_0aside known_0 length_0 thrown_0 many_0 round_0 seed_0 hash_0 s_0 w2 wide_0_16 chosen_0 cells_0 owner_0) → va_S A s.heap H locs → W p l e ({ frames := 2, cells := 0, slots := 0, locals := 45 } : Room) s m [.ref a_0, .int x1].toArray below meth c H locs 0 0 QQ (F0 m 54 ls [.int j6, .int l2_14, .ref a_0wide]) := by
          intro H locs ls hl hP hD hS
          obtain ⟨w7, h_w7, hf⟩ := hf_bind hf
          refine wh_stI (D := (dC, dI)) (ws' := (wl_fM_remembers cI cZ cJ cQ a_0 a_0s a_0corner a_0wide a_0chosen a_0cells a_0owner a_0before a_0slots a_0isKept a_0buffer a_0code a_0table a_0isOver a_0isRuled a_0all a_0some a_0last a_0cuts a_0aside known_0 length_0 thrown_0 many_0 round_0 seed_0 hash_0 s_0 w2 w7 chosen_0 cells_0 owner_0)) hx hb hK hP hD hS 3 0 rfl rfl rfl h_w7 dX10_remembers_54 (fun H locs hP hD hS => ?_)
          refine lv_iinc (v := (l2_14 + (1 : Int32))) (lv' := [(2, .int (l2_14 + (1 : Int32))), (0, .ref a_0), (1, .int x1)]) hx hb dX10_remembers_55 hl (k := 2) rfl rfl (by decide) rfl (fun ls hl => ?_)
          refine lv_goto (tgt := 2) hx hb dX10_remembers_58 (by decide) ?_
          exact ih _ _ _ hf _ _ _ (lv_sub hl [1, 2, 0] rfl) hP hD hS
        clear hf
        have hf := h_j6
        clear h_j6
        refine lv_if_le (tgt := 53) hx hb dX10_remembers_39 (by decide) (fun cc => ?_) (fun cc => ?_)
        · replace hf := hf_pos cc hf
          refine lv_iconst (v := 0) hx hb dX10_remembers_53 (by decide) ?_
          obtain rfl := Option.some.inj hf
          exact hJ_17 _ _ _ (lv_sub hl [0, 1, 2] rfl) hP hD hS
        · replace hf := hf_neg cc hf
          refine lv_aload_n hx hb dX10_remembers_42 rfl (lv_at hl 0 rfl) ?_
          refine lv_iload_n hx hb dX10_remembers_43 rfl (lv_at hl 2 rfl) ?_
          obtain ⟨s4, h_s4, hf⟩ := hf_bind hf
          refine wh_calll (D := (dC, dI)) (ws' := (wl_fM_remembers cI cZ cJ cQ a_0 a_0s a_0corner a_0wide a_0chosen a_0cells a_0owner a_0before a_0slots a_0isKept a_0buffer a_0code a_0table a_0isOver a_0isRuled a_0all a_0some a_0last a_0cuts a_0aside known_0 length_0 thrown_0 many_0 round_0 seed_0 hash_0 s_0 w2 wide_0_16 chosen_0 cells_0 owner_0)) (va_runV (As := [.int l2_14]) (rest := [.int l2_14, .ref a_0wide]) ⟨hx, hb, hml, hown, hts⟩ (c_fM_fieldOf l dC dI cI cZ cJ cQ a_0 a_0s a_0before a_0slots a_0isKept a_0buffer a_0cells a_0owner a_0code a_0table a_0isOver a_0isRuled a_0all a_0some a_0chosen a_0last a_0corner a_0wide a_0cuts a_0aside known_0 length_0 thrown_0 many_0 round_0 seed_0 hash_0 _ h_s4) (cwV 1 hts gX10_remembers_X10_fieldOf rfl rfl rfl (by decide +kernel) ⟨Nat.le_of_ble_eq_true rfl, Nat.le_of_ble_eq_true rfl⟩) (wh_preV (C := RX10) (T := TX10) (N := 26) hK hN hP hD [0, 1] rfl rfl 10 0 rfl rfl) rfl rfl hl.1 rfl (lv_room (Nat.le_of_ble_eq_true rfl)) dX10_remembers_44 ⟨Nat.le_refl _, Nat.le_refl _⟩) hP hD hS hA [0, 1] [2, 3, 4, 5, 6] [5, 6, 0, 1, 2, 3, 4] rfl rfl rfl rfl (fun H locs hP hD hS => ?_)
          obtain ⟨s5, h_s5, hf⟩ := hf_bind hf
          refine wh_calli (D := (dC, dI)) (ws' := (wl_fM_remembers cI cZ cJ cQ a_0 a_0s a_0corner a_0wide a_0chosen a_0cells a_0owner a_0before a_0slots a_0isKept a_0buffer a_0code a_0table a_0isOver a_0isRuled a_0all a_0some a_0last a_0cuts a_0aside known_0 length_0 thrown_0 many_0 round_0 seed_0 hash_0 s_0 w2 wide_0_16 chosen_0 cells_0 owner_0)) (va_runS (As := [.long s4]) (rest := [.int l2_14, .ref a_0wide]) ⟨hx, hb, hml, hown, hts⟩ (c_fM_bits l dC dI cI cZ cJ cQ _ h_s5) (va_cwS 1 hts gX10_remembers_X10_bits rfl rfl rfl (by decide +kernel) ⟨Nat.le_of_ble_eq_true rfl, Nat.le_of_ble_eq_true rfl⟩) (wh_preS hK hN hP hD [] rfl rfl) rfl rfl hl.1 rfl (lv_room (Nat.le_of_ble_eq_true rfl)) dX10_remembers_47 ⟨Nat.le_refl _, Nat.le_refl _⟩) hP hD hS hA [] [0, 1, 2, 3, 4, 5, 6] [0, 1, 2, 3, 4, 5, 6] rfl rfl rfl rfl (fun H locs hP hD hS => ?_)
          refine lv_goto (tgt := 54) hx hb dX10_remembers_50 (by decide) ?_
          obtain rfl := Option.some.inj hf
          exact hJ_17 _ _ _ (lv_sub hl [0, 1, 2] rfl) hP hD hS
  exact hL_13 _ _ _ _ h_r8 _ _ _ (lv_sub hl [1, 2, 0] rfl) hP hD hS
set_option maxHeartbeats 4000000 in
set_option maxRecDepth 100000 in
theorem c_fM_ways (l : Launch) (dC : Nat → ClassId) (dI : Nat → Nat → Nat) (cI cZ cJ cQ : ClassId) (a_0 a_0table a_0s a_0cells a_0owner a_0code a_0last a_0chosen a_0corner a_0wide a_0before a_0slots a_0isKept a_0buffer a_0isOver a_0isRuled a_0all a_0some a_0cuts a_0aside : Nat) (known_0 : Int32) (length_0 : Int32) (thrown_0 : Int32) (round_0 : Int32) (seed_0 : Int64) (hash_0 : Int64) (sz : Nat) {F : Nat} {x1 : Int32} {many_0 : Int32} {table_0 : Nat → Int32} {s_0 : Nat → Int32} {cells_0 : Nat → Int64} {owner_0 : Nat → Int32} {code_0 : Nat → Int32} {last_0 : Nat → Int32} {chosen_0 : Nat → Int32} {corner_0 : Nat → Int32} {wide_0 : Nat → Int32} {out : Int32 × Int32 × (Nat → Int32) × (Nat → Int64) × (Nat → Int32) × (Nat → Int32) × (Nat → Int32) × (Nat → Int32) × (Nat → Int32) × (Nat → Int32)} (hf : fM_ways F x1 many_0 table_0 s_0 cells_0 owner_0 code_0 last_0 chosen_0 corner_0 wide_0 = some out) : Met l yX10_ways wsX10_ways ({ frames := 3, cells := 0, slots := 0, locals := 87 } : Room) (va_Pc [.ref a_0, .int x1] (wlP (dC, dI) (wlT cI cZ cJ cQ) (wl_fM_ways cI cZ cJ cQ a_0 a_0table a_0s a_0cells a_0owner a_0code a_0last a_0chosen a_0corner a_0wide a_0before a_0slots a_0isKept a_0buffer a_0isOver a_0isRuled a_0all a_0some a_0cuts a_0aside known_0 length_0 thrown_0 many_0 round_0 seed_0 hash_0 table_0 s_0 cells_0 owner_0 code_0 last_0 chosen_0 corner_0 wide_0) sz)) (va_Qi (fun (v : Int32) (_ : Unit) => v = out.1) (wlQ (dC, dI) (va_A (wl_fM_ways cI cZ cJ cQ a_0 a_0table a_0s a_0cells a_0owner a_0code a_0last a_0chosen a_0corner a_0wide a_0before a_0slots a_0isKept a_0buffer a_0isOver a_0isRuled a_0all a_0some a_0cuts a_0aside known_0 length_0 thrown_0 many_0 round_0 seed_0 hash_0 table_0 s_0 cells_0 owner_0 code_0 last_0 chosen_0 corner_0 wide_0) sz) (wl_fM_ways cI cZ cJ cQ a_0 a_0table a_0s a_0cells a_0owner a_0code a_0last a_0chosen a_0corner a_0wide a_0before a_0slots a_0isKept a_0buffer a_0isOver a_0isRuled a_0all a_0some a_0cuts a_0aside known_0 length_0 thrown_0 out.2.1 round_0 seed_0 hash_0 out.2.2.1 s_0 out.2.2.2.1 out.2.2.2.2.1 out.2.2.2.2.2.1 out.2.2.2.2.2.2.1 out.2.2.2.2.2.2.2.1 out.2.2.2.2.2.2.2.2.1 out.2.2.2.2.2.2.2.2.2)) (va_A (wl_fM_ways cI cZ cJ cQ a_0 a_0table a_0s a_0cells a_0owner a_0code a_0last a_0chosen a_0corner a_0wide a_0before a_0slots a_0isKept a_0buffer a_0isOver a_0isRuled a_0all a_0some a_0cuts a_0aside known_0 length_0 thrown_0 many_0 round_0 seed_0 hash_0 table_0 s_0 cells_0 owner_0 code_0 last_0 chosen_0 corner_0 wide_0) sz)) 0 0 (va_A (wl_fM_ways cI cZ cJ cQ a_0 a_0table a_0s a_0cells a_0owner a_0code a_0last a_0chosen a_0corner a_0wide a_0before a_0slots a_0isKept a_0buffer a_0isOver a_0isRuled a_0all a_0some a_0cuts a_0aside known_0 length_0 thrown_0 many_0 round_0 seed_0 hash_0 table_0 s_0 cells_0 owner_0 code_0 last_0 chosen_0 corner_0 wide_0) sz) := by
  refine wh_ofWi (lv := [(0, .ref a_0), (1, .int x1)]) RX10 (by decide) rfl rfl (Nat.le_of_ble_eq_true rfl) rfl ?_
  intro p e s m below meth c A QQ hx hb hml hown hts hP hK hN hD hA hret ls hl
  have hS : va_S A s.heap s.heap [] := va_S.rf
  have hiX10 : ∀ w ∈ wsX100, w ∈ wsX10_ways := (fun _ h => List.mem_cons_of_mem _ (List.mem_append_right _ (h)))
  unfold fM_ways at hf
  refine lv_aload_n hx hb dX10_ways_0 rfl (lv_at hl 0 rfl) ?_
  obtain ⟨s1, h_s1, hf⟩ := hf_bind hf
  refine wh_callv (D := (dC, dI)) (ws' := (wl_fM_ways cI cZ cJ cQ a_0 a_0table a_0s a_0cells a_0owner a_0code a_0last a_0chosen a_0corner a_0wide a_0before a_0slots a_0isKept a_0buffer a_0isOver a_0isRuled a_0all a_0some a_0cuts a_0aside known_0 length_0 thrown_0 s1.1 round_0 seed_0 hash_0 s1.2.1 s_0 s1.2.2.1 s1.2.2.2.1 s1.2.2.2.2 last_0 chosen_0 corner_0 wide_0)) (va_runV (As := []) (rest := []) ⟨hx, hb, hml, hown, hts⟩ (c_fM_finds l dC dI cI cZ cJ cQ a_0 a_0table a_0s a_0cells a_0owner a_0code a_0before a_0slots a_0isKept a_0buffer a_0isOver a_0isRuled a_0all a_0some a_0chosen a_0last a_0corner a_0wide a_0cuts a_0aside known_0 length_0 thrown_0 round_0 seed_0 hash_0 _ h_s1) (cwV 0 hts gX10_ways_X10_finds rfl rfl rfl (by decide +kernel) ⟨Nat.le_of_ble_eq_true rfl, Nat.le_of_ble_eq_true rfl⟩) (wh_preV (C := RX10) (T := TX10) (N := 26) hK hN hP hD [0, 1, 2, 3, 4, 5] rfl rfl 10 0 rfl rfl) rfl rfl hl.1 rfl (lv_room (Nat.le_of_ble_eq_true rfl)) dX10_ways_1 ⟨Nat.le_refl _, Nat.le_refl _⟩) hP hD hS hA [0, 1, 2, 3, 4, 5] [6, 7, 8, 9] [4, 5, 6, 7, 8, 9, 0, 1, 2, 3] rfl rfl rfl rfl (fun H locs hP hD hS => ?_)
  refine lv_aload_n hx hb dX10_ways_4 rfl (lv_at hl 0 rfl) ?_
  obtain ⟨s2, h_s2, hf⟩ := hf_bind hf
  refine wh_calll (D := (dC, dI)) (ws' := (wl_fM_ways cI cZ cJ cQ a_0 a_0table a_0s a_0cells a_0owner a_0code a_0last a_0chosen a_0corner a_0wide a_0before a_0slots a_0isKept a_0buffer a_0isOver a_0isRuled a_0all a_0some a_0cuts a_0aside known_0 length_0 thrown_0 s1.1 round_0 seed_0 hash_0 s1.2.1 s_0 s1.2.2.1 s1.2.2.2.1 s1.2.2.2.2 last_0 chosen_0 corner_0 wide_0)) (va_runV (As := []) (rest := []) ⟨hx, hb, hml, hown, hts⟩ (c_fM_taken l dC dI cI cZ cJ cQ a_0 a_0s a_0before a_0slots a_0isKept a_0buffer a_0cells a_0owner a_0code a_0table a_0isOver a_0isRuled a_0all a_0some a_0chosen a_0last a_0corner a_0wide a_0cuts a_0aside known_0 length_0 thrown_0 s1.1 round_0 seed_0 hash_0 _ h_s2) (cwV 0 hts gX10_ways_X10_taken rfl rfl rfl (by decide +kernel) ⟨Nat.le_of_ble_eq_true rfl, Nat.le_of_ble_eq_true rfl⟩) (wh_preV (C := RX10) (T := TX10) (N := 26) hK hN hP hD [0, 2] rfl rfl 10 0 rfl rfl) rfl rfl hl.1 rfl (lv_room (Nat.le_of_ble_eq_true rfl)) dX10_ways_5 ⟨Nat.le_refl _, Nat.le_refl _⟩) hP hD hS hA [0, 2] [1, 3, 4, 5, 6, 7, 8, 9] [8, 0, 9, 1, 2, 3, 4, 5, 6, 7] rfl rfl rfl rfl (fun H locs hP hD hS => ?_)
  refine lv_lstore_n (lv' := [(2, .long s2), (0, .ref a_0), (1, .int x1)]) hx hb dX10_ways_8 rfl hl (by decide) rfl (fun ls hl => ?_)
  refine lv_iconst (v := 0) hx hb dX10_ways_9 (by decide) ?_
  refine lv_istore (lv' := [(4, .int (0 : Int32)), (2, .long s2), (0, .ref a_0), (1, .int x1)]) hx hb dX10_ways_10 hl (by decide) rfl (fun ls hl => ?_)
  refine lv_iconst (v := 0) hx hb dX10_ways_12 (by decide) ?_
  refine lv_istore (lv' := [(5, .int (0 : Int32)), (4, .int (0 : Int32)), (2, .long s2), (0, .ref a_0), (1, .int x1)]) hx hb dX10_ways_13 hl (by decide) rfl (fun ls hl => ?_)
  refine lv_aload_n hx hb dX10_ways_15 rfl (lv_at hl 3 rfl) ?_
  refine va_get (D := (dC, dI)) (ci := 10) (C := RX10) (T := TX10) (N := 26) hx hb hts hiX10 hown hK hP 0 rfl rfl 19 (by decide) (hts (.fieldLink RX10 54 "PaddockFieldsModel" "last" "[I") (List.mem_cons_of_mem _ (List.mem_append_left _ (List.mem_append_left _ (List.mem_of_getElem? (i := 0) rfl))))) (fun _ h9 => h9) rfl dX10_ways_16 ?_
  refine lv_iconst (v := 0) hx hb dX10_ways_19 (by decide) ?_
  refine lv_iconst (v := 0) hx hb dX10_ways_20 (by decide) ?_
  obtain ⟨w3, h_w3, hf⟩ := hf_bind hf
  refine wh_stI (D := (dC, dI)) (ws' := (wl_fM_ways cI cZ cJ cQ a_0 a_0table a_0s a_0cells a_0owner a_0code a_0last a_0chosen a_0corner a_0wide a_0before a_0slots a_0isKept a_0buffer a_0isOver a_0isRuled a_0all a_0some a_0cuts a_0aside known_0 length_0 thrown_0 s1.1 round_0 seed_0 hash_0 s1.2.1 s_0 s1.2.2.1 s1.2.2.2.1 s1.2.2.2.2 w3 chosen_0 corner_0 wide_0)) hx hb hK hP hD hS 6 0 rfl rfl rfl h_w3 dX10_ways_21 (fun H locs hP hD hS => ?_)
  have hL_1 : ∀ (N : Nat) (l2_2 : Int64) (l4_3 : Int32) (l5_4 : Int32) (last_0_5 : Nat → Int32) (chosen_0_6 : Nat → Int32) (corner_0_7 : Nat → Int32) (wide_0_8 : Nat → Int32), fM_ways_L22 F x1 s1.1 s1.2.1 s_0 s1.2.2.1 s1.2.2.2.1 s1.2.2.2.2 N l2_2 l4_3 l5_4 last_0_5 chosen_0_6 corner_0_7 wide_0_8 = some out → ∀ (H : Heap) (locs : List Loc) (ls : Array Slot), lv_has ls 9 [(0, .ref a_0), (1, .int x1), (2, .long l2_2), (4, .int l4_3), (5, .int l5_4)] → va_P (dC, dI) vwCl (wl_fM_ways cI cZ cJ cQ a_0 a_0table a_0s a_0cells a_0owner a_0code a_0last a_0chosen a_0corner a_0wide a_0before a_0slots a_0isKept a_0buffer a_0isOver a_0isRuled a_0all a_0some a_0cuts a_0aside known_0 length_0 thrown_0 s1.1 round_0 seed_0 hash_0 s1.2.1 s_0 s1.2.2.1 s1.2.2.2.1 s1.2.2.2.2 last_0_5 chosen_0_6 corner_0_7 wide_0_8) H → va_D A (wl_fM_ways cI cZ cJ cQ a_0 a_0table a_0s a_0cells a_0owner a_0code a_0last a_0chosen a_0corner a_0wide a_0before a_0slots a_0isKept a_0buffer a_0isOver a_0isRuled a_0all a_0some a_0cuts a_0aside known_0 length_0 thrown_0 s1.1 round_0 seed_0 hash_0 s1.2.1 s_0 s1.2.2.1 s1.2.2.2.1 s1.2.2.2.2 last_0_5 chosen_0_6 corner_0_7 wide_0_8) → va_S A s.heap H locs → W p l e ({ frames := 3, cells := 0, slots := 0, locals := 87 } : Room) s m [.ref a_0, .int x1].toArray below meth c H locs 0 0 QQ (F0 m 22 ls []) := by
    intro N
    induction N with
    | zero => intro l2_2 l4_3 l5_4 last_0_5 chosen_0_6 corner_0_7 wide_0_8 hf; exact nomatch (show none = some _ from hf)
    | succ N ih =>
      intro l2_2 l4_3 l5_4 last_0_5 chosen_0_6 corner_0_7 wide_0_8 hf H locs ls hl hP hD hS
      rw [fM_ways_L22] at hf
      refine lv_iload hx hb dX10_ways_22 (lv_at hl 3 rfl) ?_
      refine lv_if_lt (tgt := 218) hx hb dX10_ways_24 (by decide) (fun cc => ?_) (fun cc => ?_)
      · replace hf := hf_pos cc hf
        refine lv_iload hx hb dX10_ways_218 (lv_at hl 4 rfl) ?_
        obtain rfl := Option.some.inj hf
        exact hret _ _ _ _ hP hD hS dX10_ways_220
      · replace hf := hf_neg cc hf
        refine lv_iconst (v := 0) hx hb dX10_ways_27 (by decide) ?_
        refine lv_istore (lv' := [(6, .int (0 : Int32)), (0, .ref a_0), (1, .int x1), (2, .long l2_2), (4, .int l4_3), (5, .int l5_4)]) hx hb dX10_ways_28 hl (by decide) rfl (fun ls hl => ?_)
        refine lv_lload_n hx hb dX10_ways_30 rfl (lv_at hl 3 rfl) ?_
        refine lv_ldc2 hx hb hown (hts (.constantLong RX10 109 (4398046511103)) (List.mem_cons_of_mem _ (List.mem_append_left _ (List.mem_append_left _ (List.mem_of_getElem? (i := 1) rfl))))) dX10_ways_31 ?_
        refine W.lcmp hx hb dX10_ways_34 ?_
        refine lv_if_ne (tgt := 62) hx hb dX10_ways_35 (by decide) (fun cc => ?_) (fun cc => ?_)
        · replace hf := hf_pos (mt (lg_cmp_eq _ _).mpr cc) hf
          refine lv_lload_n hx hb dX10_ways_62 rfl (lv_at hl 3 rfl) ?_
          refine lv_ldc2 hx hb hown (hts (.constantLong RX10 111 (-1)) (List.mem_cons_of_mem _ (List.mem_append_left _ (List.mem_append_left _ (List.mem_of_getElem? (i := 2) rfl))))) dX10_ways_63 ?_
          refine lv_lxor hx hb dX10_ways_66 ?_
          obtain ⟨s4, h_s4, hf⟩ := hf_bind hf
          refine wh_calli (D := (dC, dI)) (ws' := (wl_fM_ways cI cZ cJ cQ a_0 a_0table a_0s a_0cells a_0owner a_0code a_0last a_0chosen a_0corner a_0wide a_0before a_0slots a_0isKept a_0buffer a_0isOver a_0isRuled a_0all a_0some a_0cuts a_0aside known_0 length_0 thrown_0 s1.1 round_0 seed_0 hash_0 s1.2.1 s_0 s1.2.2.1 s1.2.2.2.1 s1.2.2.2.2 last_0_5 chosen_0_6 corner_0_7 wide_0_8)) (va_runS (As := [.long (l2_2 ^^^ (-1 : Int64))]) (rest := []) ⟨hx, hb, hml, hown, hts⟩ (c_fM_lowest l dC dI cI cZ cJ cQ _ h_s4) (va_cwS 1 hts gX10_ways_X10_lowest rfl rfl rfl (by decide +kernel) ⟨Nat.le_of_ble_eq_true rfl, Nat.le_of_ble_eq_true rfl⟩) (wh_preS hK hN hP hD [] rfl rfl) rfl rfl hl.1 rfl (lv_room (Nat.le_of_ble_eq_true rfl)) dX10_ways_67 ⟨Nat.le_refl _, Nat.le_refl _⟩) hP hD hS hA [] [0, 1, 2, 3, 4, 5, 6, 7, 8, 9] [0, 1, 2, 3, 4, 5, 6, 7, 8, 9] rfl rfl rfl rfl (fun H locs hP hD hS => ?_)
          refine lv_istore (lv' := [(7, .int s4), (6, .int (0 : Int32)), (0, .ref a_0), (1, .int x1), (2, .long l2_2), (4, .int l4_3), (5, .int l5_4)]) hx hb dX10_ways_70 hl (by decide) rfl (fun ls hl => ?_)
          obtain ⟨r14, h_r14, hf⟩ := hf_bind hf
          have hE_9 : ∀ (H : Heap) (locs : List Loc) (ls : Array Slot), lv_has ls 9 [(0, .ref a_0), (1, .int x1), (2, .long r14.1), (4, .int l4_3), (5, .int l5_4), (6, .int r14.2.1)] → va_P (dC, dI) vwCl (wl_fM_ways cI cZ cJ cQ a_0 a_0table a_0s a_0cells a_0owner a_0code a_0last a_0chosen a_0corner a_0wide a_0before a_0slots a_0isKept a_0buffer a_0isOver a_0isRuled a_0all a_0some a_0cuts a_0aside known_0 length_0 thrown_0 s1.1 round_0 seed_0 hash_0 s1.2.1 s_0 s1.2.2.1 s1.2.2.2.1 s1.2.2.2.2 r14.2.2.1 r14.2.2.2 corner_0_7 wide_0_8) H → va_D A (wl_fM_ways cI cZ cJ cQ a_0 a_0table a_0s a_0cells a_0owner a_0code a_0last a_0chosen a_0corner a_0wide a_0before a_0slots a_0isKept a_0buffer a_0isOver a_0isRuled a_0all a_0some a_0cuts a_0aside known_0 length_0 thrown_0 s1.1 round_0 seed_0 hash_0 s1.2.1 s_0 s1.2.2.1 s1.2.2.2.1 s1.2.2.2.2 r14.2.2.1 r14.2.2.2 corner_0_7 wide_0_8) → va_S A s.heap H locs → W p l e ({ frames := 3, cells := 0, slots := 0, locals := 87 } : Room) s m [.ref a_0, .int x1].toArray below meth c H locs 0 0 QQ (F0 m 165 ls []) := by
            intro H locs ls hl hP hD hS
            refine lv_iload hx hb dX10_ways_165 (lv_at hl 5 rfl) ?_
            obtain ⟨j19, h_j19, hf⟩ := hf_bind hf
            have hJ_10 : ∀ (H : Heap) (locs : List Loc) (ls : Array Slot), lv_has ls 9 [(0, .ref a_0), (1, .int x1), (2, .long j19.1), (4, .int j19.2.1), (5, .int l5_4)] → va_P (dC, dI) vwCl (wl_fM_ways cI cZ cJ cQ a_0 a_0table a_0s a_0cells a_0owner a_0code a_0last a_0chosen a_0corner a_0wide a_0before a_0slots a_0isKept a_0buffer a_0isOver a_0isRuled a_0all a_0some a_0cuts a_0aside known_0 length_0 thrown_0 s1.1 round_0 seed_0 hash_0 s1.2.1 s_0 s1.2.2.1 s1.2.2.2.1 s1.2.2.2.2 j19.2.2 r14.2.2.2 corner_0_7 wide_0_8) H → va_D A (wl_fM_ways cI cZ cJ cQ a_0 a_0table a_0s a_0cells a_0owner a_0code a_0last a_0chosen a_0corner a_0wide a_0before a_0slots a_0isKept a_0buffer a_0isOver a_0isRuled a_0all a_0some a_0cuts a_0aside known_0 length_0 thrown_0 s1.1 round_0 seed_0 hash_0 s1.2.1 s_0 s1.2.2.1 s1.2.2.2.1 s1.2.2.2.2 j19.2.2 r14.2.2.2 corner_0_7 wide_0_8) → va_S A s.heap H locs → W p l e ({ frames := 3, cells := 0, slots := 0, locals := 87 } : Room) s m [.ref a_0, .int x1].toArray below meth c H locs 0 0 QQ (F0 m 215 ls []) := by
              intro H locs ls hl hP hD hS
              refine lv_goto (tgt := 22) hx hb dX10_ways_215 (by decide) ?_
              exact ih _ _ _ _ _ _ _ hf _ _ _ (lv_sub hl [0, 1, 2, 3, 4] rfl) hP hD hS
            clear hf
            have hf := h_j19
            clear h_j19
            refine lv_if_eq (tgt := 184) hx hb dX10_ways_167 (by decide) (fun cc => ?_) (fun cc => ?_)
            · replace hf := hf_pos cc hf
              refine lv_iinc (v := (l4_3 + (-1 : Int32))) (lv' := [(4, .int (l4_3 + (-1 : Int32))), (0, .ref a_0), (1, .int x1), (2, .long r14.1), (5, .int l5_4), (6, .int r14.2.1)]) hx hb dX10_ways_184 hl (k := 3) rfl rfl (by decide) rfl (fun ls hl => ?_)
              refine lv_iload hx hb dX10_ways_187 (lv_at hl 0 rfl) ?_
              obtain ⟨j17, h_j17, hf⟩ := hf_bind hf
              have hJ_11 : ∀ (H : Heap) (locs : List Loc) (ls : Array Slot), lv_has ls 9 [(0, .ref a_0), (1, .int x1), (4, .int (l4_3 + (-1 : Int32))), (5, .int l5_4)] → va_P (dC, dI) vwCl (wl_fM_ways cI cZ cJ cQ a_0 a_0table a_0s a_0cells a_0owner a_0code a_0last a_0chosen a_0corner a_0wide a_0before a_0slots a_0isKept a_0buffer a_0isOver a_0isRuled a_0all a_0some a_0cuts a_0aside known_0 length_0 thrown_0 s1.1 round_0 seed_0 hash_0 s1.2.1 s_0 s1.2.2.1 s1.2.2.2.1 s1.2.2.2.2 r14.2.2.1 r14.2.2.2 corner_0_7 wide_0_8) H → va_D A (wl_fM_ways cI cZ cJ cQ a_0 a_0table a_0s a_0cells a_0owner a_0code a_0last a_0chosen a_0corner a_0wide a_0before a_0slots a_0isKept a_0buffer a_0isOver a_0isRuled a_0all a_0some a_0cuts a_0aside known_0 length_0 thrown_0 s1.1 round_0 seed_0 hash_0 s1.2.1 s_0 s1.2.2.1 s1.2.2.2.1 s1.2.2.2.2 r14.2.2.1 r14.2.2.2 corner_0_7 wide_0_8) → va_S A s.heap H locs → W p l e ({ frames := 3, cells := 0, slots := 0, locals := 87 } : Room) s m [.ref a_0, .int x1].toArray below meth c H locs 0 0 QQ (F0 m 214 ls [.long j17]) := by
                intro H locs ls hl hP hD hS
                refine lv_lstore_n (lv' := [(2, .long j17), (0, .ref a_0), (1, .int x1), (4, .int (l4_3 + (-1 : Int32))), (5, .int l5_4)]) hx hb dX10_ways_214 rfl hl (by decide) rfl (fun ls hl => ?_)
                obtain rfl := Option.some.inj hf
                exact hJ_10 _ _ _ (lv_sub hl [1, 2, 0, 3, 4] rfl) hP hD hS
              clear hf
              have hf := h_j17
              clear h_j17
              refine lv_if_lt (tgt := 213) hx hb dX10_ways_189 (by decide) (fun cc => ?_) (fun cc => ?_)
              · replace hf := hf_pos cc hf
                refine lv_lload_n hx hb dX10_ways_213 rfl (lv_at hl 3 rfl) ?_
                obtain rfl := Option.some.inj hf
                exact hJ_11 _ _ _ (lv_sub hl [1, 2, 0, 4] rfl) hP hD hS
              · replace hf := hf_neg cc hf
                refine lv_lload_n hx hb dX10_ways_192 rfl (lv_at hl 3 rfl) ?_
                refine lv_aload_n hx hb dX10_ways_193 rfl (lv_at hl 1 rfl) ?_
                refine va_get (D := (dC, dI)) (ci := 10) (C := RX10) (T := TX10) (N := 26) hx hb hts hiX10 hown hK hP 0 rfl rfl 8 (by decide) (hts (.fieldLink RX10 26 "PaddockFieldsModel" "cells" "[J") (List.mem_cons_of_mem _ (List.mem_append_left _ (List.mem_append_left _ (List.mem_of_getElem? (i := 4) rfl))))) (fun _ h9 => h9) rfl dX10_ways_194 ?_
                refine lv_aload_n hx hb dX10_ways_197 rfl (lv_at hl 1 rfl) ?_
                refine va_get (D := (dC, dI)) (ci := 10) (C := RX10) (T := TX10) (N := 26) hx hb hts hiX10 hown hK hP 0 rfl rfl 18 (by decide) (hts (.fieldLink RX10 51 "PaddockFieldsModel" "chosen" "[I") (List.mem_cons_of_mem _ (List.mem_append_left _ (List.mem_append_left _ (List.mem_of_getElem? (i := 5) rfl))))) (fun _ h9 => h9) rfl dX10_ways_198 ?_
                refine lv_iload hx hb dX10_ways_201 (lv_at hl 0 rfl) ?_
                obtain ⟨v15, h_v15, hf⟩ := hf_bind hf
                refine wh_ldI (D := (dC, dI)) hx hb hK hP 7 0 rfl rfl h_v15 dX10_ways_203 ?_
                obtain ⟨v16, h_v16, hf⟩ := hf_bind hf
                refine wh_ldJ (D := (dC, dI)) hx hb hK hP 3 2 rfl rfl h_v16 dX10_ways_204 ?_
                refine lv_ldc2 hx hb hown (hts (.constantLong RX10 111 (-1)) (List.mem_cons_of_mem _ (List.mem_append_left _ (List.mem_append_left _ (List.mem_of_getElem? (i := 2) rfl))))) dX10_ways_205 ?_
                refine lv_lxor hx hb dX10_ways_208 ?_
                refine lv_land hx hb dX10_ways_209 ?_
                refine lv_goto (tgt := 214) hx hb dX10_ways_210 (by decide) ?_
                obtain rfl := Option.some.inj hf
                exact hJ_11 _ _ _ (lv_sub hl [1, 2, 0, 4] rfl) hP hD hS
            · replace hf := hf_neg cc hf
              refine lv_iinc (v := (l4_3 + (1 : Int32))) (lv' := [(4, .int (l4_3 + (1 : Int32))), (0, .ref a_0), (1, .int x1), (2, .long r14.1), (5, .int l5_4), (6, .int r14.2.1)]) hx hb dX10_ways_170 hl (k := 3) rfl rfl (by decide) rfl (fun ls hl => ?_)
              refine lv_aload_n hx hb dX10_ways_173 rfl (lv_at hl 1 rfl) ?_
              refine va_get (D := (dC, dI)) (ci := 10) (C := RX10) (T := TX10) (N := 26) hx hb hts hiX10 hown hK hP 0 rfl rfl 19 (by decide) (hts (.fieldLink RX10 54 "PaddockFieldsModel" "last" "[I") (List.mem_cons_of_mem _ (List.mem_append_left _ (List.mem_append_left _ (List.mem_of_getElem? (i := 0) rfl))))) (fun _ h9 => h9) rfl dX10_ways_174 ?_
              refine lv_iload hx hb dX10_ways_177 (lv_at hl 0 rfl) ?_
              refine lv_iconst (v := 0) hx hb dX10_ways_179 (by decide) ?_
              obtain ⟨w18, h_w18, hf⟩ := hf_bind hf
              refine wh_stI (D := (dC, dI)) (ws' := (wl_fM_ways cI cZ cJ cQ a_0 a_0table a_0s a_0cells a_0owner a_0code a_0last a_0chosen a_0corner a_0wide a_0before a_0slots a_0isKept a_0buffer a_0isOver a_0isRuled a_0all a_0some a_0cuts a_0aside known_0 length_0 thrown_0 s1.1 round_0 seed_0 hash_0 s1.2.1 s_0 s1.2.2.1 s1.2.2.2.1 s1.2.2.2.2 w18 r14.2.2.2 corner_0_7 wide_0_8)) hx hb hK hP hD hS 6 0 rfl rfl rfl h_w18 dX10_ways_180 (fun H locs hP hD hS => ?_)
              refine lv_goto (tgt := 215) hx hb dX10_ways_181 (by decide) ?_
              obtain rfl := Option.some.inj hf
              exact hJ_10 _ _ _ (lv_sub hl [1, 2, 3, 0, 4] rfl) hP hD hS
          have hL_12 : ∀ (N : Nat) (l2_13 : Int64) (l6_14 : Int32) (last_0_15 : Nat → Int32) (chosen_0_16 : Nat → Int32), fM_ways_L72 F l4_3 s4 s1.2.1 s1.2.2.1 N l2_13 l6_14 last_0_15 chosen_0_16 = some r14 → ∀ (H : Heap) (locs : List Loc) (ls : Array Slot), lv_has ls 9 [(0, .ref a_0), (1, .int x1), (2, .long l2_13), (4, .int l4_3), (5, .int l5_4), (6, .int l6_14), (7, .int s4)] → va_P (dC, dI) vwCl (wl_fM_ways cI cZ cJ cQ a_0 a_0table a_0s a_0cells a_0owner a_0code a_0last a_0chosen a_0corner a_0wide a_0before a_0slots a_0isKept a_0buffer a_0isOver a_0isRuled a_0all a_0some a_0cuts a_0aside known_0 length_0 thrown_0 s1.1 round_0 seed_0 hash_0 s1.2.1 s_0 s1.2.2.1 s1.2.2.2.1 s1.2.2.2.2 last_0_15 chosen_0_16 corner_0_7 wide_0_8) H → va_D A (wl_fM_ways cI cZ cJ cQ a_0 a_0table a_0s a_0cells a_0owner a_0code a_0last a_0chosen a_0corner a_0wide a_0before a_0slots a_0isKept a_0buffer a_0isOver a_0isRuled a_0all a_0some a_0cuts a_0aside known_0 length_0 thrown_0 s1.1 round_0 seed_0 hash_0 s1.2.1 s_0 s1.2.2.1 s1.2.2.2.1 s1.2.2.2.2 last_0_15 chosen_0_16 corner_0_7 wide_0_8) → va_S A s.heap H locs → W p l e ({ frames := 3, cells := 0, slots := 0, locals := 87 } : Room) s m [.ref a_0, .int x1].toArray below meth c H locs 0 0 QQ (F0 m 72 ls []) := by
            intro N
            induction N with
            | zero => intro l2_13 l6_14 last_0_15 chosen_0_16 hf; exact nomatch (show none = some _ from hf)
            | succ N ih =>
              intro l2_13 l6_14 last_0_15 chosen_0_16 hf H locs ls hl hP hD hS
              rw [fM_ways_L72] at hf
              refine lv_aload_n hx hb dX10_ways_72 rfl (lv_at hl 0 rfl) ?_
              refine va_get (D := (dC, dI)) (ci := 10) (C := RX10) (T := TX10) (N := 26) hx hb hts hiX10 hown hK hP 0 rfl rfl 19 (by decide) (hts (.fieldLink RX10 54 "PaddockFieldsModel" "last" "[I") (List.mem_cons_of_mem _ (List.mem_append_left _ (List.mem_append_left _ (List.mem_of_getElem? (i := 0) rfl))))) (fun _ h9 => h9) rfl dX10_ways_73 ?_
              refine lv_iload hx hb dX10_ways_76 (lv_at hl 3 rfl) ?_
              obtain ⟨v5, h_v5, hf⟩ := hf_bind hf
              refine wh_ldI (D := (dC, dI)) hx hb hK hP 6 0 rfl rfl h_v5 dX10_ways_78 ?_
              refine lv_bipush (v := 6) hx hb dX10_ways_79 (by decide) ?_
              refine lv_icmp_ge (tgt := 165) hx hb dX10_ways_81 (by decide) (fun cc => ?_) (fun cc => ?_)
              · replace hf := hf_pos cc hf
                obtain rfl := Option.some.inj hf
                exact hE_9 _ _ _ (lv_sub hl [0, 1, 2, 3, 4, 5] rfl) hP hD hS
              · replace hf := hf_neg cc hf
                refine lv_iload hx hb dX10_ways_84 (lv_at hl 5 rfl) ?_
                refine lv_if_ne (tgt := 165) hx hb dX10_ways_86 (by decide) (fun cc => ?_) (fun cc => ?_)
                · replace hf := hf_pos cc hf
                  obtain rfl := Option.some.inj hf
                  exact hE_9 _ _ _ (lv_sub hl [0, 1, 2, 3, 4, 5] rfl) hP hD hS
                · replace hf := hf_neg (not_not_intro cc) hf
                  refine lv_aload_n hx hb dX10_ways_89 rfl (lv_at hl 0 rfl) ?_
                  refine va_get (D := (dC, dI)) (ci := 10) (C := RX10) (T := TX10) (N := 26) hx hb hts hiX10 hown hK hP 0 rfl rfl 12 (by decide) (hts (.fieldLink RX10 36 "PaddockFieldsModel" "table" "[I") (List.mem_cons_of_mem _ (List.mem_append_left _ (List.mem_append_left _ (List.mem_of_getElem? (i := 3) rfl))))) (fun _ h9 => h9) rfl dX10_ways_90 ?_
                  refine lv_bipush (v := 6) hx hb dX10_ways_93 (by decide) ?_
                  refine lv_iload hx hb dX10_ways_95 (lv_at hl 6 rfl) ?_
                  refine lv_imul hx hb dX10_ways_97 ?_
                  refine lv_aload_n hx hb dX10_ways_98 rfl (lv_at hl 0 rfl) ?_
                  refine va_get (D := (dC, dI)) (ci := 10) (C := RX10) (T := TX10) (N := 26) hx hb hts hiX10 hown hK hP 0 rfl rfl 19 (by decide) (hts (.fieldLink RX10 54 "PaddockFieldsModel" "last" "[I") (List.mem_cons_of_mem _ (List.mem_append_left _ (List.mem_append_left _ (List.mem_of_getElem? (i := 0) rfl))))) (fun _ h9 => h9) rfl dX10_ways_99 ?_
                  refine lv_iload hx hb dX10_ways_102 (lv_at hl 3 rfl) ?_
                  obtain ⟨v6, h_v6, hf⟩ := hf_bind hf
                  refine wh_ldI (D := (dC, dI)) hx hb hK hP 6 0 rfl rfl h_v6 dX10_ways_104 ?_
                  refine lv_iadd hx hb dX10_ways_105 ?_
                  obtain ⟨v7, h_v7, hf⟩ := hf_bind hf
                  refine wh_ldI (D := (dC, dI)) hx hb hK hP 1 0 rfl rfl h_v7 dX10_ways_106 ?_
                  refine lv_istore (lv' := [(8, .int v7), (0, .ref a_0), (1, .int x1), (2, .long l2_13), (4, .int l4_3), (5, .int l5_4), (6, .int l6_14), (7, .int s4)]) hx hb dX10_ways_107 hl (by decide) rfl (fun ls hl => ?_)
                  refine lv_aload_n hx hb dX10_ways_109 rfl (lv_at hl 1 rfl) ?_
                  refine va_get (D := (dC, dI)) (ci := 10) (C := RX10) (T := TX10) (N := 26) hx hb hts hiX10 hown hK hP 0 rfl rfl 19 (by decide) (hts (.fieldLink RX10 54 "PaddockFieldsModel" "last" "[I") (List.mem_cons_of_mem _ (List.mem_append_left _ (List.mem_append_left _ (List.mem_of_getElem? (i := 0) rfl))))) (fun _ h9 => h9) rfl dX10_ways_110 ?_
                  refine lv_iload hx hb dX10_ways_113 (lv_at hl 4 rfl) ?_
                  refine lv_dup2_11 hx hb dX10_ways_115 rfl rfl ?_
                  obtain ⟨v8, h_v8, hf⟩ := hf_bind hf
                  refine wh_ldI (D := (dC, dI)) hx hb hK hP 6 0 rfl rfl h_v8 dX10_ways_116 ?_
                  refine lv_iconst (v := 1) hx hb dX10_ways_117 (by decide) ?_
                  refine lv_iadd hx hb dX10_ways_118 ?_
                  obtain ⟨w9, h_w9, hf⟩ := hf_bind hf
                  refine wh_stI (D := (dC, dI)) (ws' := (wl_fM_ways cI cZ cJ cQ a_0 a_0table a_0s a_0cells a_0owner a_0code a_0last a_0chosen a_0corner a_0wide a_0before a_0slots a_0isKept a_0buffer a_0isOver a_0isRuled a_0all a_0some a_0cuts a_0aside known_0 length_0 thrown_0 s1.1 round_0 seed_0 hash_0 s1.2.1 s_0 s1.2.2.1 s1.2.2.2.1 s1.2.2.2.2 w9 chosen_0_16 corner_0_7 wide_0_8)) hx hb hK hP hD hS 6 0 rfl rfl rfl h_w9 dX10_ways_119 (fun H locs hP hD hS => ?_)
                  refine lv_iload hx hb dX10_ways_120 (lv_at hl 0 rfl) ?_
                  refine lv_iconst (v := -1) hx hb dX10_ways_122 (by decide) ?_
                  obtain ⟨j13, h_j13, hf⟩ := hf_bind hf
                  have hJ_17 : ∀ (H : Heap) (locs : List Loc) (ls : Array Slot), lv_has ls 9 [(0, .ref a_0), (1, .int x1), (2, .long j13.1), (4, .int l4_3), (5, .int l5_4), (6, .int j13.2.1), (7, .int s4)] → va_P (dC, dI) vwCl (wl_fM_ways cI cZ cJ cQ a_0 a_0table a_0s a_0cells a_0owner a_0code a_0last a_0chosen a_0corner a_0wide a_0before a_0slots a_0isKept a_0buffer a_0isOver a_0isRuled a_0all a_0some a_0cuts a_0aside known_0 length_0 thrown_0 s1.1 round_0 seed_0 hash_0 s1.2.1 s_0 s1.2.2.1 s1.2.2.2.1 s1.2.2.2.2 w9 j13.2.2 corner_0_7 wide_0_8) H → va_D A (wl_fM_ways cI cZ cJ cQ a_0 a_0table a_0s a_0cells a_0owner a_0code a_0last a_0chosen a_0corner a_0wide a_0before a_0slots a_0isKept a_0buffer a_0isOver a_0isRuled a_0all a_0some a_0cuts a_0aside known_0 length_0 thrown_0 s1.1 round_0 seed_0 hash_0 s1.2.1 s_0 s1.2.2.1 s1.2.2.2.1 s1.2.2.2.2 w9 j13.2.2 corner_0_7 wide_0_8) → va_S A s.heap H locs → W p l e ({ frames := 3, cells := 0, slots := 0, locals := 87 } : Room) s m [.ref a_0, .int x1].toArray below meth c H locs 0 0 QQ (F0 m 162 ls []) := by
                    intro H locs ls hl hP hD hS
                    refine lv_goto (tgt := 72) hx hb dX10_ways_162 (by decide) ?_
                    exact ih _ _ _ _ hf _ _ _ (lv_sub hl [0, 1, 2, 3, 4, 5, 6] rfl) hP hD hS
                  clear hf
                  have hf := h_j13
                  clear h_j13
                  refine lv_icmp_eq (tgt := 162) hx hb dX10_ways_123 (by decide) (fun cc => ?_) (fun cc => ?_)
                  · replace hf := hf_pos cc hf
                    obtain rfl := Option.some.inj hf
                    exact hJ_17 _ _ _ (lv_sub hl [1, 2, 3, 4, 5, 6, 7] rfl) hP hD hS
                  · replace hf := hf_neg cc hf
                    refine lv_aload_n hx hb dX10_ways_126 rfl (lv_at hl 1 rfl) ?_
                    refine va_get (D := (dC, dI)) (ci := 10) (C := RX10) (T := TX10) (N := 26) hx hb hts hiX10 hown hK hP 0 rfl rfl 8 (by decide) (hts (.fieldLink RX10 26 "PaddockFieldsModel" "cells" "[J") (List.mem_cons_of_mem _ (List.mem_append_left _ (List.mem_append_left _ (List.mem_of_getElem? (i := 4) rfl))))) (fun _ h9 => h9) rfl dX10_ways_127 ?_
                    refine lv_iload hx hb dX10_ways_130 (lv_at hl 0 rfl) ?_
                    obtain ⟨v10, h_v10, hf⟩ := hf_bind hf
                    refine wh_ldJ (D := (dC, dI)) hx hb hK hP 3 2 rfl rfl h_v10 dX10_ways_132 ?_
                    refine lv_lload_n hx hb dX10_ways_133 rfl (lv_at hl 3 rfl) ?_
                    refine lv_land hx hb dX10_ways_134 ?_
                    refine lv_lconst (v := 0) hx hb dX10_ways_135 (by decide) ?_
                    refine W.lcmp hx hb dX10_ways_136 ?_
                    refine lv_if_ne (tgt := 162) hx hb dX10_ways_137 (by decide) (fun cc => ?_) (fun cc => ?_)
                    · replace hf := hf_pos (mt (lg_cmp_eq _ _).mpr cc) hf
                      obtain rfl := Option.some.inj hf
                      exact hJ_17 _ _ _ (lv_sub hl [1, 2, 3, 4, 5, 6, 7] rfl) hP hD hS
                    · replace hf := hf_neg (not_not_intro ((lg_cmp_eq _ _).mp cc)) hf
                      refine lv_aload_n hx hb dX10_ways_140 rfl (lv_at hl 1 rfl) ?_
                      refine va_get (D := (dC, dI)) (ci := 10) (C := RX10) (T := TX10) (N := 26) hx hb hts hiX10 hown hK hP 0 rfl rfl 18 (by decide) (hts (.fieldLink RX10 51 "PaddockFieldsModel" "chosen" "[I") (List.mem_cons_of_mem _ (List.mem_append_left _ (List.mem_append_left _ (List.mem_of_getElem? (i := 5) rfl))))) (fun _ h9 => h9) rfl dX10_ways_141 ?_
                      refine lv_iload hx hb dX10_ways_144 (lv_at hl 4 rfl) ?_
                      refine lv_iload hx hb dX10_ways_146 (lv_at hl 0 rfl) ?_
                      obtain ⟨w11, h_w11, hf⟩ := hf_bind hf
                      refine wh_stI (D := (dC, dI)) (ws' := (wl_fM_ways cI cZ cJ cQ a_0 a_0table a_0s a_0cells a_0owner a_0code a_0last a_0chosen a_0corner a_0wide a_0before a_0slots a_0isKept a_0buffer a_0isOver a_0isRuled a_0all a_0some a_0cuts a_0aside known_0 length_0 thrown_0 s1.1 round_0 seed_0 hash_0 s1.2.1 s_0 s1.2.2.1 s1.2.2.2.1 s1.2.2.2.2 w9 w11 corner_0_7 wide_0_8)) hx hb hK hP hD hS 7 0 rfl rfl rfl h_w11 dX10_ways_148 (fun H locs hP hD hS => ?_)
                      refine lv_lload_n hx hb dX10_ways_149 rfl (lv_at hl 3 rfl) ?_
                      refine lv_aload_n hx hb dX10_ways_150 rfl (lv_at hl 1 rfl) ?_
                      refine va_get (D := (dC, dI)) (ci := 10) (C := RX10) (T := TX10) (N := 26) hx hb hts hiX10 hown hK hP 0 rfl rfl 8 (by decide) (hts (.fieldLink RX10 26 "PaddockFieldsModel" "cells" "[J") (List.mem_cons_of_mem _ (List.mem_append_left _ (List.mem_append_left _ (List.mem_of_getElem? (i := 4) rfl))))) (fun _ h9 => h9) rfl dX10_ways_151 ?_
                      refine lv_iload hx hb dX10_ways_154 (lv_at hl 0 rfl) ?_
                      obtain ⟨v12, h_v12, hf⟩ := hf_bind hf
                      refine wh_ldJ (D := (dC, dI)) hx hb hK hP 3 2 rfl rfl h_v12 dX10_ways_156 ?_
                      refine lv_lor hx hb dX10_ways_157 ?_
                      refine lv_lstore_n (lv' := [(2, .long (l2_13 ||| v12)), (8, .int v7), (0, .ref a_0), (1, .int x1), (4, .int l4_3), (5, .int l5_4), (6, .int l6_14), (7, .int s4)]) hx hb dX10_ways_158 rfl hl (by decide) rfl (fun ls hl => ?_)
                      refine lv_iconst (v := 1) hx hb dX10_ways_159 (by decide) ?_
                      refine lv_istore (lv' := [(6, .int (1 : Int32)), (2, .long (l2_13 ||| v12)), (8, .int v7), (0, .ref a_0), (1, .int x1), (4, .int l4_3), (5, .int l5_4), (7, .int s4)]) hx hb dX10_ways_160 hl (by decide) rfl (fun ls hl => ?_)
                      obtain rfl := Option.some.inj hf
                      exact hJ_17 _ _ _ (lv_sub hl [3, 4, 1, 5, 6, 0, 7] rfl) hP hD hS
          exact hL_12 _ _ _ _ _ h_r14 _ _ _ (lv_sub hl [2, 3, 4, 5, 6, 1, 0] rfl) hP hD hS
        · replace hf := hf_neg (not_not_intro ((lg_cmp_eq _ _).mp cc)) hf
          refine lv_iinc (v := (l5_4 + (1 : Int32))) (lv' := [(5, .int (l5_4 + (1 : Int32))), (6, .int (0 : Int32)), (0, .ref a_0), (1, .int x1), (2, .long l2_2), (4, .int l4_3)]) hx hb dX10_ways_38 hl (k := 5) rfl rfl (by decide) rfl (fun ls hl => ?_)
          refine lv_iload hx hb dX10_ways_41 (lv_at hl 0 rfl) ?_
          refine lv_iconst (v := 1) hx hb dX10_ways_43 (by decide) ?_
          obtain ⟨j21, h_j21, hf⟩ := hf_bind hf
          have hJ_18 : ∀ (H : Heap) (locs : List Loc) (ls : Array Slot), lv_has ls 9 [(0, .ref a_0), (1, .int x1), (2, .long l2_2), (4, .int l4_3), (5, .int (l5_4 + (1 : Int32))), (6, .int (0 : Int32))] → va_P (dC, dI) vwCl (wl_fM_ways cI cZ cJ cQ a_0 a_0table a_0s a_0cells a_0owner a_0code a_0last a_0chosen a_0corner a_0wide a_0before a_0slots a_0isKept a_0buffer a_0isOver a_0isRuled a_0all a_0some a_0cuts a_0aside known_0 length_0 thrown_0 s1.1 round_0 seed_0 hash_0 s1.2.1 s_0 s1.2.2.1 s1.2.2.2.1 s1.2.2.2.2 last_0_5 chosen_0_6 j21.1 j21.2) H → va_D A (wl_fM_ways cI cZ cJ cQ a_0 a_0table a_0s a_0cells a_0owner a_0code a_0last a_0chosen a_0corner a_0wide a_0before a_0slots a_0isKept a_0buffer a_0isOver a_0isRuled a_0all a_0some a_0cuts a_0aside known_0 length_0 thrown_0 s1.1 round_0 seed_0 hash_0 s1.2.1 s_0 s1.2.2.1 s1.2.2.2.1 s1.2.2.2.2 last_0_5 chosen_0_6 j21.1 j21.2) → va_S A s.heap H locs → W p l e ({ frames := 3, cells := 0, slots := 0, locals := 87 } : Room) s m [.ref a_0, .int x1].toArray below meth c H locs 0 0 QQ (F0 m 53 ls []) := by
            intro H locs ls hl hP hD hS
            refine lv_iload hx hb dX10_ways_53 (lv_at hl 4 rfl) ?_
            refine lv_iload_n hx hb dX10_ways_55 rfl (lv_at hl 1 rfl) ?_
            refine lv_icmp_ne (tgt := 165) hx hb dX10_ways_56 (by decide) (fun cc => ?_) (fun cc => ?_)
            · replace hf := hf_pos cc hf
              refine lv_iload hx hb dX10_ways_165 (lv_at hl 5 rfl) ?_
              refine lv_if_eq (tgt := 184) hx hb dX10_ways_167 (by decide) (fun cc => ?_) (fun cc => ?_)
              rotate_left
              · exact absurd (by decide) cc
              refine lv_iinc (v := (l4_3 + (-1 : Int32))) (lv' := [(4, .int (l4_3 + (-1 : Int32))), (0, .ref a_0), (1, .int x1), (2, .long l2_2), (5, .int (l5_4 + (1 : Int32))), (6, .int (0 : Int32))]) hx hb dX10_ways_184 hl (k := 3) rfl rfl (by decide) rfl (fun ls hl => ?_)
              refine lv_iload hx hb dX10_ways_187 (lv_at hl 0 rfl) ?_
              obtain ⟨j24, h_j24, hf⟩ := hf_bind hf
              have hJ_19 : ∀ (H : Heap) (locs : List Loc) (ls : Array Slot), lv_has ls 9 [(0, .ref a_0), (1, .int x1), (4, .int (l4_3 + (-1 : Int32))), (5, .int (l5_4 + (1 : Int32)))] → va_P (dC, dI) vwCl (wl_fM_ways cI cZ cJ cQ a_0 a_0table a_0s a_0cells a_0owner a_0code a_0last a_0chosen a_0corner a_0wide a_0before a_0slots a_0isKept a_0buffer a_0isOver a_0isRuled a_0all a_0some a_0cuts a_0aside known_0 length_0 thrown_0 s1.1 round_0 seed_0 hash_0 s1.2.1 s_0 s1.2.2.1 s1.2.2.2.1 s1.2.2.2.2 last_0_5 chosen_0_6 j21.1 j21.2) H → va_D A (wl_fM_ways cI cZ cJ cQ a_0 a_0table a_0s a_0cells a_0owner a_0code a_0last a_0chosen a_0corner a_0wide a_0before a_0slots a_0isKept a_0buffer a_0isOver a_0isRuled a_0all a_0some a_0cuts a_0aside known_0 length_0 thrown_0 s1.1 round_0 seed_0 hash_0 s1.2.1 s_0 s1.2.2.1 s1.2.2.2.1 s1.2.2.2.2 last_0_5 chosen_0_6 j21.1 j21.2) → va_S A s.heap H locs → W p l e ({ frames := 3, cells := 0, slots := 0, locals := 87 } : Room) s m [.ref a_0, .int x1].toArray below meth c H locs 0 0 QQ (F0 m 214 ls [.long j24]) := by
                intro H locs ls hl hP hD hS
                refine lv_lstore_n (lv' := [(2, .long j24), (0, .ref a_0), (1, .int x1), (4, .int (l4_3 + (-1 : Int32))), (5, .int (l5_4 + (1 : Int32)))]) hx hb dX10_ways_214 rfl hl (by decide) rfl (fun ls hl => ?_)
                refine lv_goto (tgt := 22) hx hb dX10_ways_215 (by decide) ?_
                exact ih _ _ _ _ _ _ _ hf _ _ _ (lv_sub hl [1, 2, 0, 3, 4] rfl) hP hD hS
              clear hf
              have hf := h_j24
              clear h_j24
              refine lv_if_lt (tgt := 213) hx hb dX10_ways_189 (by decide) (fun cc => ?_) (fun cc => ?_)
              · replace hf := hf_pos cc hf
                refine lv_lload_n hx hb dX10_ways_213 rfl (lv_at hl 3 rfl) ?_
                obtain rfl := Option.some.inj hf
                exact hJ_19 _ _ _ (lv_sub hl [1, 2, 0, 4] rfl) hP hD hS
              · replace hf := hf_neg cc hf
                refine lv_lload_n hx hb dX10_ways_192 rfl (lv_at hl 3 rfl) ?_
                refine lv_aload_n hx hb dX10_ways_193 rfl (lv_at hl 1 rfl) ?_
                refine va_get (D := (dC, dI)) (ci := 10) (C := RX10) (T := TX10) (N := 26) hx hb hts hiX10 hown hK hP 0 rfl rfl 8 (by decide) (hts (.fieldLink RX10 26 "PaddockFieldsModel" "cells" "[J") (List.mem_cons_of_mem _ (List.mem_append_left _ (List.mem_append_left _ (List.mem_of_getElem? (i := 4) rfl))))) (fun _ h9 => h9) rfl dX10_ways_194 ?_
                refine lv_aload_n hx hb dX10_ways_197 rfl (lv_at hl 1 rfl) ?_
                refine va_get (D := (dC, dI)) (ci := 10) (C := RX10) (T := TX10) (N := 26) hx hb hts hiX10 hown hK hP 0 rfl rfl 18 (by decide) (hts (.fieldLink RX10 51 "PaddockFieldsModel" "chosen" "[I") (List.mem_cons_of_mem _ (List.mem_append_left _ (List.mem_append_left _ (List.mem_of_getElem? (i := 5) rfl))))) (fun _ h9 => h9) rfl dX10_ways_198 ?_
                refine lv_iload hx hb dX10_ways_201 (lv_at hl 0 rfl) ?_
                obtain ⟨v22, h_v22, hf⟩ := hf_bind hf
                refine wh_ldI (D := (dC, dI)) hx hb hK hP 7 0 rfl rfl h_v22 dX10_ways_203 ?_
                obtain ⟨v23, h_v23, hf⟩ := hf_bind hf
                refine wh_ldJ (D := (dC, dI)) hx hb hK hP 3 2 rfl rfl h_v23 dX10_ways_204 ?_
                refine lv_ldc2 hx hb hown (hts (.constantLong RX10 111 (-1)) (List.mem_cons_of_mem _ (List.mem_append_left _ (List.mem_append_left _ (List.mem_of_getElem? (i := 2) rfl))))) dX10_ways_205 ?_
                refine lv_lxor hx hb dX10_ways_208 ?_
                refine lv_land hx hb dX10_ways_209 ?_
                refine lv_goto (tgt := 214) hx hb dX10_ways_210 (by decide) ?_
                obtain rfl := Option.some.inj hf
                exact hJ_19 _ _ _ (lv_sub hl [1, 2, 0, 4] rfl) hP hD hS
            · replace hf := hf_neg (not_not_intro cc) hf
              refine lv_iload hx hb dX10_ways_59 (lv_at hl 4 rfl) ?_
              obtain rfl := Option.some.inj hf
              exact hret _ _ _ _ hP hD hS dX10_ways_61
          clear hf
          have hf := h_j21
          clear h_j21
          refine lv_icmp_ne (tgt := 53) hx hb dX10_ways_44 (by decide) (fun cc => ?_) (fun cc => ?_)
          · replace hf := hf_pos cc hf
            obtain rfl := Option.some.inj hf
            exact hJ_18 _ _ _ (lv_sub hl [2, 3, 4, 5, 0, 1] rfl) hP hD hS
          · replace hf := hf_neg (not_not_intro cc) hf
            refine lv_aload_n hx hb dX10_ways_47 rfl (lv_at hl 2 rfl) ?_
            refine lv_iload hx hb dX10_ways_48 (lv_at hl 5 rfl) ?_
            obtain ⟨s20, h_s20, hf⟩ := hf_bind hf
            refine wh_callv (D := (dC, dI)) (ws' := (wl_fM_ways cI cZ cJ cQ a_0 a_0table a_0s a_0cells a_0owner a_0code a_0last a_0chosen a_0corner a_0wide a_0before a_0slots a_0isKept a_0buffer a_0isOver a_0isRuled a_0all a_0some a_0cuts a_0aside known_0 length_0 thrown_0 s1.1 round_0 seed_0 hash_0 s1.2.1 s_0 s1.2.2.1 s1.2.2.2.1 s1.2.2.2.2 last_0_5 chosen_0_6 s20.1 s20.2)) (va_runV (As := [.int l4_3]) (rest := []) ⟨hx, hb, hml, hown, hts⟩ (c_fM_remembers l dC dI cI cZ cJ cQ a_0 a_0s a_0corner a_0wide a_0chosen a_0cells a_0owner a_0before a_0slots a_0isKept a_0buffer a_0code a_0table a_0isOver a_0isRuled a_0all a_0some a_0last a_0cuts a_0aside known_0 length_0 thrown_0 s1.1 round_0 seed_0 hash_0 _ h_s20) (cwV 1 hts gX10_ways_X10_remembers rfl rfl rfl (by decide +kernel) ⟨Nat.le_of_ble_eq_true rfl, Nat.le_of_ble_eq_true rfl⟩) (wh_preV (C := RX10) (T := TX10) (N := 26) hK hN hP hD [0, 2, 8, 9, 7, 3, 4] rfl rfl 10 0 rfl rfl) rfl rfl hl.1 rfl (lv_room (Nat.le_of_ble_eq_true rfl)) dX10_ways_50 ⟨Nat.le_refl _, Nat.le_refl _⟩) hP hD hS hA [0, 2, 8, 9, 7, 3, 4] [1, 5, 6] [3, 0, 4, 8, 9, 1, 2, 7, 5, 6] rfl rfl rfl rfl (fun H locs hP hD hS => ?_)
            obtain rfl := Option.some.inj hf
            exact hJ_18 _ _ _ (lv_sub hl [2, 3, 4, 5, 0, 1] rfl) hP hD hS
  exact hL_1 _ _ _ _ _ _ _ _ hf _ _ _ (lv_sub hl [3, 4, 2, 1, 0] rfl) hP hD hS
