def fM_countOf_L4 (F : Nat) (l1 : Int32) (many_0 : Int32) (owner_0 : Nat → Int32) : Nat → Int32 → Int32 → Option (Int32 × Int32)
  | 0, _, _ => none
  | N + 1, l2, l3 =>
    if many_0 ≤ l3 then
      some (l2, l3)
    else
      (o_rd 1200 owner_0 l3).bind fun v1 =>
      (show Option (Int32) from
        if ¬ v1 = l1 then
          some (0 : Int32)
        else
          some (1 : Int32)).bind fun j2 =>
      fM_countOf_L4 F l1 many_0 owner_0 N (l2 + j2) (l3 + (1 : Int32))
def fM_countOf (F : Nat) (x1 : Int32) (many_0 : Int32) (owner_0 : Nat → Int32) : Option (Int32) :=
  (fM_countOf_L4 F x1 many_0 owner_0 F (0 : Int32) (0 : Int32)).bind fun r3 =>
  some r3.1
abbrev wl_fM_countOf (cI cZ cJ cQ : ClassId) (a_0 a_0owner a_0s a_0before a_0slots a_0isKept a_0buffer a_0cells a_0code a_0table a_0isOver a_0isRuled a_0all a_0some a_0chosen a_0last a_0corner a_0wide a_0cuts a_0aside : Nat) (known_0 : Int32) (length_0 : Int32) (thrown_0 : Int32) (many_0 : Int32) (round_0 : Int32) (seed_0 : Int64) (hash_0 : Int64) (owner_0 : Nat → Int32) : va_W := [(a_0, .inr (10, [.ref a_0s, .ref a_0before, .int known_0, .ref a_0slots, .ref a_0isKept, .ref a_0buffer, .int length_0, .int thrown_0, .ref a_0cells, .ref a_0owner, .ref a_0code, .int many_0, .ref a_0table, .ref a_0isOver, .ref a_0isRuled, .ref a_0all, .ref a_0some, .int round_0, .ref a_0chosen, .ref a_0last, .ref a_0corner, .ref a_0wide, .ref a_0cuts, .long seed_0, .ref a_0aside, .long hash_0])), (a_0owner, .inl (cI, 1200, .inl owner_0))]
def fM_possibleFor (F : Nat) (x1 : Int32) (x2 : Int32) (s_0 : Nat → Int32) (thrown_0 : Int32) (many_0 : Int32) (table_0 : Nat → Int32) (cells_0 : Nat → Int64) (owner_0 : Nat → Int32) (code_0 : Nat → Int32) : Option (Int32 × Int32 × Int32 × (Nat → Int32) × (Nat → Int64) × (Nat → Int32) × (Nat → Int32)) :=
  (fM_isThere x1 x2 (0 : Int32) s_0 thrown_0).bind fun s1 =>
  if ¬ s1.1 = (0 : Int32) then
    (fM_finds F many_0 table_0 s_0 cells_0 owner_0 code_0).bind fun s2 =>
    (fM_countOf F (((7 : Int32) * x1) + x2) s2.1 s2.2.2.2.1).bind fun s3 =>
    some (s3, s1.2, s2.1, s2.2.1, s2.2.2.1, s2.2.2.2.1, s2.2.2.2.2)
  else
    some ((0 : Int32), s1.2, many_0, table_0, cells_0, owner_0, code_0)
abbrev wl_fM_possibleFor (cI cZ cJ cQ : ClassId) (a_0 a_0s a_0table a_0cells a_0owner a_0code a_0before a_0slots a_0isKept a_0buffer a_0isOver a_0isRuled a_0all a_0some a_0chosen a_0last a_0corner a_0wide a_0cuts a_0aside : Nat) (known_0 : Int32) (length_0 : Int32) (thrown_0 : Int32) (many_0 : Int32) (round_0 : Int32) (seed_0 : Int64) (hash_0 : Int64) (s_0 : Nat → Int32) (table_0 : Nat → Int32) (cells_0 : Nat → Int64) (owner_0 : Nat → Int32) (code_0 : Nat → Int32) : va_W := [(a_0, .inr (10, [.ref a_0s, .ref a_0before, .int known_0, .ref a_0slots, .ref a_0isKept, .ref a_0buffer, .int length_0, .int thrown_0, .ref a_0cells, .ref a_0owner, .ref a_0code, .int many_0, .ref a_0table, .ref a_0isOver, .ref a_0isRuled, .ref a_0all, .ref a_0some, .int round_0, .ref a_0chosen, .ref a_0last, .ref a_0corner, .ref a_0wide, .ref a_0cuts, .long seed_0, .ref a_0aside, .long hash_0])), (a_0s, .inl (cI, 84, .inl s_0)), (a_0table, .inl (cI, 252, .inl table_0)), (a_0cells, .inl (cJ, 1200, .inr (.inl cells_0))), (a_0owner, .inl (cI, 1200, .inl owner_0)), (a_0code, .inl (cI, 1200, .inl code_0))]
def fM_possibleAt_L22 (F : Nat) (l1 : Int32) (l2 : Int32) (thrown_0 : Int32) (many_0 : Int32) (table_0 : Nat → Int32) (cells_0 : Nat → Int64) (owner_0 : Nat → Int32) (code_0 : Nat → Int32) : Nat → Int32 → Int32 → Option (Int32 × Int32 × Int32 × (Nat → Int32) × (Nat → Int64) × (Nat → Int32) × (Nat → Int32))
  | 0, _, _ => none
  | N + 1, l4, l5 =>
    if many_0 ≤ l5 then
      (fM_throwing (1 : Int32) thrown_0).bind fun s3 =>
      some (s3.1, s3.2, many_0, table_0, cells_0, owner_0, code_0)
    else
      (o_rd 1200 owner_0 l5).bind fun v4 =>
      if ¬ v4 = (((7 : Int32) * l1) + l2) then
        fM_possibleAt_L22 F l1 l2 thrown_0 many_0 table_0 cells_0 owner_0 code_0 N l4 (l5 + (1 : Int32))
      else
        if ¬ l4 = (0 : Int32) then
          fM_possibleAt_L22 F l1 l2 thrown_0 many_0 table_0 cells_0 owner_0 code_0 N (l4 + (-1 : Int32)) (l5 + (1 : Int32))
        else
          (o_rd 1200 code_0 l5).bind fun v5 =>
          some (v5, thrown_0, many_0, table_0, cells_0, owner_0, code_0)
def fM_possibleAt (F : Nat) (x1 : Int32) (x2 : Int32) (x3 : Int32) (s_0 : Nat → Int32) (thrown_0 : Int32) (many_0 : Int32) (table_0 : Nat → Int32) (cells_0 : Nat → Int64) (owner_0 : Nat → Int32) (code_0 : Nat → Int32) : Option (Int32 × Int32 × Int32 × (Nat → Int32) × (Nat → Int64) × (Nat → Int32) × (Nat → Int32)) :=
  (fM_isThere x1 x2 (0 : Int32) s_0 thrown_0).bind fun s1 =>
  if ¬ s1.1 = (0 : Int32) then
    (fM_finds F many_0 table_0 s_0 cells_0 owner_0 code_0).bind fun s2 =>
    (fM_possibleAt_L22 F x1 x2 s1.2 s2.1 s2.2.1 s2.2.2.1 s2.2.2.2.1 s2.2.2.2.2 F x3 (0 : Int32))
  else
    some ((0 : Int32), s1.2, many_0, table_0, cells_0, owner_0, code_0)
abbrev wl_fM_possibleAt (cI cZ cJ cQ : ClassId) (a_0 a_0s a_0table a_0cells a_0owner a_0code a_0before a_0slots a_0isKept a_0buffer a_0isOver a_0isRuled a_0all a_0some a_0chosen a_0last a_0corner a_0wide a_0cuts a_0aside : Nat) (known_0 : Int32) (length_0 : Int32) (thrown_0 : Int32) (many_0 : Int32) (round_0 : Int32) (seed_0 : Int64) (hash_0 : Int64) (s_0 : Nat → Int32) (table_0 : Nat → Int32) (cells_0 : Nat → Int64) (owner_0 : Nat → Int32) (code_0 : Nat → Int32) : va_W := [(a_0, .inr (10, [.ref a_0s, .ref a_0before, .int known_0, .ref a_0slots, .ref a_0isKept, .ref a_0buffer, .int length_0, .int thrown_0, .ref a_0cells, .ref a_0owner, .ref a_0code, .int many_0, .ref a_0table, .ref a_0isOver, .ref a_0isRuled, .ref a_0all, .ref a_0some, .int round_0, .ref a_0chosen, .ref a_0last, .ref a_0corner, .ref a_0wide, .ref a_0cuts, .long seed_0, .ref a_0aside, .long hash_0])), (a_0s, .inl (cI, 84, .inl s_0)), (a_0table, .inl (cI, 252, .inl table_0)), (a_0cells, .inl (cJ, 1200, .inr (.inl cells_0))), (a_0owner, .inl (cI, 1200, .inl owner_0)), (a_0code, .inl (cI, 1200, .inl code_0))]
def fM_covering_L4 (F : Nat) (l1 : Int32) (many_0 : Int32) (cells_0 : Nat → Int64) : Nat → Int32 → Int32 → Option (Int32 × Int32)
  | 0, _, _ => none
  | N + 1, l2, l3 =>
    if many_0 ≤ l3 then
      some (l2, l3)
    else
      (o_rd 1200 cells_0 l3).bind fun v1 =>
      (fM_has v1 l1).bind fun s2 =>
      (show Option (Int32) from
        if s2 = (0 : Int32) then
          some (0 : Int32)
        else
          some (1 : Int32)).bind fun j3 =>
      fM_covering_L4 F l1 many_0 cells_0 N (l2 + j3) (l3 + (1 : Int32))
def fM_covering (F : Nat) (x1 : Int32) (many_0 : Int32) (cells_0 : Nat → Int64) : Option (Int32) :=
  (fM_covering_L4 F x1 many_0 cells_0 F (0 : Int32) (0 : Int32)).bind fun r4 =>
  some r4.1
abbrev wl_fM_covering (cI cZ cJ cQ : ClassId) (a_0 a_0cells a_0s a_0before a_0slots a_0isKept a_0buffer a_0owner a_0code a_0table a_0isOver a_0isRuled a_0all a_0some a_0chosen a_0last a_0corner a_0wide a_0cuts a_0aside : Nat) (known_0 : Int32) (length_0 : Int32) (thrown_0 : Int32) (many_0 : Int32) (round_0 : Int32) (seed_0 : Int64) (hash_0 : Int64) (cells_0 : Nat → Int64) : va_W := [(a_0, .inr (10, [.ref a_0s, .ref a_0before, .int known_0, .ref a_0slots, .ref a_0isKept, .ref a_0buffer, .int length_0, .int thrown_0, .ref a_0cells, .ref a_0owner, .ref a_0code, .int many_0, .ref a_0table, .ref a_0isOver, .ref a_0isRuled, .ref a_0all, .ref a_0some, .int round_0, .ref a_0chosen, .ref a_0last, .ref a_0corner, .ref a_0wide, .ref a_0cuts, .long seed_0, .ref a_0aside, .long hash_0])), (a_0cells, .inl (cJ, 1200, .inr (.inl cells_0)))]
def fM_claiming_L5 (F : Nat) (l1 : Int32) (many_0 : Int32) (cells_0 : Nat → Int64) (owner_0 : Nat → Int32) : Nat → Int64 → Int32 → Option (Int64 × Int32)
  | 0, _, _ => none
  | N + 1, l2, l4 =>
    if many_0 ≤ l4 then
      some (l2, l4)
    else
      (o_rd 1200 cells_0 l4).bind fun v1 =>
      (fM_has v1 l1).bind fun s2 =>
      (show Option (Int64) from
        if s2 = (0 : Int32) then
          some (0 : Int64)
        else
          (o_rd 1200 owner_0 l4).bind fun v3 =>
          some ((1 : Int64) <<< (v3.toInt64 &&& 63))).bind fun j4 =>
      fM_claiming_L5 F l1 many_0 cells_0 owner_0 N (l2 ||| j4) (l4 + (1 : Int32))
def fM_claiming (F : Nat) (x1 : Int32) (many_0 : Int32) (cells_0 : Nat → Int64) (owner_0 : Nat → Int32) : Option (Int32) :=
  (fM_claiming_L5 F x1 many_0 cells_0 owner_0 F (0 : Int64) (0 : Int32)).bind fun r5 =>
  (fM_bits F r5.1).bind fun s6 =>
  some s6
abbrev wl_fM_claiming (cI cZ cJ cQ : ClassId) (a_0 a_0cells a_0owner a_0s a_0before a_0slots a_0isKept a_0buffer a_0code a_0table a_0isOver a_0isRuled a_0all a_0some a_0chosen a_0last a_0corner a_0wide a_0cuts a_0aside : Nat) (known_0 : Int32) (length_0 : Int32) (thrown_0 : Int32) (many_0 : Int32) (round_0 : Int32) (seed_0 : Int64) (hash_0 : Int64) (cells_0 : Nat → Int64) (owner_0 : Nat → Int32) : va_W := [(a_0, .inr (10, [.ref a_0s, .ref a_0before, .int known_0, .ref a_0slots, .ref a_0isKept, .ref a_0buffer, .int length_0, .int thrown_0, .ref a_0cells, .ref a_0owner, .ref a_0code, .int many_0, .ref a_0table, .ref a_0isOver, .ref a_0isRuled, .ref a_0all, .ref a_0some, .int round_0, .ref a_0chosen, .ref a_0last, .ref a_0corner, .ref a_0wide, .ref a_0cuts, .long seed_0, .ref a_0aside, .long hash_0])), (a_0cells, .inl (cJ, 1200, .inr (.inl cells_0))), (a_0owner, .inl (cI, 1200, .inl owner_0))]
def fM_coveredBy (F : Nat) (x1 : Int32) (x2 : Int32) (s_0 : Nat → Int32) (thrown_0 : Int32) (many_0 : Int32) (table_0 : Nat → Int32) (cells_0 : Nat → Int64) (owner_0 : Nat → Int32) (code_0 : Nat → Int32) : Option (Int32 × Int32 × Int32 × (Nat → Int32) × (Nat → Int64) × (Nat → Int32) × (Nat → Int32)) :=
  (fM_isThere x1 x2 (0 : Int32) s_0 thrown_0).bind fun s1 =>
  if ¬ s1.1 = (0 : Int32) then
    (fM_finds F many_0 table_0 s_0 cells_0 owner_0 code_0).bind fun s2 =>
    (fM_covering F (((7 : Int32) * x1) + x2) s2.1 s2.2.2.1).bind fun s3 =>
    some (s3, s1.2, s2.1, s2.2.1, s2.2.2.1, s2.2.2.2.1, s2.2.2.2.2)
  else
    some ((0 : Int32), s1.2, many_0, table_0, cells_0, owner_0, code_0)
abbrev wl_fM_coveredBy (cI cZ cJ cQ : ClassId) (a_0 a_0s a_0table a_0cells a_0owner a_0code a_0before a_0slots a_0isKept a_0buffer a_0isOver a_0isRuled a_0all a_0some a_0chosen a_0last a_0corner a_0wide a_0cuts a_0aside : Nat) (known_0 : Int32) (length_0 : Int32) (thrown_0 : Int32) (many_0 : Int32) (round_0 : Int32) (seed_0 : Int64) (hash_0 : Int64) (s_0 : Nat → Int32) (table_0 : Nat → Int32) (cells_0 : Nat → Int64) (owner_0 : Nat → Int32) (code_0 : Nat → Int32) : va_W := [(a_0, .inr (10, [.ref a_0s, .ref a_0before, .int known_0, .ref a_0slots, .ref a_0isKept, .ref a_0buffer, .int length_0, .int thrown_0, .ref a_0cells, .ref a_0owner, .ref a_0code, .int many_0, .ref a_0table, .ref a_0isOver, .ref a_0isRuled, .ref a_0all, .ref a_0some, .int round_0, .ref a_0chosen, .ref a_0last, .ref a_0corner, .ref a_0wide, .ref a_0cuts, .long seed_0, .ref a_0aside, .long hash_0])), (a_0s, .inl (cI, 84, .inl s_0)), (a_0table, .inl (cI, 252, .inl table_0)), (a_0cells, .inl (cJ, 1200, .inr (.inl cells_0))), (a_0owner, .inl (cI, 1200, .inl owner_0)), (a_0code, .inl (cI, 1200, .inl code_0))]
def fM_claimedBy (F : Nat) (x1 : Int32) (x2 : Int32) (s_0 : Nat → Int32) (thrown_0 : Int32) (many_0 : Int32) (table_0 : Nat → Int32) (cells_0 : Nat → Int64) (owner_0 : Nat → Int32) (code_0 : Nat → Int32) : Option (Int32 × Int32 × Int32 × (Nat → Int32) × (Nat → Int64) × (Nat → Int32) × (Nat → Int32)) :=
  (fM_isThere x1 x2 (0 : Int32) s_0 thrown_0).bind fun s1 =>
  if ¬ s1.1 = (0 : Int32) then
    (fM_finds F many_0 table_0 s_0 cells_0 owner_0 code_0).bind fun s2 =>
    (fM_claiming F (((7 : Int32) * x1) + x2) s2.1 s2.2.2.1 s2.2.2.2.1).bind fun s3 =>
    some (s3, s1.2, s2.1, s2.2.1, s2.2.2.1, s2.2.2.2.1, s2.2.2.2.2)
  else
    some ((0 : Int32), s1.2, many_0, table_0, cells_0, owner_0, code_0)
abbrev wl_fM_claimedBy (cI cZ cJ cQ : ClassId) (a_0 a_0s a_0table a_0cells a_0owner a_0code a_0before a_0slots a_0isKept a_0buffer a_0isOver a_0isRuled a_0all a_0some a_0chosen a_0last a_0corner a_0wide a_0cuts a_0aside : Nat) (known_0 : Int32) (length_0 : Int32) (thrown_0 : Int32) (many_0 : Int32) (round_0 : Int32) (seed_0 : Int64) (hash_0 : Int64) (s_0 : Nat → Int32) (table_0 : Nat → Int32) (cells_0 : Nat → Int64) (owner_0 : Nat → Int32) (code_0 : Nat → Int32) : va_W := [(a_0, .inr (10, [.ref a_0s, .ref a_0before, .int known_0, .ref a_0slots, .ref a_0isKept, .ref a_0buffer, .int length_0, .int thrown_0, .ref a_0cells, .ref a_0owner, .ref a_0code, .int many_0, .ref a_0table, .ref a_0isOver, .ref a_0isRuled, .ref a_0all, .ref a_0some, .int round_0, .ref a_0chosen, .ref a_0last, .ref a_0corner, .ref a_0wide, .ref a_0cuts, .long seed_0, .ref a_0aside, .long hash_0])), (a_0s, .inl (cI, 84, .inl s_0)), (a_0table, .inl (cI, 252, .inl table_0)), (a_0cells, .inl (cJ, 1200, .inr (.inl cells_0))), (a_0owner, .inl (cI, 1200, .inl owner_0)), (a_0code, .inl (cI, 1200, .inl code_0))]
def fM_possible (F : Nat) (thrown_0 : Int32) (many_0 : Int32) (table_0 : Nat → Int32) (s_0 : Nat → Int32) (cells_0 : Nat → Int64) (owner_0 : Nat → Int32) (code_0 : Nat → Int32) : Option (Int32 × Int32 × Int32 × (Nat → Int32) × (Nat → Int64) × (Nat → Int32) × (Nat → Int32)) :=
  (fM_finds F many_0 table_0 s_0 cells_0 owner_0 code_0).bind fun s1 =>
  some (s1.1, (0 : Int32), s1.1, s1.2.1, s1.2.2.1, s1.2.2.2.1, s1.2.2.2.2)
abbrev wl_fM_possible (cI cZ cJ cQ : ClassId) (a_0 a_0table a_0s a_0cells a_0owner a_0code a_0before a_0slots a_0isKept a_0buffer a_0isOver a_0isRuled a_0all a_0some a_0chosen a_0last a_0corner a_0wide a_0cuts a_0aside : Nat) (known_0 : Int32) (length_0 : Int32) (thrown_0 : Int32) (many_0 : Int32) (round_0 : Int32) (seed_0 : Int64) (hash_0 : Int64) (table_0 : Nat → Int32) (s_0 : Nat → Int32) (cells_0 : Nat → Int64) (owner_0 : Nat → Int32) (code_0 : Nat → Int32) : va_W := [(a_0, .inr (10, [.ref a_0s, .ref a_0before, .int known_0, .ref a_0slots, .ref a_0isKept, .ref a_0buffer, .int length_0, .int thrown_0, .ref a_0cells, .ref a_0owner, .ref a_0code, .int many_0, .ref a_0table, .ref a_0isOver, .ref a_0isRuled, .ref a_0all, .ref a_0some, .int round_0, .ref a_0chosen, .ref a_0last, .ref a_0corner, .ref a_0wide, .ref a_0cuts, .long seed_0, .ref a_0aside, .long hash_0])), (a_0table, .inl (cI, 252, .inl table_0)), (a_0s, .inl (cI, 84, .inl s_0)), (a_0cells, .inl (cJ, 1200, .inr (.inl cells_0))), (a_0owner, .inl (cI, 1200, .inl owner_0)), (a_0code, .inl (cI, 1200, .inl code_0))]
def fM_rounds (F : Nat) (thrown_0 : Int32) (many_0 : Int32) (table_0 : Nat → Int32) (s_0 : Nat → Int32) (cells_0 : Nat → Int64) (owner_0 : Nat → Int32) (code_0 : Nat → Int32) (isOver_0 : Nat → Int32) (round_0 : Int32) (all_0 : Nat → Int64) (some_0 : Nat → Int64) (isRuled_0 : Nat → Int32) : Option (Int32 × Int32 × Int32 × (Nat → Int32) × (Nat → Int64) × (Nat → Int32) × (Nat → Int32) × (Nat → Int32) × Int32 × (Nat → Int64) × (Nat → Int64) × (Nat → Int32)) :=
  (fM_rules F many_0 table_0 s_0 cells_0 owner_0 code_0 isOver_0 round_0 all_0 some_0 isRuled_0).bind fun s1 =>
  some (s1.2.2.2.2.2.2.1, (0 : Int32), s1.1, s1.2.1, s1.2.2.1, s1.2.2.2.1, s1.2.2.2.2.1, s1.2.2.2.2.2.1, s1.2.2.2.2.2.2.1, s1.2.2.2.2.2.2.2.1, s1.2.2.2.2.2.2.2.2.1, s1.2.2.2.2.2.2.2.2.2)
abbrev wl_fM_rounds (cI cZ cJ cQ : ClassId) (a_0 a_0table a_0s a_0cells a_0owner a_0code a_0isOver a_0all a_0some a_0isRuled a_0before a_0slots a_0isKept a_0buffer a_0chosen a_0last a_0corner a_0wide a_0cuts a_0aside : Nat) (known_0 : Int32) (length_0 : Int32) (thrown_0 : Int32) (many_0 : Int32) (round_0 : Int32) (seed_0 : Int64) (hash_0 : Int64) (table_0 : Nat → Int32) (s_0 : Nat → Int32) (cells_0 : Nat → Int64) (owner_0 : Nat → Int32) (code_0 : Nat → Int32) (isOver_0 : Nat → Int32) (all_0 : Nat → Int64) (some_0 : Nat → Int64) (isRuled_0 : Nat → Int32) : va_W := [(a_0, .inr (10, [.ref a_0s, .ref a_0before, .int known_0, .ref a_0slots, .ref a_0isKept, .ref a_0buffer, .int length_0, .int thrown_0, .ref a_0cells, .ref a_0owner, .ref a_0code, .int many_0, .ref a_0table, .ref a_0isOver, .ref a_0isRuled, .ref a_0all, .ref a_0some, .int round_0, .ref a_0chosen, .ref a_0last, .ref a_0corner, .ref a_0wide, .ref a_0cuts, .long seed_0, .ref a_0aside, .long hash_0])), (a_0table, .inl (cI, 252, .inl table_0)), (a_0s, .inl (cI, 84, .inl s_0)), (a_0cells, .inl (cJ, 1200, .inr (.inl cells_0))), (a_0owner, .inl (cI, 1200, .inl owner_0)), (a_0code, .inl (cI, 1200, .inl code_0)), (a_0isOver, .inl (cZ, 1200, .inl isOver_0)), (a_0all, .inl (cJ, 42, .inr (.inl all_0))), (a_0some, .inl (cJ, 42, .inr (.inl some_0))), (a_0isRuled, .inl (cZ, 1200, .inl isRuled_0))]
def fM_leftInTheEnd (F : Nat) (thrown_0 : Int32) (many_0 : Int32) (table_0 : Nat → Int32) (s_0 : Nat → Int32) (cells_0 : Nat → Int64) (owner_0 : Nat → Int32) (code_0 : Nat → Int32) (isOver_0 : Nat → Int32) (round_0 : Int32) (all_0 : Nat → Int64) (some_0 : Nat → Int64) (isRuled_0 : Nat → Int32) : Option (Int32 × Int32 × Int32 × (Nat → Int32) × (Nat → Int64) × (Nat → Int32) × (Nat → Int32) × (Nat → Int32) × Int32 × (Nat → Int64) × (Nat → Int64) × (Nat → Int32)) :=
  (fM_rules F many_0 table_0 s_0 cells_0 owner_0 code_0 isOver_0 round_0 all_0 some_0 isRuled_0).bind fun s1 =>
  (fM_leftAll F s1.1 s1.2.2.2.2.2.1).bind fun s2 =>
  some (s2, (0 : Int32), s1.1, s1.2.1, s1.2.2.1, s1.2.2.2.1, s1.2.2.2.2.1, s1.2.2.2.2.2.1, s1.2.2.2.2.2.2.1, s1.2.2.2.2.2.2.2.1, s1.2.2.2.2.2.2.2.2.1, s1.2.2.2.2.2.2.2.2.2)
abbrev wl_fM_leftInTheEnd (cI cZ cJ cQ : ClassId) (a_0 a_0table a_0s a_0cells a_0owner a_0code a_0isOver a_0all a_0some a_0isRuled a_0before a_0slots a_0isKept a_0buffer a_0chosen a_0last a_0corner a_0wide a_0cuts a_0aside : Nat) (known_0 : Int32) (length_0 : Int32) (thrown_0 : Int32) (many_0 : Int32) (round_0 : Int32) (seed_0 : Int64) (hash_0 : Int64) (table_0 : Nat → Int32) (s_0 : Nat → Int32) (cells_0 : Nat → Int64) (owner_0 : Nat → Int32) (code_0 : Nat → Int32) (isOver_0 : Nat → Int32) (all_0 : Nat → Int64) (some_0 : Nat → Int64) (isRuled_0 : Nat → Int32) : va_W := [(a_0, .inr (10, [.ref a_0s, .ref a_0before, .int known_0, .ref a_0slots, .ref a_0isKept, .ref a_0buffer, .int length_0, .int thrown_0, .ref a_0cells, .ref a_0owner, .ref a_0code, .int many_0, .ref a_0table, .ref a_0isOver, .ref a_0isRuled, .ref a_0all, .ref a_0some, .int round_0, .ref a_0chosen, .ref a_0last, .ref a_0corner, .ref a_0wide, .ref a_0cuts, .long seed_0, .ref a_0aside, .long hash_0])), (a_0table, .inl (cI, 252, .inl table_0)), (a_0s, .inl (cI, 84, .inl s_0)), (a_0cells, .inl (cJ, 1200, .inr (.inl cells_0))), (a_0owner, .inl (cI, 1200, .inl owner_0)), (a_0code, .inl (cI, 1200, .inl code_0)), (a_0isOver, .inl (cZ, 1200, .inl isOver_0)), (a_0all, .inl (cJ, 42, .inr (.inl all_0))), (a_0some, .inl (cJ, 42, .inr (.inl some_0))), (a_0isRuled, .inl (cZ, 1200, .inl isRuled_0))]
def fM_leftFor (F : Nat) (x1 : Int32) (x2 : Int32) (s_0 : Nat → Int32) (thrown_0 : Int32) (many_0 : Int32) (table_0 : Nat → Int32) (cells_0 : Nat → Int64) (owner_0 : Nat → Int32) (code_0 : Nat → Int32) (isOver_0 : Nat → Int32) (round_0 : Int32) (all_0 : Nat → Int64) (some_0 : Nat → Int64) (isRuled_0 : Nat → Int32) : Option (Int32 × Int32 × Int32 × (Nat → Int32) × (Nat → Int64) × (Nat → Int32) × (Nat → Int32) × (Nat → Int32) × Int32 × (Nat → Int64) × (Nat → Int64) × (Nat → Int32)) :=
  (fM_isThere x1 x2 (0 : Int32) s_0 thrown_0).bind fun s1 =>
  if ¬ s1.1 = (0 : Int32) then
    (fM_rules F many_0 table_0 s_0 cells_0 owner_0 code_0 isOver_0 round_0 all_0 some_0 isRuled_0).bind fun s2 =>
    (fM_leftIn F (((7 : Int32) * x1) + x2) s2.1 s2.2.2.2.1 s2.2.2.2.2.2.1).bind fun s3 =>
    some (s3, s1.2, s2.1, s2.2.1, s2.2.2.1, s2.2.2.2.1, s2.2.2.2.2.1, s2.2.2.2.2.2.1, s2.2.2.2.2.2.2.1, s2.2.2.2.2.2.2.2.1, s2.2.2.2.2.2.2.2.2.1, s2.2.2.2.2.2.2.2.2.2)
  else
    some ((0 : Int32), s1.2, many_0, table_0, cells_0, owner_0, code_0, isOver_0, round_0, all_0, some_0, isRuled_0)
abbrev wl_fM_leftFor (cI cZ cJ cQ : ClassId) (a_0 a_0s a_0table a_0cells a_0owner a_0code a_0isOver a_0all a_0some a_0isRuled a_0before a_0slots a_0isKept a_0buffer a_0chosen a_0last a_0corner a_0wide a_0cuts a_0aside : Nat) (known_0 : Int32) (length_0 : Int32) (thrown_0 : Int32) (many_0 : Int32) (round_0 : Int32) (seed_0 : Int64) (hash_0 : Int64) (s_0 : Nat → Int32) (table_0 : Nat → Int32) (cells_0 : Nat → Int64) (owner_0 : Nat → Int32) (code_0 : Nat → Int32) (isOver_0 : Nat → Int32) (all_0 : Nat → Int64) (some_0 : Nat → Int64) (isRuled_0 : Nat → Int32) : va_W := [(a_0, .inr (10, [.ref a_0s, .ref a_0before, .int known_0, .ref a_0slots, .ref a_0isKept, .ref a_0buffer, .int length_0, .int thrown_0, .ref a_0cells, .ref a_0owner, .ref a_0code, .int many_0, .ref a_0table, .ref a_0isOver, .ref a_0isRuled, .ref a_0all, .ref a_0some, .int round_0, .ref a_0chosen, .ref a_0last, .ref a_0corner, .ref a_0wide, .ref a_0cuts, .long seed_0, .ref a_0aside, .long hash_0])), (a_0s, .inl (cI, 84, .inl s_0)), (a_0table, .inl (cI, 252, .inl table_0)), (a_0cells, .inl (cJ, 1200, .inr (.inl cells_0))), (a_0owner, .inl (cI, 1200, .inl owner_0)), (a_0code, .inl (cI, 1200, .inl code_0)), (a_0isOver, .inl (cZ, 1200, .inl isOver_0)), (a_0all, .inl (cJ, 42, .inr (.inl all_0))), (a_0some, .inl (cJ, 42, .inr (.inl some_0))), (a_0isRuled, .inl (cZ, 1200, .inl isRuled_0))]
def fM_isContradiction (F : Nat) (thrown_0 : Int32) (many_0 : Int32) (table_0 : Nat → Int32) (s_0 : Nat → Int32) (cells_0 : Nat → Int64) (owner_0 : Nat → Int32) (code_0 : Nat → Int32) (isOver_0 : Nat → Int32) (round_0 : Int32) (all_0 : Nat → Int64) (some_0 : Nat → Int64) (isRuled_0 : Nat → Int32) : Option (Int32 × Int32 × Int32 × (Nat → Int32) × (Nat → Int64) × (Nat → Int32) × (Nat → Int32) × (Nat → Int32) × Int32 × (Nat → Int64) × (Nat → Int64) × (Nat → Int32)) :=
  (fM_rules F many_0 table_0 s_0 cells_0 owner_0 code_0 isOver_0 round_0 all_0 some_0 isRuled_0).bind fun s1 =>
  (fM_isAgainst F s_0 s1.2.2.2.2.2.2.2.2.1).bind fun s2 =>
  (o_z s2).bind fun z3 =>
  some (z3, (0 : Int32), s1.1, s1.2.1, s1.2.2.1, s1.2.2.2.1, s1.2.2.2.2.1, s1.2.2.2.2.2.1, s1.2.2.2.2.2.2.1, s1.2.2.2.2.2.2.2.1, s1.2.2.2.2.2.2.2.2.1, s1.2.2.2.2.2.2.2.2.2)
abbrev wl_fM_isContradiction (cI cZ cJ cQ : ClassId) (a_0 a_0table a_0s a_0cells a_0owner a_0code a_0isOver a_0all a_0some a_0isRuled a_0before a_0slots a_0isKept a_0buffer a_0chosen a_0last a_0corner a_0wide a_0cuts a_0aside : Nat) (known_0 : Int32) (length_0 : Int32) (thrown_0 : Int32) (many_0 : Int32) (round_0 : Int32) (seed_0 : Int64) (hash_0 : Int64) (table_0 : Nat → Int32) (s_0 : Nat → Int32) (cells_0 : Nat → Int64) (owner_0 : Nat → Int32) (code_0 : Nat → Int32) (isOver_0 : Nat → Int32) (all_0 : Nat → Int64) (some_0 : Nat → Int64) (isRuled_0 : Nat → Int32) : va_W := [(a_0, .inr (10, [.ref a_0s, .ref a_0before, .int known_0, .ref a_0slots, .ref a_0isKept, .ref a_0buffer, .int length_0, .int thrown_0, .ref a_0cells, .ref a_0owner, .ref a_0code, .int many_0, .ref a_0table, .ref a_0isOver, .ref a_0isRuled, .ref a_0all, .ref a_0some, .int round_0, .ref a_0chosen, .ref a_0last, .ref a_0corner, .ref a_0wide, .ref a_0cuts, .long seed_0, .ref a_0aside, .long hash_0])), (a_0table, .inl (cI, 252, .inl table_0)), (a_0s, .inl (cI, 84, .inl s_0)), (a_0cells, .inl (cJ, 1200, .inr (.inl cells_0))), (a_0owner, .inl (cI, 1200, .inl owner_0)), (a_0code, .inl (cI, 1200, .inl code_0)), (a_0isOver, .inl (cZ, 1200, .inl isOver_0)), (a_0all, .inl (cJ, 42, .inr (.inl all_0))), (a_0some, .inl (cJ, 42, .inr (.inl some_0))), (a_0isRuled, .inl (cZ, 1200, .inl isRuled_0))]
def fM_certain (F : Nat) (thrown_0 : Int32) (many_0 : Int32) (table_0 : Nat → Int32) (s_0 : Nat → Int32) (cells_0 : Nat → Int64) (owner_0 : Nat → Int32) (code_0 : Nat → Int32) (isOver_0 : Nat → Int32) (round_0 : Int32) (all_0 : Nat → Int64) (some_0 : Nat → Int64) (isRuled_0 : Nat → Int32) : Option (Int32 × Int32 × Int32 × (Nat → Int32) × (Nat → Int64) × (Nat → Int32) × (Nat → Int32) × (Nat → Int32) × Int32 × (Nat → Int64) × (Nat → Int64) × (Nat → Int32)) :=
  (fM_rules F many_0 table_0 s_0 cells_0 owner_0 code_0 isOver_0 round_0 all_0 some_0 isRuled_0).bind fun s1 =>
  (fM_isAgainst F s_0 s1.2.2.2.2.2.2.2.2.1).bind fun s2 =>
  if s2 = (0 : Int32) then
    (fM_sure F s_0 s1.1 s1.2.2.2.1 s1.2.2.2.2.2.1).bind fun s3 =>
    some (s3, (0 : Int32), s1.1, s1.2.1, s1.2.2.1, s1.2.2.2.1, s1.2.2.2.2.1, s1.2.2.2.2.2.1, s1.2.2.2.2.2.2.1, s1.2.2.2.2.2.2.2.1, s1.2.2.2.2.2.2.2.2.1, s1.2.2.2.2.2.2.2.2.2)
  else
    (fM_throwing (1 : Int32) (0 : Int32)).bind fun s4 =>
    some (s4.1, s4.2, s1.1, s1.2.1, s1.2.2.1, s1.2.2.2.1, s1.2.2.2.2.1, s1.2.2.2.2.2.1, s1.2.2.2.2.2.2.1, s1.2.2.2.2.2.2.2.1, s1.2.2.2.2.2.2.2.2.1, s1.2.2.2.2.2.2.2.2.2)
abbrev wl_fM_certain (cI cZ cJ cQ : ClassId) (a_0 a_0table a_0s a_0cells a_0owner a_0code a_0isOver a_0all a_0some a_0isRuled a_0before a_0slots a_0isKept a_0buffer a_0chosen a_0last a_0corner a_0wide a_0cuts a_0aside : Nat) (known_0 : Int32) (length_0 : Int32) (thrown_0 : Int32) (many_0 : Int32) (round_0 : Int32) (seed_0 : Int64) (hash_0 : Int64) (table_0 : Nat → Int32) (s_0 : Nat → Int32) (cells_0 : Nat → Int64) (owner_0 : Nat → Int32) (code_0 : Nat → Int32) (isOver_0 : Nat → Int32) (all_0 : Nat → Int64) (some_0 : Nat → Int64) (isRuled_0 : Nat → Int32) : va_W := [(a_0, .inr (10, [.ref a_0s, .ref a_0before, .int known_0, .ref a_0slots, .ref a_0isKept, .ref a_0buffer, .int length_0, .int thrown_0, .ref a_0cells, .ref a_0owner, .ref a_0code, .int many_0, .ref a_0table, .ref a_0isOver, .ref a_0isRuled, .ref a_0all, .ref a_0some, .int round_0, .ref a_0chosen, .ref a_0last, .ref a_0corner, .ref a_0wide, .ref a_0cuts, .long seed_0, .ref a_0aside, .long hash_0])), (a_0table, .inl (cI, 252, .inl table_0)), (a_0s, .inl (cI, 84, .inl s_0)), (a_0cells, .inl (cJ, 1200, .inr (.inl cells_0))), (a_0owner, .inl (cI, 1200, .inl owner_0)), (a_0code, .inl (cI, 1200, .inl code_0)), (a_0isOver, .inl (cZ, 1200, .inl isOver_0)), (a_0all, .inl (cJ, 42, .inr (.inl all_0))), (a_0some, .inl (cJ, 42, .inr (.inl some_0))), (a_0isRuled, .inl (cZ, 1200, .inl isRuled_0))]
def fM_hint (F : Nat) (thrown_0 : Int32) (many_0 : Int32) (table_0 : Nat → Int32) (s_0 : Nat → Int32) (cells_0 : Nat → Int64) (owner_0 : Nat → Int32) (code_0 : Nat → Int32) (isOver_0 : Nat → Int32) (round_0 : Int32) (all_0 : Nat → Int64) (some_0 : Nat → Int64) (isRuled_0 : Nat → Int32) : Option (Int32 × Int32 × Int32 × (Nat → Int32) × (Nat → Int64) × (Nat → Int32) × (Nat → Int32) × (Nat → Int32) × Int32 × (Nat → Int64) × (Nat → Int64) × (Nat → Int32)) :=
  (fM_rules F many_0 table_0 s_0 cells_0 owner_0 code_0 isOver_0 round_0 all_0 some_0 isRuled_0).bind fun s1 =>
  (fM_isAgainst F s_0 s1.2.2.2.2.2.2.2.2.1).bind fun s2 =>
  if ¬ s2 = (0 : Int32) then
    (fM_throwing (1 : Int32) (0 : Int32)).bind fun s3 =>
    some (s3.1, s3.2, s1.1, s1.2.1, s1.2.2.1, s1.2.2.2.1, s1.2.2.2.2.1, s1.2.2.2.2.2.1, s1.2.2.2.2.2.2.1, s1.2.2.2.2.2.2.2.1, s1.2.2.2.2.2.2.2.2.1, s1.2.2.2.2.2.2.2.2.2)
  else
    (fM_firstSure F s_0 s1.1 s1.2.2.2.1 s1.2.2.2.2.2.1).bind fun s4 =>
    if ¬ s4 = (-1 : Int32) then
      (fM_firstSure F s_0 s1.1 s1.2.2.2.1 s1.2.2.2.2.2.1).bind fun s5 =>
      some (s5, (0 : Int32), s1.1, s1.2.1, s1.2.2.1, s1.2.2.2.1, s1.2.2.2.2.1, s1.2.2.2.2.2.1, s1.2.2.2.2.2.2.1, s1.2.2.2.2.2.2.2.1, s1.2.2.2.2.2.2.2.2.1, s1.2.2.2.2.2.2.2.2.2)
    else
      (fM_throwing (1 : Int32) (0 : Int32)).bind fun s6 =>
      some (s6.1, s6.2, s1.1, s1.2.1, s1.2.2.1, s1.2.2.2.1, s1.2.2.2.2.1, s1.2.2.2.2.2.1, s1.2.2.2.2.2.2.1, s1.2.2.2.2.2.2.2.1, s1.2.2.2.2.2.2.2.2.1, s1.2.2.2.2.2.2.2.2.2)
abbrev wl_fM_hint (cI cZ cJ cQ : ClassId) (a_0 a_0table a_0s a_0cells a_0owner a_0code a_0isOver a_0all a_0some a_0isRuled a_0before a_0slots a_0isKept a_0buffer a_0chosen a_0last a_0corner a_0wide a_0cuts a_0aside : Nat) (known_0 : Int32) (length_0 : Int32) (thrown_0 : Int32) (many_0 : Int32) (round_0 : Int32) (seed_0 : Int64) (hash_0 : Int64) (table_0 : Nat → Int32) (s_0 : Nat → Int32) (cells_0 : Nat → Int64) (owner_0 : Nat → Int32) (code_0 : Nat → Int32) (isOver_0 : Nat → Int32) (all_0 : Nat → Int64) (some_0 : Nat → Int64) (isRuled_0 : Nat → Int32) : va_W := [(a_0, .inr (10, [.ref a_0s, .ref a_0before, .int known_0, .ref a_0slots, .ref a_0isKept, .ref a_0buffer, .int length_0, .int thrown_0, .ref a_0cells, .ref a_0owner, .ref a_0code, .int many_0, .ref a_0table, .ref a_0isOver, .ref a_0isRuled, .ref a_0all, .ref a_0some, .int round_0, .ref a_0chosen, .ref a_0last, .ref a_0corner, .ref a_0wide, .ref a_0cuts, .long seed_0, .ref a_0aside, .long hash_0])), (a_0table, .inl (cI, 252, .inl table_0)), (a_0s, .inl (cI, 84, .inl s_0)), (a_0cells, .inl (cJ, 1200, .inr (.inl cells_0))), (a_0owner, .inl (cI, 1200, .inl owner_0)), (a_0code, .inl (cI, 1200, .inl code_0)), (a_0isOver, .inl (cZ, 1200, .inl isOver_0)), (a_0all, .inl (cJ, 42, .inr (.inl all_0))), (a_0some, .inl (cJ, 42, .inr (.inl some_0))), (a_0isRuled, .inl (cZ, 1200, .inl isRuled_0))]
def fM_waysByNumbers (F : Nat) (thrown_0 : Int32) (many_0 : Int32) (table_0 : Nat → Int32) (s_0 : Nat → Int32) (cells_0 : Nat → Int64) (owner_0 : Nat → Int32) (code_0 : Nat → Int32) (last_0 : Nat → Int32) (chosen_0 : Nat → Int32) (corner_0 : Nat → Int32) (wide_0 : Nat → Int32) : Option (Int32 × Int32 × Int32 × (Nat → Int32) × (Nat → Int64) × (Nat → Int32) × (Nat → Int32) × (Nat → Int32) × (Nat → Int32) × (Nat → Int32) × (Nat → Int32)) :=
  (fM_ways F (50 : Int32) many_0 table_0 s_0 cells_0 owner_0 code_0 last_0 chosen_0 corner_0 wide_0).bind fun s1 =>
  some (s1.1, (0 : Int32), s1.2.1, s1.2.2.1, s1.2.2.2.1, s1.2.2.2.2.1, s1.2.2.2.2.2.1, s1.2.2.2.2.2.2.1, s1.2.2.2.2.2.2.2.1, s1.2.2.2.2.2.2.2.2.1, s1.2.2.2.2.2.2.2.2.2)
abbrev wl_fM_waysByNumbers (cI cZ cJ cQ : ClassId) (a_0 a_0table a_0s a_0cells a_0owner a_0code a_0last a_0chosen a_0corner a_0wide a_0before a_0slots a_0isKept a_0buffer a_0isOver a_0isRuled a_0all a_0some a_0cuts a_0aside : Nat) (known_0 : Int32) (length_0 : Int32) (thrown_0 : Int32) (many_0 : Int32) (round_0 : Int32) (seed_0 : Int64) (hash_0 : Int64) (table_0 : Nat → Int32) (s_0 : Nat → Int32) (cells_0 : Nat → Int64) (owner_0 : Nat → Int32) (code_0 : Nat → Int32) (last_0 : Nat → Int32) (chosen_0 : Nat → Int32) (corner_0 : Nat → Int32) (wide_0 : Nat → Int32) : va_W := [(a_0, .inr (10, [.ref a_0s, .ref a_0before, .int known_0, .ref a_0slots, .ref a_0isKept, .ref a_0buffer, .int length_0, .int thrown_0, .ref a_0cells, .ref a_0owner, .ref a_0code, .int many_0, .ref a_0table, .ref a_0isOver, .ref a_0isRuled, .ref a_0all, .ref a_0some, .int round_0, .ref a_0chosen, .ref a_0last, .ref a_0corner, .ref a_0wide, .ref a_0cuts, .long seed_0, .ref a_0aside, .long hash_0])), (a_0table, .inl (cI, 252, .inl table_0)), (a_0s, .inl (cI, 84, .inl s_0)), (a_0cells, .inl (cJ, 1200, .inr (.inl cells_0))), (a_0owner, .inl (cI, 1200, .inl owner_0)), (a_0code, .inl (cI, 1200, .inl code_0)), (a_0last, .inl (cI, 43, .inl last_0)), (a_0chosen, .inl (cI, 43, .inl chosen_0)), (a_0corner, .inl (cI, 42, .inl corner_0)), (a_0wide, .inl (cI, 42, .inl wide_0))]
def fM_waysByCells (F : Nat) (thrown_0 : Int32) (many_0 : Int32) (table_0 : Nat → Int32) (s_0 : Nat → Int32) (cells_0 : Nat → Int64) (owner_0 : Nat → Int32) (code_0 : Nat → Int32) (last_0 : Nat → Int32) (chosen_0 : Nat → Int32) (corner_0 : Nat → Int32) (wide_0 : Nat → Int32) : Option (Int32 × Int32 × Int32 × (Nat → Int32) × (Nat → Int64) × (Nat → Int32) × (Nat → Int32) × (Nat → Int32) × (Nat → Int32) × (Nat → Int32) × (Nat → Int32)) :=
  (fM_ways F (50 : Int32) many_0 table_0 s_0 cells_0 owner_0 code_0 last_0 chosen_0 corner_0 wide_0).bind fun s1 =>
  some (s1.1, (0 : Int32), s1.2.1, s1.2.2.1, s1.2.2.2.1, s1.2.2.2.2.1, s1.2.2.2.2.2.1, s1.2.2.2.2.2.2.1, s1.2.2.2.2.2.2.2.1, s1.2.2.2.2.2.2.2.2.1, s1.2.2.2.2.2.2.2.2.2)
abbrev wl_fM_waysByCells (cI cZ cJ cQ : ClassId) (a_0 a_0table a_0s a_0cells a_0owner a_0code a_0last a_0chosen a_0corner a_0wide a_0before a_0slots a_0isKept a_0buffer a_0isOver a_0isRuled a_0all a_0some a_0cuts a_0aside : Nat) (known_0 : Int32) (length_0 : Int32) (thrown_0 : Int32) (many_0 : Int32) (round_0 : Int32) (seed_0 : Int64) (hash_0 : Int64) (table_0 : Nat → Int32) (s_0 : Nat → Int32) (cells_0 : Nat → Int64) (owner_0 : Nat → Int32) (code_0 : Nat → Int32) (last_0 : Nat → Int32) (chosen_0 : Nat → Int32) (corner_0 : Nat → Int32) (wide_0 : Nat → Int32) : va_W := [(a_0, .inr (10, [.ref a_0s, .ref a_0before, .int known_0, .ref a_0slots, .ref a_0isKept, .ref a_0buffer, .int length_0, .int thrown_0, .ref a_0cells, .ref a_0owner, .ref a_0code, .int many_0, .ref a_0table, .ref a_0isOver, .ref a_0isRuled, .ref a_0all, .ref a_0some, .int round_0, .ref a_0chosen, .ref a_0last, .ref a_0corner, .ref a_0wide, .ref a_0cuts, .long seed_0, .ref a_0aside, .long hash_0])), (a_0table, .inl (cI, 252, .inl table_0)), (a_0s, .inl (cI, 84, .inl s_0)), (a_0cells, .inl (cJ, 1200, .inr (.inl cells_0))), (a_0owner, .inl (cI, 1200, .inl owner_0)), (a_0code, .inl (cI, 1200, .inl code_0)), (a_0last, .inl (cI, 43, .inl last_0)), (a_0chosen, .inl (cI, 43, .inl chosen_0)), (a_0corner, .inl (cI, 42, .inl corner_0)), (a_0wide, .inl (cI, 42, .inl wide_0))]
def fM_isUnique (F : Nat) (thrown_0 : Int32) (many_0 : Int32) (table_0 : Nat → Int32) (s_0 : Nat → Int32) (cells_0 : Nat → Int64) (owner_0 : Nat → Int32) (code_0 : Nat → Int32) (last_0 : Nat → Int32) (chosen_0 : Nat → Int32) (corner_0 : Nat → Int32) (wide_0 : Nat → Int32) : Option (Int32 × Int32 × Int32 × (Nat → Int32) × (Nat → Int64) × (Nat → Int32) × (Nat → Int32) × (Nat → Int32) × (Nat → Int32) × (Nat → Int32) × (Nat → Int32)) :=
  (fM_ways F (2 : Int32) many_0 table_0 s_0 cells_0 owner_0 code_0 last_0 chosen_0 corner_0 wide_0).bind fun s1 =>
  if ¬ s1.1 = (1 : Int32) then
    some ((0 : Int32), (0 : Int32), s1.2.1, s1.2.2.1, s1.2.2.2.1, s1.2.2.2.2.1, s1.2.2.2.2.2.1, s1.2.2.2.2.2.2.1, s1.2.2.2.2.2.2.2.1, s1.2.2.2.2.2.2.2.2.1, s1.2.2.2.2.2.2.2.2.2)
  else
    some ((1 : Int32), (0 : Int32), s1.2.1, s1.2.2.1, s1.2.2.2.1, s1.2.2.2.2.1, s1.2.2.2.2.2.1, s1.2.2.2.2.2.2.1, s1.2.2.2.2.2.2.2.1, s1.2.2.2.2.2.2.2.2.1, s1.2.2.2.2.2.2.2.2.2)
abbrev wl_fM_isUnique (cI cZ cJ cQ : ClassId) (a_0 a_0table a_0s a_0cells a_0owner a_0code a_0last a_0chosen a_0corner a_0wide a_0before a_0slots a_0isKept a_0buffer a_0isOver a_0isRuled a_0all a_0some a_0cuts a_0aside : Nat) (known_0 : Int32) (length_0 : Int32) (thrown_0 : Int32) (many_0 : Int32) (round_0 : Int32) (seed_0 : Int64) (hash_0 : Int64) (table_0 : Nat → Int32) (s_0 : Nat → Int32) (cells_0 : Nat → Int64) (owner_0 : Nat → Int32) (code_0 : Nat → Int32) (last_0 : Nat → Int32) (chosen_0 : Nat → Int32) (corner_0 : Nat → Int32) (wide_0 : Nat → Int32) : va_W := [(a_0, .inr (10, [.ref a_0s, .ref a_0before, .int known_0, .ref a_0slots, .ref a_0isKept, .ref a_0buffer, .int length_0, .int thrown_0, .ref a_0cells, .ref a_0owner, .ref a_0code, .int many_0, .ref a_0table, .ref a_0isOver, .ref a_0isRuled, .ref a_0all, .ref a_0some, .int round_0, .ref a_0chosen, .ref a_0last, .ref a_0corner, .ref a_0wide, .ref a_0cuts, .long seed_0, .ref a_0aside, .long hash_0])), (a_0table, .inl (cI, 252, .inl table_0)), (a_0s, .inl (cI, 84, .inl s_0)), (a_0cells, .inl (cJ, 1200, .inr (.inl cells_0))), (a_0owner, .inl (cI, 1200, .inl owner_0)), (a_0code, .inl (cI, 1200, .inl code_0)), (a_0last, .inl (cI, 43, .inl last_0)), (a_0chosen, .inl (cI, 43, .inl chosen_0)), (a_0corner, .inl (cI, 42, .inl corner_0)), (a_0wide, .inl (cI, 42, .inl wide_0))]
def fM_inFirst (F : Nat) (x1 : Int32) (x2 : Int32) (x3 : Int32) (s_0 : Nat → Int32) (thrown_0 : Int32) (many_0 : Int32) (table_0 : Nat → Int32) (cells_0 : Nat → Int64) (owner_0 : Nat → Int32) (code_0 : Nat → Int32) (last_0 : Nat → Int32) (chosen_0 : Nat → Int32) (corner_0 : Nat → Int32) (wide_0 : Nat → Int32) : Option (Int32 × Int32 × Int32 × (Nat → Int32) × (Nat → Int64) × (Nat → Int32) × (Nat → Int32) × (Nat → Int32) × (Nat → Int32) × (Nat → Int32) × (Nat → Int32)) :=
  (fM_isThere x1 x2 (0 : Int32) s_0 thrown_0).bind fun s1 =>
  if ¬ s1.1 = (0 : Int32) then
    (fM_ways F (1 : Int32) many_0 table_0 s_0 cells_0 owner_0 code_0 last_0 chosen_0 corner_0 wide_0).bind fun s2 =>
    if ¬ s2.1 = (0 : Int32) then
      if x3 = (0 : Int32) then
        (o_rd 42 s2.2.2.2.2.2.2.2.2.2 (((7 : Int32) * x1) + x2)).bind fun v3 =>
        some (v3, s1.2, s2.2.1, s2.2.2.1, s2.2.2.2.1, s2.2.2.2.2.1, s2.2.2.2.2.2.1, s2.2.2.2.2.2.2.1, s2.2.2.2.2.2.2.2.1, s2.2.2.2.2.2.2.2.2.1, s2.2.2.2.2.2.2.2.2.2)
      else
        (o_rd 42 s2.2.2.2.2.2.2.2.2.1 (((7 : Int32) * x1) + x2)).bind fun v4 =>
        some (v4, s1.2, s2.2.1, s2.2.2.1, s2.2.2.2.1, s2.2.2.2.2.1, s2.2.2.2.2.2.1, s2.2.2.2.2.2.2.1, s2.2.2.2.2.2.2.2.1, s2.2.2.2.2.2.2.2.2.1, s2.2.2.2.2.2.2.2.2.2)
    else
      (fM_throwing (2 : Int32) s1.2).bind fun s5 =>
      some (s5.1, s5.2, s2.2.1, s2.2.2.1, s2.2.2.2.1, s2.2.2.2.2.1, s2.2.2.2.2.2.1, s2.2.2.2.2.2.2.1, s2.2.2.2.2.2.2.2.1, s2.2.2.2.2.2.2.2.2.1, s2.2.2.2.2.2.2.2.2.2)
  else
    some ((0 : Int32), s1.2, many_0, table_0, cells_0, owner_0, code_0, last_0, chosen_0, corner_0, wide_0)
abbrev wl_fM_inFirst (cI cZ cJ cQ : ClassId) (a_0 a_0s a_0table a_0cells a_0owner a_0code a_0last a_0chosen a_0corner a_0wide a_0before a_0slots a_0isKept a_0buffer a_0isOver a_0isRuled a_0all a_0some a_0cuts a_0aside : Nat) (known_0 : Int32) (length_0 : Int32) (thrown_0 : Int32) (many_0 : Int32) (round_0 : Int32) (seed_0 : Int64) (hash_0 : Int64) (s_0 : Nat → Int32) (table_0 : Nat → Int32) (cells_0 : Nat → Int64) (owner_0 : Nat → Int32) (code_0 : Nat → Int32) (last_0 : Nat → Int32) (chosen_0 : Nat → Int32) (corner_0 : Nat → Int32) (wide_0 : Nat → Int32) : va_W := [(a_0, .inr (10, [.ref a_0s, .ref a_0before, .int known_0, .ref a_0slots, .ref a_0isKept, .ref a_0buffer, .int length_0, .int thrown_0, .ref a_0cells, .ref a_0owner, .ref a_0code, .int many_0, .ref a_0table, .ref a_0isOver, .ref a_0isRuled, .ref a_0all, .ref a_0some, .int round_0, .ref a_0chosen, .ref a_0last, .ref a_0corner, .ref a_0wide, .ref a_0cuts, .long seed_0, .ref a_0aside, .long hash_0])), (a_0s, .inl (cI, 84, .inl s_0)), (a_0table, .inl (cI, 252, .inl table_0)), (a_0cells, .inl (cJ, 1200, .inr (.inl cells_0))), (a_0owner, .inl (cI, 1200, .inl owner_0)), (a_0code, .inl (cI, 1200, .inl code_0)), (a_0last, .inl (cI, 43, .inl last_0)), (a_0chosen, .inl (cI, 43, .inl chosen_0)), (a_0corner, .inl (cI, 42, .inl corner_0)), (a_0wide, .inl (cI, 42, .inl wide_0))]
def fM_sizeInFirst (F : Nat) (x1 : Int32) (x2 : Int32) (s_0 : Nat → Int32) (thrown_0 : Int32) (many_0 : Int32) (table_0 : Nat → Int32) (cells_0 : Nat → Int64) (owner_0 : Nat → Int32) (code_0 : Nat → Int32) (last_0 : Nat → Int32) (chosen_0 : Nat → Int32) (corner_0 : Nat → Int32) (wide_0 : Nat → Int32) : Option (Int32 × Int32 × Int32 × (Nat → Int32) × (Nat → Int64) × (Nat → Int32) × (Nat → Int32) × (Nat → Int32) × (Nat → Int32) × (Nat → Int32) × (Nat → Int32)) :=
  (fM_inFirst F x1 x2 (0 : Int32) s_0 thrown_0 many_0 table_0 cells_0 owner_0 code_0 last_0 chosen_0 corner_0 wide_0).bind fun s1 =>
  some (s1.1, s1.2.1, s1.2.2.1, s1.2.2.2.1, s1.2.2.2.2.1, s1.2.2.2.2.2.1, s1.2.2.2.2.2.2.1, s1.2.2.2.2.2.2.2.1, s1.2.2.2.2.2.2.2.2.1, s1.2.2.2.2.2.2.2.2.2.1, s1.2.2.2.2.2.2.2.2.2.2)
abbrev wl_fM_sizeInFirst (cI cZ cJ cQ : ClassId) (a_0 a_0s a_0table a_0cells a_0owner a_0code a_0last a_0chosen a_0corner a_0wide a_0before a_0slots a_0isKept a_0buffer a_0isOver a_0isRuled a_0all a_0some a_0cuts a_0aside : Nat) (known_0 : Int32) (length_0 : Int32) (thrown_0 : Int32) (many_0 : Int32) (round_0 : Int32) (seed_0 : Int64) (hash_0 : Int64) (s_0 : Nat → Int32) (table_0 : Nat → Int32) (cells_0 : Nat → Int64) (owner_0 : Nat → Int32) (code_0 : Nat → Int32) (last_0 : Nat → Int32) (chosen_0 : Nat → Int32) (corner_0 : Nat → Int32) (wide_0 : Nat → Int32) : va_W := [(a_0, .inr (10, [.ref a_0s, .ref a_0before, .int known_0, .ref a_0slots, .ref a_0isKept, .ref a_0buffer, .int length_0, .int thrown_0, .ref a_0cells, .ref a_0owner, .ref a_0code, .int many_0, .ref a_0table, .ref a_0isOver, .ref a_0isRuled, .ref a_0all, .ref a_0some, .int round_0, .ref a_0chosen, .ref a_0last, .ref a_0corner, .ref a_0wide, .ref a_0cuts, .long seed_0, .ref a_0aside, .long hash_0])), (a_0s, .inl (cI, 84, .inl s_0)), (a_0table, .inl (cI, 252, .inl table_0)), (a_0cells, .inl (cJ, 1200, .inr (.inl cells_0))), (a_0owner, .inl (cI, 1200, .inl owner_0)), (a_0code, .inl (cI, 1200, .inl code_0)), (a_0last, .inl (cI, 43, .inl last_0)), (a_0chosen, .inl (cI, 43, .inl chosen_0)), (a_0corner, .inl (cI, 42, .inl corner_0)), (a_0wide, .inl (cI, 42, .inl wide_0))]
def fM_cornerInFirst (F : Nat) (x1 : Int32) (x2 : Int32) (s_0 : Nat → Int32) (thrown_0 : Int32) (many_0 : Int32) (table_0 : Nat → Int32) (cells_0 : Nat → Int64) (owner_0 : Nat → Int32) (code_0 : Nat → Int32) (last_0 : Nat → Int32) (chosen_0 : Nat → Int32) (corner_0 : Nat → Int32) (wide_0 : Nat → Int32) : Option (Int32 × Int32 × Int32 × (Nat → Int32) × (Nat → Int64) × (Nat → Int32) × (Nat → Int32) × (Nat → Int32) × (Nat → Int32) × (Nat → Int32) × (Nat → Int32)) :=
  (fM_inFirst F x1 x2 (1 : Int32) s_0 thrown_0 many_0 table_0 cells_0 owner_0 code_0 last_0 chosen_0 corner_0 wide_0).bind fun s1 =>
  some (s1.1, s1.2.1, s1.2.2.1, s1.2.2.2.1, s1.2.2.2.2.1, s1.2.2.2.2.2.1, s1.2.2.2.2.2.2.1, s1.2.2.2.2.2.2.2.1, s1.2.2.2.2.2.2.2.2.1, s1.2.2.2.2.2.2.2.2.2.1, s1.2.2.2.2.2.2.2.2.2.2)
abbrev wl_fM_cornerInFirst (cI cZ cJ cQ : ClassId) (a_0 a_0s a_0table a_0cells a_0owner a_0code a_0last a_0chosen a_0corner a_0wide a_0before a_0slots a_0isKept a_0buffer a_0isOver a_0isRuled a_0all a_0some a_0cuts a_0aside : Nat) (known_0 : Int32) (length_0 : Int32) (thrown_0 : Int32) (many_0 : Int32) (round_0 : Int32) (seed_0 : Int64) (hash_0 : Int64) (s_0 : Nat → Int32) (table_0 : Nat → Int32) (cells_0 : Nat → Int64) (owner_0 : Nat → Int32) (code_0 : Nat → Int32) (last_0 : Nat → Int32) (chosen_0 : Nat → Int32) (corner_0 : Nat → Int32) (wide_0 : Nat → Int32) : va_W := [(a_0, .inr (10, [.ref a_0s, .ref a_0before, .int known_0, .ref a_0slots, .ref a_0isKept, .ref a_0buffer, .int length_0, .int thrown_0, .ref a_0cells, .ref a_0owner, .ref a_0code, .int many_0, .ref a_0table, .ref a_0isOver, .ref a_0isRuled, .ref a_0all, .ref a_0some, .int round_0, .ref a_0chosen, .ref a_0last, .ref a_0corner, .ref a_0wide, .ref a_0cuts, .long seed_0, .ref a_0aside, .long hash_0])), (a_0s, .inl (cI, 84, .inl s_0)), (a_0table, .inl (cI, 252, .inl table_0)), (a_0cells, .inl (cJ, 1200, .inr (.inl cells_0))), (a_0owner, .inl (cI, 1200, .inl owner_0)), (a_0code, .inl (cI, 1200, .inl code_0)), (a_0last, .inl (cI, 43, .inl last_0)), (a_0chosen, .inl (cI, 43, .inl chosen_0)), (a_0corner, .inl (cI, 42, .inl corner_0)), (a_0wide, .inl (cI, 42, .inl wide_0))]
def fM_isSame_L4 (F : Nat) (l1 : Int32) (s_0 : Nat → Int32) (corner_0 : Nat → Int32) : Nat → Int32 → Int32 → Option (Int32 × Int32)
  | 0, _, _ => none
  | N + 1, l2, l3 =>
    if (42 : Int32) ≤ l3 then
      some (l2, l3)
    else
      (show Option (Int32) from
        if l2 = (0 : Int32) then
          some (0 : Int32)
        else
          (o_rd 84 s_0 ((42 : Int32) + l3)).bind fun v1 =>
          (show Option (Int32) from
            if ¬ v1 = (l1 + (1 : Int32)) then
              some (0 : Int32)
            else
              some (1 : Int32)).bind fun j2 =>
          (o_rd 42 corner_0 l3).bind fun v3 =>
          (show Option (Int32) from
            if ¬ v3 = l1 then
              some (0 : Int32)
            else
              some (1 : Int32)).bind fun j4 =>
          if ¬ j2 = j4 then
            some (0 : Int32)
          else
            some (1 : Int32)).bind fun j5 =>
      fM_isSame_L4 F l1 s_0 corner_0 N j5 (l3 + (1 : Int32))
def fM_isSame (F : Nat) (x1 : Int32) (s_0 : Nat → Int32) (corner_0 : Nat → Int32) : Option (Int32) :=
  (fM_isSame_L4 F x1 s_0 corner_0 F (1 : Int32) (0 : Int32)).bind fun r6 =>
  (o_z r6.1).bind fun z7 =>
  some z7
abbrev wl_fM_isSame (cI cZ cJ cQ : ClassId) (a_0 a_0s a_0corner a_0before a_0slots a_0isKept a_0buffer a_0cells a_0owner a_0code a_0table a_0isOver a_0isRuled a_0all a_0some a_0chosen a_0last a_0wide a_0cuts a_0aside : Nat) (known_0 : Int32) (length_0 : Int32) (thrown_0 : Int32) (many_0 : Int32) (round_0 : Int32) (seed_0 : Int64) (hash_0 : Int64) (s_0 : Nat → Int32) (corner_0 : Nat → Int32) : va_W := [(a_0, .inr (10, [.ref a_0s, .ref a_0before, .int known_0, .ref a_0slots, .ref a_0isKept, .ref a_0buffer, .int length_0, .int thrown_0, .ref a_0cells, .ref a_0owner, .ref a_0code, .int many_0, .ref a_0table, .ref a_0isOver, .ref a_0isRuled, .ref a_0all, .ref a_0some, .int round_0, .ref a_0chosen, .ref a_0last, .ref a_0corner, .ref a_0wide, .ref a_0cuts, .long seed_0, .ref a_0aside, .long hash_0])), (a_0s, .inl (cI, 84, .inl s_0)), (a_0corner, .inl (cI, 42, .inl corner_0))]
def fM_strayFields_L7 (F : Nat) : Nat → Int32 → (Nat → Int32) → (Nat → Int32) → Option (Int32 × (Nat → Int32) × (Nat → Int32))
  | 0, _, _, _ => none
  | N + 1, l1, s_0, aside_0 =>
    if (42 : Int32) ≤ l1 then
      some (l1, s_0, aside_0)
    else
      (o_rd 84 s_0 ((42 : Int32) + l1)).bind fun v1 =>
      (o_wrI 42 aside_0 l1 v1).bind fun w2 =>
      (o_wrI 84 s_0 ((42 : Int32) + l1) (0 : Int32)).bind fun w3 =>
      fM_strayFields_L7 F N (l1 + (1 : Int32)) w3 w2
def fM_strayFields_L52 (F : Nat) (aside_0 : Nat → Int32) : Nat → Int32 → (Nat → Int32) → Option (Int32 × (Nat → Int32))
  | 0, _, _ => none
  | N + 1, l2, s_0 =>
    if (42 : Int32) ≤ l2 then
      some (l2, s_0)
    else
      (o_rd 42 aside_0 l2).bind fun v6 =>
      (o_wrI 84 s_0 ((42 : Int32) + l2) v6).bind fun w7 =>
      fM_strayFields_L52 F aside_0 N (l2 + (1 : Int32)) w7
def fM_strayFields_L93 (F : Nat) (s_0 : Nat → Int32) (corner_0 : Nat → Int32) : Nat → Int32 → Int32 → Option (Int32 × Int32)
  | 0, _, _ => none
  | N + 1, l2, l3 =>
    if (42 : Int32) ≤ l3 then
      some (l2, l3)
    else
      (o_rd 84 s_0 ((42 : Int32) + l3)).bind fun v9 =>
      (show Option (Int32) from
        if ¬ v9 = (l3 + (1 : Int32)) then
          some (0 : Int32)
        else
          (o_rd 42 corner_0 l3).bind fun v10 =>
          if ¬ v10 = l3 then
            some (1 : Int32)
          else
            (fM_isSame F l3 s_0 corner_0).bind fun s11 =>
            if ¬ s11 = (0 : Int32) then
              some (0 : Int32)
            else
              some (1 : Int32)).bind fun j12 =>
      fM_strayFields_L93 F s_0 corner_0 N (l2 + j12) (l3 + (1 : Int32))
def fM_strayFields (F : Nat) (thrown_0 : Int32) (s_0 : Nat → Int32) (aside_0 : Nat → Int32) (many_0 : Int32) (table_0 : Nat → Int32) (cells_0 : Nat → Int64) (owner_0 : Nat → Int32) (code_0 : Nat → Int32) (last_0 : Nat → Int32) (chosen_0 : Nat → Int32) (corner_0 : Nat → Int32) (wide_0 : Nat → Int32) : Option (Int32 × Int32 × (Nat → Int32) × (Nat → Int32) × Int32 × (Nat → Int32) × (Nat → Int64) × (Nat → Int32) × (Nat → Int32) × (Nat → Int32) × (Nat → Int32) × (Nat → Int32) × (Nat → Int32)) :=
  (fM_strayFields_L7 F F (0 : Int32) s_0 aside_0).bind fun r4 =>
  (fM_ways F (1 : Int32) many_0 table_0 r4.2.1 cells_0 owner_0 code_0 last_0 chosen_0 corner_0 wide_0).bind fun s5 =>
  (fM_strayFields_L52 F r4.2.2 F (0 : Int32) r4.2.1).bind fun r8 =>
  if ¬ s5.1 = (0 : Int32) then
    (fM_strayFields_L93 F r8.2 s5.2.2.2.2.2.2.2.2.1 F (0 : Int32) (0 : Int32)).bind fun r13 =>
    some (r13.1, (0 : Int32), r4.2.2, r8.2, s5.2.1, s5.2.2.1, s5.2.2.2.1, s5.2.2.2.2.1, s5.2.2.2.2.2.1, s5.2.2.2.2.2.2.1, s5.2.2.2.2.2.2.2.1, s5.2.2.2.2.2.2.2.2.1, s5.2.2.2.2.2.2.2.2.2)
  else
    (fM_throwing (1 : Int32) (0 : Int32)).bind fun s14 =>
    some (s14.1, s14.2, r4.2.2, r8.2, s5.2.1, s5.2.2.1, s5.2.2.2.1, s5.2.2.2.2.1, s5.2.2.2.2.2.1, s5.2.2.2.2.2.2.1, s5.2.2.2.2.2.2.2.1, s5.2.2.2.2.2.2.2.2.1, s5.2.2.2.2.2.2.2.2.2)
abbrev wl_fM_strayFields (cI cZ cJ cQ : ClassId) (a_0 a_0s a_0aside a_0table a_0cells a_0owner a_0code a_0last a_0chosen a_0corner a_0wide a_0before a_0slots a_0isKept a_0buffer a_0isOver a_0isRuled a_0all a_0some a_0cuts : Nat) (known_0 : Int32) (length_0 : Int32) (thrown_0 : Int32) (many_0 : Int32) (round_0 : Int32) (seed_0 : Int64) (hash_0 : Int64) (s_0 : Nat → Int32) (aside_0 : Nat → Int32) (table_0 : Nat → Int32) (cells_0 : Nat → Int64) (owner_0 : Nat → Int32) (code_0 : Nat → Int32) (last_0 : Nat → Int32) (chosen_0 : Nat → Int32) (corner_0 : Nat → Int32) (wide_0 : Nat → Int32) : va_W := [(a_0, .inr (10, [.ref a_0s, .ref a_0before, .int known_0, .ref a_0slots, .ref a_0isKept, .ref a_0buffer, .int length_0, .int thrown_0, .ref a_0cells, .ref a_0owner, .ref a_0code, .int many_0, .ref a_0table, .ref a_0isOver, .ref a_0isRuled, .ref a_0all, .ref a_0some, .int round_0, .ref a_0chosen, .ref a_0last, .ref a_0corner, .ref a_0wide, .ref a_0cuts, .long seed_0, .ref a_0aside, .long hash_0])), (a_0s, .inl (cI, 84, .inl s_0)), (a_0aside, .inl (cI, 42, .inl aside_0)), (a_0table, .inl (cI, 252, .inl table_0)), (a_0cells, .inl (cJ, 1200, .inr (.inl cells_0))), (a_0owner, .inl (cI, 1200, .inl owner_0)), (a_0code, .inl (cI, 1200, .inl code_0)), (a_0last, .inl (cI, 43, .inl last_0)), (a_0chosen, .inl (cI, 43, .inl chosen_0)), (a_0corner, .inl (cI, 42, .inl corner_0)), (a_0wide, .inl (cI, 42, .inl wide_0))]
def fM_mean (F : Nat) (s_0 : Nat → Int32) (many_0 : Int32) : Option (UInt64) :=
  (fM_numbered F s_0).bind fun s1 =>
  (fM_taken F s_0).bind fun s2 =>
  (fM_bits F (s1 &&& (s2 ^^^ (-1 : Int64)))).bind fun s3 =>
  if ¬ s3 = (0 : Int32) then
    (o_nn (FP.ddiv (FP.i2d many_0) (FP.i2d s3))).bind fun v4 =>
    some v4
  else
    some FP.dconst0
abbrev wl_fM_mean (cI cZ cJ cQ : ClassId) (a_0 a_0s a_0before a_0slots a_0isKept a_0buffer a_0cells a_0owner a_0code a_0table a_0isOver a_0isRuled a_0all a_0some a_0chosen a_0last a_0corner a_0wide a_0cuts a_0aside : Nat) (known_0 : Int32) (length_0 : Int32) (thrown_0 : Int32) (many_0 : Int32) (round_0 : Int32) (seed_0 : Int64) (hash_0 : Int64) (s_0 : Nat → Int32) : va_W := [(a_0, .inr (10, [.ref a_0s, .ref a_0before, .int known_0, .ref a_0slots, .ref a_0isKept, .ref a_0buffer, .int length_0, .int thrown_0, .ref a_0cells, .ref a_0owner, .ref a_0code, .int many_0, .ref a_0table, .ref a_0isOver, .ref a_0isRuled, .ref a_0all, .ref a_0some, .int round_0, .ref a_0chosen, .ref a_0last, .ref a_0corner, .ref a_0wide, .ref a_0cuts, .long seed_0, .ref a_0aside, .long hash_0])), (a_0s, .inl (cI, 84, .inl s_0))]
def fM_meanPossible (F : Nat) (thrown_0 : Int32) (many_0 : Int32) (table_0 : Nat → Int32) (s_0 : Nat → Int32) (cells_0 : Nat → Int64) (owner_0 : Nat → Int32) (code_0 : Nat → Int32) : Option (UInt64 × Int32 × Int32 × (Nat → Int32) × (Nat → Int64) × (Nat → Int32) × (Nat → Int32)) :=
  (fM_finds F many_0 table_0 s_0 cells_0 owner_0 code_0).bind fun s1 =>
  (fM_mean F s_0 s1.1).bind fun s2 =>
  some (s2, (0 : Int32), s1.1, s1.2.1, s1.2.2.1, s1.2.2.2.1, s1.2.2.2.2)
abbrev wl_fM_meanPossible (cI cZ cJ cQ : ClassId) (a_0 a_0table a_0s a_0cells a_0owner a_0code a_0before a_0slots a_0isKept a_0buffer a_0isOver a_0isRuled a_0all a_0some a_0chosen a_0last a_0corner a_0wide a_0cuts a_0aside : Nat) (known_0 : Int32) (length_0 : Int32) (thrown_0 : Int32) (many_0 : Int32) (round_0 : Int32) (seed_0 : Int64) (hash_0 : Int64) (table_0 : Nat → Int32) (s_0 : Nat → Int32) (cells_0 : Nat → Int64) (owner_0 : Nat → Int32) (code_0 : Nat → Int32) : va_W := [(a_0, .inr (10, [.ref a_0s, .ref a_0before, .int known_0, .ref a_0slots, .ref a_0isKept, .ref a_0buffer, .int length_0, .int thrown_0, .ref a_0cells, .ref a_0owner, .ref a_0code, .int many_0, .ref a_0table, .ref a_0isOver, .ref a_0isRuled, .ref a_0all, .ref a_0some, .int round_0, .ref a_0chosen, .ref a_0last, .ref a_0corner, .ref a_0wide, .ref a_0cuts, .long seed_0, .ref a_0aside, .long hash_0])), (a_0table, .inl (cI, 252, .inl table_0)), (a_0s, .inl (cI, 84, .inl s_0)), (a_0cells, .inl (cJ, 1200, .inr (.inl cells_0))), (a_0owner, .inl (cI, 1200, .inl owner_0)), (a_0code, .inl (cI, 1200, .inl code_0))]
def fM_bitsOf_L14 (F : Nat) : Nat → UInt64 → Int32 → Option (UInt64 × Int32)
  | 0, _, _ => none
  | N + 1, l4, l6 =>
    if (Op.cmpValue (FP.dcmp l4 (0x4000000000000000 : UInt64)) .l) < (0 : Int32) then
      some (l4, l6)
    else
      (o_nn (FP.ddiv l4 (0x4000000000000000 : UInt64))).bind fun v1 =>
      fM_bitsOf_L14 F N v1 (l6 + (1 : Int32))
def fM_bitsOf_L37 (F : Nat) : Nat → UInt64 → Int32 → Option (UInt64 × Int32)
  | 0, _, _ => none
  | N + 1, l4, l6 =>
    if (0 : Int32) ≤ (Op.cmpValue (FP.dcmp l4 FP.dconst1) .g) then
      some (l4, l6)
    else
      (o_nn (FP.dmul l4 (0x4000000000000000 : UInt64))).bind fun v3 =>
      fM_bitsOf_L37 F N v3 (l6 + (-1 : Int32))
def fM_bitsOf_L72 (F : Nat) (l2 : Int32) : Nat → UInt64 → Int64 → Int32 → Option (UInt64 × Int64 × Int32)
  | 0, _, _, _ => none
  | N + 1, l7, l9, l11 =>
    if l2 ≤ l11 then
      some (l7, l9, l11)
    else
      (o_nn (FP.dmul l7 (0x4000000000000000 : UInt64))).bind fun v6 =>
      (show Option (Int64) from
        if (Op.cmpValue (FP.dcmp v6 FP.dconst1) .l) < (0 : Int32) then
          some (0 : Int64)
        else
          some (1 : Int64)).bind fun j7 =>
      (o_nn (FP.dsub v6 (FP.l2d j7))).bind fun v8 =>
      fM_bitsOf_L72 F l2 N v8 (((2 : Int64) * l9) + j7) (l11 + (1 : Int32))
def fM_bitsOf (F : Nat) (x0 : UInt64) (x1 : Int32) (x2 : Int32) : Option (Int64) :=
  if ¬ (Op.cmpValue (FP.dcmp x0 FP.dconst0) .l) = (0 : Int32) then
    (fM_bitsOf_L14 F F x0 x2).bind fun r2 =>
    (fM_bitsOf_L37 F F r2.1 r2.2).bind fun r4 =>
    (o_nn (FP.dsub r4.1 FP.dconst1)).bind fun v5 =>
    (fM_bitsOf_L72 F x1 F v5 r4.2.toInt64 (0 : Int32)).bind fun r9 =>
    some r9.2.1
  else
    some (0 : Int64)
abbrev wl_fM_bitsOf (cI cZ cJ cQ : ClassId) : va_W := []
def fM_mix (x1 : Int64) (hash_0 : Int64) : Option (Int64) :=
  some (((31 : Int64) * hash_0) + x1)
abbrev wl_fM_mix (cI cZ cJ cQ : ClassId) (a_0 a_0s a_0before a_0slots a_0isKept a_0buffer a_0cells a_0owner a_0code a_0table a_0isOver a_0isRuled a_0all a_0some a_0chosen a_0last a_0corner a_0wide a_0cuts a_0aside : Nat) (known_0 : Int32) (length_0 : Int32) (thrown_0 : Int32) (many_0 : Int32) (round_0 : Int32) (seed_0 : Int64) (hash_0 : Int64) : va_W := [(a_0, .inr (10, [.ref a_0s, .ref a_0before, .int known_0, .ref a_0slots, .ref a_0isKept, .ref a_0buffer, .int length_0, .int thrown_0, .ref a_0cells, .ref a_0owner, .ref a_0code, .int many_0, .ref a_0table, .ref a_0isOver, .ref a_0isRuled, .ref a_0all, .ref a_0some, .int round_0, .ref a_0chosen, .ref a_0last, .ref a_0corner, .ref a_0wide, .ref a_0cuts, .long seed_0, .ref a_0aside, .long hash_0]))]
def fM_digest_L92 (F : Nat) (l1 : Int32) (many_0 : Int32) (owner_0 : Nat → Int32) (code_0 : Nat → Int32) : Nat → Int32 → Int64 → Option (Int32 × Int64)
  | 0, _, _ => none
  | N + 1, l2, hash_0 =>
    if many_0 ≤ l2 then
      some (l2, hash_0)
    else
      (o_rd 1200 owner_0 l2).bind fun v13 =>
      (show Option (Int64) from
        if ¬ v13 = l1 then
          some hash_0
        else
          (o_rd 1200 code_0 l2).bind fun v14 =>
          (fM_mix v14.toInt64 hash_0).bind fun s15 =>
          some s15).bind fun j16 =>
      fM_digest_L92 F l1 many_0 owner_0 code_0 N (l2 + (1 : Int32)) j16
def fM_digest_L18 (F : Nat) (many_0 : Int32) (s_0 : Nat → Int32) (cells_0 : Nat → Int64) (owner_0 : Nat → Int32) (code_0 : Nat → Int32) (isOver_0 : Nat → Int32) : Nat → Int32 → Int64 → Option (Int32 × Int64)
  | 0, _, _ => none
  | N + 1, l1, hash_0 =>
    if (42 : Int32) ≤ l1 then
      some (l1, hash_0)
    else
      (o_rd 84 s_0 l1).bind fun v2 =>
      (fM_mix v2.toInt64 hash_0).bind fun s3 =>
      (o_rd 84 s_0 ((42 : Int32) + l1)).bind fun v4 =>
      (show Option (Int64) from
        if v4 ≤ (0 : Int32) then
          some (0 : Int64)
        else
          (fM_fieldOf F l1 s_0).bind fun s5 =>
          (fM_bits F s5).bind fun s6 =>
          some (s6 + (1 : Int32)).toInt64).bind fun j7 =>
      (fM_mix j7 s3).bind fun s8 =>
      (o_rd 84 s_0 ((42 : Int32) + l1)).bind fun v9 =>
      (fM_mix v9.toInt64 s8).bind fun s10 =>
      (fM_countOf F l1 many_0 owner_0).bind fun s11 =>
      (fM_mix s11.toInt64 s10).bind fun s12 =>
      (fM_digest_L92 F l1 many_0 owner_0 code_0 F (0 : Int32) s12).bind fun r17 =>
      (fM_covering F l1 many_0 cells_0).bind fun s18 =>
      (fM_mix s18.toInt64 r17.2).bind fun s19 =>
      (fM_claiming F l1 many_0 cells_0 owner_0).bind fun s20 =>
      (fM_mix s20.toInt64 s19).bind fun s21 =>
      (fM_leftIn F l1 many_0 owner_0 isOver_0).bind fun s22 =>
      (fM_mix s22.toInt64 s21).bind fun s23 =>
      fM_digest_L18 F many_0 s_0 cells_0 owner_0 code_0 isOver_0 N (l1 + (1 : Int32)) s23
def fM_digest_L312 (F : Nat) (l2 : Int32) (corner_0 : Nat → Int32) (wide_0 : Nat → Int32) : Nat → Int32 → Int64 → Option (Int32 × Int64)
  | 0, _, _ => none
  | N + 1, l3, hash_0 =>
    if (42 : Int32) ≤ l3 then
      some (l3, hash_0)
    else
      if l2 ≤ (0 : Int32) then
        some (l3, hash_0)
      else
        (o_rd 42 wide_0 l3).bind fun v51 =>
        (fM_mix v51.toInt64 hash_0).bind fun s52 =>
        (o_rd 42 corner_0 l3).bind fun v53 =>
        (fM_mix v53.toInt64 s52).bind fun s54 =>
        fM_digest_L312 F l2 corner_0 wide_0 N (l3 + (1 : Int32)) s54
def fM_digest_L422 (F : Nat) (length_0 : Int32) (buffer_0 : Nat → Int32) : Nat → Int32 → Int64 → Option (Int32 × Int64)
  | 0, _, _ => none
  | N + 1, l3, hash_0 =>
    if length_0 ≤ l3 then
      some (l3, hash_0)
    else
      (o_rd 60 buffer_0 l3).bind fun v67 =>
      (fM_mix v67.toInt64 hash_0).bind fun s68 =>
      fM_digest_L422 F length_0 buffer_0 N (l3 + (1 : Int32)) s68
def fM_digest (F : Nat) (thrown_0 : Int32) (hash_0 : Int64) (many_0 : Int32) (table_0 : Nat → Int32) (s_0 : Nat → Int32) (cells_0 : Nat → Int64) (owner_0 : Nat → Int32) (code_0 : Nat → Int32) (isOver_0 : Nat → Int32) (round_0 : Int32) (all_0 : Nat → Int64) (some_0 : Nat → Int64) (isRuled_0 : Nat → Int32) (last_0 : Nat → Int32) (chosen_0 : Nat → Int32) (corner_0 : Nat → Int32) (wide_0 : Nat → Int32) (known_0 : Int32) (isKept_0 : Nat → Int32) (length_0 : Int32) (buffer_0 : Nat → Int32) : Option (Int64 × Int32 × Int64 × Int32 × (Nat → Int32) × (Nat → Int64) × (Nat → Int32) × (Nat → Int32) × (Nat → Int32) × Int32 × (Nat → Int64) × (Nat → Int64) × (Nat → Int32) × (Nat → Int32) × (Nat → Int32) × (Nat → Int32) × (Nat → Int32)) :=
  (fM_rules F many_0 table_0 s_0 cells_0 owner_0 code_0 isOver_0 round_0 all_0 some_0 isRuled_0).bind fun s1 =>
  (fM_digest_L18 F s1.1 s_0 s1.2.2.1 s1.2.2.2.1 s1.2.2.2.2.1 s1.2.2.2.2.2.1 F (0 : Int32) (4421 : Int64)).bind fun r24 =>
  (fM_numbered F s_0).bind fun s25 =>
  (fM_bits F s25).bind fun s26 =>
  (fM_mix s26.toInt64 r24.2).bind fun s27 =>
  (fM_total F s_0).bind fun s28 =>
  (fM_mix s28.toInt64 s27).bind fun s29 =>
  (fM_allFields F s_0).bind fun s30 =>
  (fM_mix s30.toInt64 s29).bind fun s31 =>
  (fM_taken F s_0).bind fun s32 =>
  (fM_bits F s32).bind fun s33 =>
  (fM_mix ((42 : Int32) - s33).toInt64 s31).bind fun s34 =>
  (fM_mix s1.1.toInt64 s34).bind fun s35 =>
  (fM_mix s1.2.2.2.2.2.2.1.toInt64 s35).bind fun s36 =>
  (fM_leftAll F s1.1 s1.2.2.2.2.2.1).bind fun s37 =>
  (fM_mix s37.toInt64 s36).bind fun s38 =>
  (fM_isAgainst F s_0 s1.2.2.2.2.2.2.2.2.1).bind fun s39 =>
  (show Option (Int64) from
    if s39 = (0 : Int32) then
      some (0 : Int64)
    else
      some (1 : Int64)).bind fun j40 =>
  (fM_mix j40 s38).bind fun s41 =>
  (show Option (Int64) from
    if s39 = (0 : Int32) then
      (fM_sure F s_0 s1.1 s1.2.2.2.1 s1.2.2.2.2.2.1).bind fun s42 =>
      some (s42 + (1 : Int32)).toInt64
    else
      some (0 : Int64)).bind fun j43 =>
  (fM_mix j43 s41).bind fun s44 =>
  (show Option (Int64) from
    if s39 = (0 : Int32) then
      (fM_firstSure F s_0 s1.1 s1.2.2.2.1 s1.2.2.2.2.2.1).bind fun s45 =>
      some (s45 + (1 : Int32)).toInt64
    else
      some (0 : Int64)).bind fun j46 =>
  (fM_mix j46 s44).bind fun s47 =>
  (fM_ways F (50 : Int32) s1.1 s1.2.1 s_0 s1.2.2.1 s1.2.2.2.1 s1.2.2.2.2.1 last_0 chosen_0 corner_0 wide_0).bind fun s48 =>
  (fM_mix s48.1.toInt64 s47).bind fun s49 =>
  (fM_mix s48.1.toInt64 s49).bind fun s50 =>
  (fM_digest_L312 F s48.1 s48.2.2.2.2.2.2.2.2.1 s48.2.2.2.2.2.2.2.2.2 F (0 : Int32) s50).bind fun r55 =>
  (fM_mix known_0.toInt64 r55.2).bind fun s56 =>
  (fM_mean F s_0 s48.2.1).bind fun s57 =>
  (fM_bitsOf F s57 (52 : Int32) (1023 : Int32)).bind fun s58 =>
  (fM_mix s58 s56).bind fun s59 =>
  (o_rd 2 isKept_0 (0 : Int32)).bind fun v60 =>
  (show Option (Int64) from
    if v60 = (0 : Int32) then
      some (0 : Int64)
    else
      some (1 : Int64)).bind fun j61 =>
  (fM_mix j61 s59).bind fun s62 =>
  (o_rd 2 isKept_0 (1 : Int32)).bind fun v63 =>
  (show Option (Int64) from
    if v63 = (0 : Int32) then
      some (0 : Int64)
    else
      some (1 : Int64)).bind fun j64 =>
  (fM_mix j64 s62).bind fun s65 =>
  (fM_mix length_0.toInt64 s65).bind fun s66 =>
  (fM_digest_L422 F length_0 buffer_0 F (0 : Int32) s66).bind fun r69 =>
  some (r69.2, (0 : Int32), r69.2, s48.2.1, s48.2.2.1, s48.2.2.2.1, s48.2.2.2.2.1, s48.2.2.2.2.2.1, s1.2.2.2.2.2.1, s1.2.2.2.2.2.2.1, s1.2.2.2.2.2.2.2.1, s1.2.2.2.2.2.2.2.2.1, s1.2.2.2.2.2.2.2.2.2, s48.2.2.2.2.2.2.1, s48.2.2.2.2.2.2.2.1, s48.2.2.2.2.2.2.2.2.1, s48.2.2.2.2.2.2.2.2.2)
abbrev wl_fM_digest (cI cZ cJ cQ : ClassId) (a_0 a_0table a_0s a_0cells a_0owner a_0code a_0isOver a_0all a_0some a_0isRuled a_0last a_0chosen a_0corner a_0wide a_0isKept a_0buffer a_0before a_0slots a_0cuts a_0aside : Nat) (known_0 : Int32) (length_0 : Int32) (thrown_0 : Int32) (many_0 : Int32) (round_0 : Int32) (seed_0 : Int64) (hash_0 : Int64) (table_0 : Nat → Int32) (s_0 : Nat → Int32) (cells_0 : Nat → Int64) (owner_0 : Nat → Int32) (code_0 : Nat → Int32) (isOver_0 : Nat → Int32) (all_0 : Nat → Int64) (some_0 : Nat → Int64) (isRuled_0 : Nat → Int32) (last_0 : Nat → Int32) (chosen_0 : Nat → Int32) (corner_0 : Nat → Int32) (wide_0 : Nat → Int32) (isKept_0 : Nat → Int32) (buffer_0 : Nat → Int32) : va_W := [(a_0, .inr (10, [.ref a_0s, .ref a_0before, .int known_0, .ref a_0slots, .ref a_0isKept, .ref a_0buffer, .int length_0, .int thrown_0, .ref a_0cells, .ref a_0owner, .ref a_0code, .int many_0, .ref a_0table, .ref a_0isOver, .ref a_0isRuled, .ref a_0all, .ref a_0some, .int round_0, .ref a_0chosen, .ref a_0last, .ref a_0corner, .ref a_0wide, .ref a_0cuts, .long seed_0, .ref a_0aside, .long hash_0])), (a_0table, .inl (cI, 252, .inl table_0)), (a_0s, .inl (cI, 84, .inl s_0)), (a_0cells, .inl (cJ, 1200, .inr (.inl cells_0))), (a_0owner, .inl (cI, 1200, .inl owner_0)), (a_0code, .inl (cI, 1200, .inl code_0)), (a_0isOver, .inl (cZ, 1200, .inl isOver_0)), (a_0all, .inl (cJ, 42, .inr (.inl all_0))), (a_0some, .inl (cJ, 42, .inr (.inl some_0))), (a_0isRuled, .inl (cZ, 1200, .inl isRuled_0)), (a_0last, .inl (cI, 43, .inl last_0)), (a_0chosen, .inl (cI, 43, .inl chosen_0)), (a_0corner, .inl (cI, 42, .inl corner_0)), (a_0wide, .inl (cI, 42, .inl wide_0)), (a_0isKept, .inl (cZ, 2, .inl isKept_0)), (a_0buffer, .inl (cI, 60, .inl buffer_0))]
set_option maxHeartbeats 4000000 in
set_option maxRecDepth 100000 in
theorem c_fM_countOf (l : Launch) (dC : Nat → ClassId) (dI : Nat → Nat → Nat) (cI cZ cJ cQ : ClassId) (a_0 a_0owner a_0s a_0before a_0slots a_0isKept a_0buffer a_0cells a_0code a_0table a_0isOver a_0isRuled a_0all a_0some a_0chosen a_0last a_0corner a_0wide a_0cuts a_0aside : Nat) (known_0 : Int32) (length_0 : Int32) (thrown_0 : Int32) (round_0 : Int32) (seed_0 : Int64) (hash_0 : Int64) (sz : Nat) {F : Nat} {x1 : Int32} {many_0 : Int32} {owner_0 : Nat → Int32} {out : Int32} (hf : fM_countOf F x1 many_0 owner_0 = some out) : Met l yX10_countOf wsX10_countOf ({ frames := 0, cells := 0, slots := 0, locals := 0 } : Room) (va_Pc [.ref a_0, .int x1] (wlP (dC, dI) (wlT cI cZ cJ cQ) (wl_fM_countOf cI cZ cJ cQ a_0 a_0owner a_0s a_0before a_0slots a_0isKept a_0buffer a_0cells a_0code a_0table a_0isOver a_0isRuled a_0all a_0some a_0chosen a_0last a_0corner a_0wide a_0cuts a_0aside known_0 length_0 thrown_0 many_0 round_0 seed_0 hash_0 owner_0) sz)) (va_Qi (fun (v : Int32) (_ : Unit) => v = out) (wlQ (dC, dI) (va_A (wl_fM_countOf cI cZ cJ cQ a_0 a_0owner a_0s a_0before a_0slots a_0isKept a_0buffer a_0cells a_0code a_0table a_0isOver a_0isRuled a_0all a_0some a_0chosen a_0last a_0corner a_0wide a_0cuts a_0aside known_0 length_0 thrown_0 many_0 round_0 seed_0 hash_0 owner_0) sz) (wl_fM_countOf cI cZ cJ cQ a_0 a_0owner a_0s a_0before a_0slots a_0isKept a_0buffer a_0cells a_0code a_0table a_0isOver a_0isRuled a_0all a_0some a_0chosen a_0last a_0corner a_0wide a_0cuts a_0aside known_0 length_0 thrown_0 many_0 round_0 seed_0 hash_0 owner_0)) (va_A (wl_fM_countOf cI cZ cJ cQ a_0 a_0owner a_0s a_0before a_0slots a_0isKept a_0buffer a_0cells a_0code a_0table a_0isOver a_0isRuled a_0all a_0some a_0chosen a_0last a_0corner a_0wide a_0cuts a_0aside known_0 length_0 thrown_0 many_0 round_0 seed_0 hash_0 owner_0) sz)) 0 0 (va_A (wl_fM_countOf cI cZ cJ cQ a_0 a_0owner a_0s a_0before a_0slots a_0isKept a_0buffer a_0cells a_0code a_0table a_0isOver a_0isRuled a_0all a_0some a_0chosen a_0last a_0corner a_0wide a_0cuts a_0aside known_0 length_0 thrown_0 many_0 round_0 seed_0 hash_0 owner_0) sz) := by
  refine wh_ofWi (lv := [(0, .ref a_0), (1, .int x1)]) RX10 (by decide) rfl rfl (Nat.le_of_ble_eq_true rfl) rfl ?_
  intro p e s m below meth c A QQ hx hb hml hown hts hP hK hN hD hA hret ls hl
  have hS : va_S A s.heap s.heap [] := va_S.rf
  have hiX10 : ∀ w ∈ wsX100, w ∈ wsX10_countOf := (fun _ h => List.mem_cons_of_mem _ (List.mem_append_right _ (h)))
  unfold fM_countOf at hf
  refine lv_iconst (v := 0) hx hb dX10_countOf_0 (by decide) ?_
  refine lv_istore_n (lv' := [(2, .int (0 : Int32)), (0, .ref a_0), (1, .int x1)]) hx hb dX10_countOf_1 rfl hl (by decide) rfl (fun ls hl => ?_)
  refine lv_iconst (v := 0) hx hb dX10_countOf_2 (by decide) ?_
  refine lv_istore_n (lv' := [(3, .int (0 : Int32)), (2, .int (0 : Int32)), (0, .ref a_0), (1, .int x1)]) hx hb dX10_countOf_3 rfl hl (by decide) rfl (fun ls hl => ?_)
  obtain ⟨r3, h_r3, hf⟩ := hf_bind hf
  have hE_1 : ∀ (H : Heap) (locs : List Loc) (ls : Array Slot), lv_has ls 4 [(2, .int r3.1)] → va_P (dC, dI) vwCl (wl_fM_countOf cI cZ cJ cQ a_0 a_0owner a_0s a_0before a_0slots a_0isKept a_0buffer a_0cells a_0code a_0table a_0isOver a_0isRuled a_0all a_0some a_0chosen a_0last a_0corner a_0wide a_0cuts a_0aside known_0 length_0 thrown_0 many_0 round_0 seed_0 hash_0 owner_0) H → va_D A (wl_fM_countOf cI cZ cJ cQ a_0 a_0owner a_0s a_0before a_0slots a_0isKept a_0buffer a_0cells a_0code a_0table a_0isOver a_0isRuled a_0all a_0some a_0chosen a_0last a_0corner a_0wide a_0cuts a_0aside known_0 length_0 thrown_0 many_0 round_0 seed_0 hash_0 owner_0) → va_S A s.heap H locs → W p l e ({ frames := 0, cells := 0, slots := 0, locals := 0 } : Room) s m [.ref a_0, .int x1].toArray below meth c H locs 0 0 QQ (F0 m 36 ls []) := by
    intro H locs ls hl hP hD hS
    refine lv_iload_n hx hb dX10_countOf_36 rfl (lv_at hl 0 rfl) ?_
    obtain rfl := Option.some.inj hf
    exact hret _ _ _ _ hP hD hS dX10_countOf_37
  have hL_2 : ∀ (N : Nat) (l2_3 : Int32) (l3_4 : Int32), fM_countOf_L4 F x1 many_0 owner_0 N l2_3 l3_4 = some r3 → ∀ (H : Heap) (locs : List Loc) (ls : Array Slot), lv_has ls 4 [(0, .ref a_0), (1, .int x1), (2, .int l2_3), (3, .int l3_4)] → va_P (dC, dI) vwCl (wl_fM_countOf cI cZ cJ cQ a_0 a_0owner a_0s a_0before a_0slots a_0isKept a_0buffer a_0cells a_0code a_0table a_0isOver a_0isRuled a_0all a_0some a_0chosen a_0last a_0corner a_0wide a_0cuts a_0aside known_0 length_0 thrown_0 many_0 round_0 seed_0 hash_0 owner_0) H → va_D A (wl_fM_countOf cI cZ cJ cQ a_0 a_0owner a_0s a_0before a_0slots a_0isKept a_0buffer a_0cells a_0code a_0table a_0isOver a_0isRuled a_0all a_0some a_0chosen a_0last a_0corner a_0wide a_0cuts a_0aside known_0 length_0 thrown_0 many_0 round_0 seed_0 hash_0 owner_0) → va_S A s.heap H locs → W p l e ({ frames := 0, cells := 0, slots := 0, locals := 0 } : Room) s m [.ref a_0, .int x1].toArray below meth c H locs 0 0 QQ (F0 m 4 ls []) := by
    intro N
    induction N with
    | zero => intro l2_3 l3_4 hf; exact nomatch (show none = some _ from hf)
    | succ N ih =>
      intro l2_3 l3_4 hf H locs ls hl hP hD hS
      rw [fM_countOf_L4] at hf
      refine lv_iload_n hx hb dX10_countOf_4 rfl (lv_at hl 3 rfl) ?_
      refine lv_aload_n hx hb dX10_countOf_5 rfl (lv_at hl 0 rfl) ?_
      refine va_get (D := (dC, dI)) (ci := 10) (C := RX10) (T := TX10) (N := 26) hx hb hts hiX10 hown hK hP 0 rfl rfl 11 (by decide) (hts (.fieldLink RX10 102 "PaddockFieldsModel" "many" "I") (List.mem_cons_of_mem _ (List.mem_append_left _ (List.mem_of_getElem? (i := 0) rfl)))) (fun _ h9 => h9) rfl dX10_countOf_6 ?_
      refine lv_icmp_ge (tgt := 36) hx hb dX10_countOf_9 (by decide) (fun cc => ?_) (fun cc => ?_)
      · replace hf := hf_pos cc hf
        obtain rfl := Option.some.inj hf
        exact hE_1 _ _ _ (lv_sub hl [2] rfl) hP hD hS
      · replace hf := hf_neg cc hf
        refine lv_iload_n hx hb dX10_countOf_12 rfl (lv_at hl 2 rfl) ?_
        refine lv_aload_n hx hb dX10_countOf_13 rfl (lv_at hl 0 rfl) ?_
        refine va_get (D := (dC, dI)) (ci := 10) (C := RX10) (T := TX10) (N := 26) hx hb hts hiX10 hown hK hP 0 rfl rfl 9 (by decide) (hts (.fieldLink RX10 30 "PaddockFieldsModel" "owner" "[I") (List.mem_cons_of_mem _ (List.mem_append_left _ (List.mem_of_getElem? (i := 1) rfl)))) (fun _ h9 => h9) rfl dX10_countOf_14 ?_
        refine lv_iload_n hx hb dX10_countOf_17 rfl (lv_at hl 3 rfl) ?_
        obtain ⟨v1, h_v1, hf⟩ := hf_bind hf
        refine wh_ldI (D := (dC, dI)) hx hb hK hP 1 0 rfl rfl h_v1 dX10_countOf_18 ?_
        refine lv_iload_n hx hb dX10_countOf_19 rfl (lv_at hl 1 rfl) ?_
        obtain ⟨j2, h_j2, hf⟩ := hf_bind hf
        have hJ_5 : ∀ (H : Heap) (locs : List Loc) (ls : Array Slot), lv_has ls 4 [(0, .ref a_0), (1, .int x1), (3, .int l3_4)] → va_P (dC, dI) vwCl (wl_fM_countOf cI cZ cJ cQ a_0 a_0owner a_0s a_0before a_0slots a_0isKept a_0buffer a_0cells a_0code a_0table a_0isOver a_0isRuled a_0all a_0some a_0chosen a_0last a_0corner a_0wide a_0cuts a_0aside known_0 length_0 thrown_0 many_0 round_0 seed_0 hash_0 owner_0) H → va_D A (wl_fM_countOf cI cZ cJ cQ a_0 a_0owner a_0s a_0before a_0slots a_0isKept a_0buffer a_0cells a_0code a_0table a_0isOver a_0isRuled a_0all a_0some a_0chosen a_0last a_0corner a_0wide a_0cuts a_0aside known_0 length_0 thrown_0 many_0 round_0 seed_0 hash_0 owner_0) → va_S A s.heap H locs → W p l e ({ frames := 0, cells := 0, slots := 0, locals := 0 } : Room) s m [.ref a_0, .int x1].toArray below meth c H locs 0 0 QQ (F0 m 28 ls [.int j2, .int l2_3]) := by
          intro H locs ls hl hP hD hS
          refine lv_iadd hx hb dX10_countOf_28 ?_
          refine lv_istore_n (lv' := [(2, .int (l2_3 + j2)), (0, .ref a_0), (1, .int x1), (3, .int l3_4)]) hx hb dX10_countOf_29 rfl hl (by decide) rfl (fun ls hl => ?_)
          refine lv_iinc (v := (l3_4 + (1 : Int32))) (lv' := [(3, .int (l3_4 + (1 : Int32))), (2, .int (l2_3 + j2)), (0, .ref a_0), (1, .int x1)]) hx hb dX10_countOf_30 hl (k := 3) rfl rfl (by decide) rfl (fun ls hl => ?_)
          refine lv_goto (tgt := 4) hx hb dX10_countOf_33 (by decide) ?_
          exact ih _ _ hf _ _ _ (lv_sub hl [2, 3, 1, 0] rfl) hP hD hS
        clear hf
        have hf := h_j2
        clear h_j2
        refine lv_icmp_ne (tgt := 27) hx hb dX10_countOf_20 (by decide) (fun cc => ?_) (fun cc => ?_)
        · replace hf := hf_pos cc hf
          refine lv_iconst (v := 0) hx hb dX10_countOf_27 (by decide) ?_
          obtain rfl := Option.some.inj hf
          exact hJ_5 _ _ _ (lv_sub hl [0, 1, 3] rfl) hP hD hS
        · replace hf := hf_neg (not_not_intro cc) hf
          refine lv_iconst (v := 1) hx hb dX10_countOf_23 (by decide) ?_
          refine lv_goto (tgt := 28) hx hb dX10_countOf_24 (by decide) ?_
          obtain rfl := Option.some.inj hf
          exact hJ_5 _ _ _ (lv_sub hl [0, 1, 3] rfl) hP hD hS
  exact hL_2 _ _ _ h_r3 _ _ _ (lv_sub hl [2, 3, 1, 0] rfl) hP hD hS
set_option maxHeartbeats 4000000 in
set_option maxRecDepth 100000 in
theorem c_fM_possibleFor (l : Launch) (dC : Nat → ClassId) (dI : Nat → Nat → Nat) (cI cZ cJ cQ : ClassId) (a_0 a_0s a_0table a_0cells a_0owner a_0code a_0before a_0slots a_0isKept a_0buffer a_0isOver a_0isRuled a_0all a_0some a_0chosen a_0last a_0corner a_0wide a_0cuts a_0aside : Nat) (known_0 : Int32) (length_0 : Int32) (round_0 : Int32) (seed_0 : Int64) (hash_0 : Int64) (sz : Nat) {F : Nat} {x1 : Int32} {x2 : Int32} {s_0 : Nat → Int32} {thrown_0 : Int32} {many_0 : Int32} {table_0 : Nat → Int32} {cells_0 : Nat → Int64} {owner_0 : Nat → Int32} {code_0 : Nat → Int32} {out : Int32 × Int32 × Int32 × (Nat → Int32) × (Nat → Int64) × (Nat → Int32) × (Nat → Int32)} (hf : fM_possibleFor F x1 x2 s_0 thrown_0 many_0 table_0 cells_0 owner_0 code_0 = some out) : Met l yX10_possibleFor wsX10_possibleFor ({ frames := 3, cells := 0, slots := 0, locals := 87 } : Room) (va_Pc [.ref a_0, .int x1, .int x2] (wlP (dC, dI) (wlT cI cZ cJ cQ) (wl_fM_possibleFor cI cZ cJ cQ a_0 a_0s a_0table a_0cells a_0owner a_0code a_0before a_0slots a_0isKept a_0buffer a_0isOver a_0isRuled a_0all a_0some a_0chosen a_0last a_0corner a_0wide a_0cuts a_0aside known_0 length_0 thrown_0 many_0 round_0 seed_0 hash_0 s_0 table_0 cells_0 owner_0 code_0) sz)) (va_Qi (fun (v : Int32) (_ : Unit) => v = out.1) (wlQ (dC, dI) (va_A (wl_fM_possibleFor cI cZ cJ cQ a_0 a_0s a_0table a_0cells a_0owner a_0code a_0before a_0slots a_0isKept a_0buffer a_0isOver a_0isRuled a_0all a_0some a_0chosen a_0last a_0corner a_0wide a_0cuts a_0aside known_0 length_0 thrown_0 many_0 round_0 seed_0 hash_0 s_0 table_0 cells_0 owner_0 code_0) sz) (wl_fM_possibleFor cI cZ cJ cQ a_0 a_0s a_0table a_0cells a_0owner a_0code a_0before a_0slots a_0isKept a_0buffer a_0isOver a_0isRuled a_0all a_0some a_0chosen a_0last a_0corner a_0wide a_0cuts a_0aside known_0 length_0 out.2.1 out.2.2.1 round_0 seed_0 hash_0 s_0 out.2.2.2.1 out.2.2.2.2.1 out.2.2.2.2.2.1 out.2.2.2.2.2.2)) (va_A (wl_fM_possibleFor cI cZ cJ cQ a_0 a_0s a_0table a_0cells a_0owner a_0code a_0before a_0slots a_0isKept a_0buffer a_0isOver a_0isRuled a_0all a_0some a_0chosen a_0last a_0corner a_0wide a_0cuts a_0aside known_0 length_0 thrown_0 many_0 round_0 seed_0 hash_0 s_0 table_0 cells_0 owner_0 code_0) sz)) 0 0 (va_A (wl_fM_possibleFor cI cZ cJ cQ a_0 a_0s a_0table a_0cells a_0owner a_0code a_0before a_0slots a_0isKept a_0buffer a_0isOver a_0isRuled a_0all a_0some a_0chosen a_0last a_0corner a_0wide a_0cuts a_0aside known_0 length_0 thrown_0 many_0 round_0 seed_0 hash_0 s_0 table_0 cells_0 owner_0 code_0) sz) := by
  refine wh_ofWi (lv := [(0, .ref a_0), (1, .int x1), (2, .int x2)]) RX10 (by decide) rfl rfl (Nat.le_of_ble_eq_true rfl) rfl ?_
  intro p e s m below meth c A QQ hx hb hml hown hts hP hK hN hD hA hret ls hl
  have hS : va_S A s.heap s.heap [] := va_S.rf
  unfold fM_possibleFor at hf
  refine lv_aload_n hx hb dX10_possibleFor_0 rfl (lv_at hl 0 rfl) ?_
  refine lv_iload_n hx hb dX10_possibleFor_1 rfl (lv_at hl 1 rfl) ?_
  refine lv_iload_n hx hb dX10_possibleFor_2 rfl (lv_at hl 2 rfl) ?_
  refine lv_iconst (v := 0) hx hb dX10_possibleFor_3 (by decide) ?_
  obtain ⟨s1, h_s1, hf⟩ := hf_bind hf
  refine wh_calli (D := (dC, dI)) (ws' := (wl_fM_possibleFor cI cZ cJ cQ a_0 a_0s a_0table a_0cells a_0owner a_0code a_0before a_0slots a_0isKept a_0buffer a_0isOver a_0isRuled a_0all a_0some a_0chosen a_0last a_0corner a_0wide a_0cuts a_0aside known_0 length_0 s1.2 many_0 round_0 seed_0 hash_0 s_0 table_0 cells_0 owner_0 code_0)) (va_runV (As := [.int x1, .int x2, .int (0 : Int32)]) (rest := []) ⟨hx, hb, hml, hown, hts⟩ (c_fM_isThere l dC dI cI cZ cJ cQ a_0 a_0s a_0before a_0slots a_0isKept a_0buffer a_0cells a_0owner a_0code a_0table a_0isOver a_0isRuled a_0all a_0some a_0chosen a_0last a_0corner a_0wide a_0cuts a_0aside known_0 length_0 many_0 round_0 seed_0 hash_0 _ h_s1) (cwV 3 hts gX10_possibleFor_X10_isThere rfl rfl rfl (by decide +kernel) ⟨Nat.le_of_ble_eq_true rfl, Nat.le_of_ble_eq_true rfl⟩) (wh_preV (C := RX10) (T := TX10) (N := 26) hK hN hP hD [0, 1] rfl rfl 10 0 rfl rfl) rfl rfl hl.1 rfl (lv_room (Nat.le_of_ble_eq_true rfl)) dX10_possibleFor_4 ⟨Nat.le_refl _, Nat.le_refl _⟩) hP hD hS hA [0, 1] [2, 3, 4, 5] [4, 5, 0, 1, 2, 3] rfl rfl rfl rfl (fun H locs hP hD hS => ?_)
  refine lv_if_ne (tgt := 12) hx hb dX10_possibleFor_7 (by decide) (fun cc => ?_) (fun cc => ?_)
  · replace hf := hf_pos cc hf
    refine lv_aload_n hx hb dX10_possibleFor_12 rfl (lv_at hl 0 rfl) ?_
    obtain ⟨s2, h_s2, hf⟩ := hf_bind hf
    refine wh_callv (D := (dC, dI)) (ws' := (wl_fM_possibleFor cI cZ cJ cQ a_0 a_0s a_0table a_0cells a_0owner a_0code a_0before a_0slots a_0isKept a_0buffer a_0isOver a_0isRuled a_0all a_0some a_0chosen a_0last a_0corner a_0wide a_0cuts a_0aside known_0 length_0 s1.2 s2.1 round_0 seed_0 hash_0 s_0 s2.2.1 s2.2.2.1 s2.2.2.2.1 s2.2.2.2.2)) (va_runV (As := []) (rest := []) ⟨hx, hb, hml, hown, hts⟩ (c_fM_finds l dC dI cI cZ cJ cQ a_0 a_0table a_0s a_0cells a_0owner a_0code a_0before a_0slots a_0isKept a_0buffer a_0isOver a_0isRuled a_0all a_0some a_0chosen a_0last a_0corner a_0wide a_0cuts a_0aside known_0 length_0 s1.2 round_0 seed_0 hash_0 _ h_s2) (cwV 0 hts gX10_possibleFor_X10_finds rfl rfl rfl (by decide +kernel) ⟨Nat.le_of_ble_eq_true rfl, Nat.le_of_ble_eq_true rfl⟩) (wh_preV (C := RX10) (T := TX10) (N := 26) hK hN hP hD [0, 2, 1, 3, 4, 5] rfl rfl 10 0 rfl rfl) rfl rfl hl.1 rfl (lv_room (Nat.le_of_ble_eq_true rfl)) dX10_possibleFor_13 ⟨Nat.le_refl _, Nat.le_refl _⟩) hP hD hS hA [0, 2, 1, 3, 4, 5] [] [0, 2, 1, 3, 4, 5] rfl rfl rfl rfl (fun H locs hP hD hS => ?_)
    refine lv_aload_n hx hb dX10_possibleFor_16 rfl (lv_at hl 0 rfl) ?_
    refine lv_bipush (v := 7) hx hb dX10_possibleFor_17 (by decide) ?_
    refine lv_iload_n hx hb dX10_possibleFor_19 rfl (lv_at hl 1 rfl) ?_
    refine lv_imul hx hb dX10_possibleFor_20 ?_
    refine lv_iload_n hx hb dX10_possibleFor_21 rfl (lv_at hl 2 rfl) ?_
    refine lv_iadd hx hb dX10_possibleFor_22 ?_
    obtain ⟨s3, h_s3, hf⟩ := hf_bind hf
    refine wh_calli (D := (dC, dI)) (ws' := (wl_fM_possibleFor cI cZ cJ cQ a_0 a_0s a_0table a_0cells a_0owner a_0code a_0before a_0slots a_0isKept a_0buffer a_0isOver a_0isRuled a_0all a_0some a_0chosen a_0last a_0corner a_0wide a_0cuts a_0aside known_0 length_0 s1.2 s2.1 round_0 seed_0 hash_0 s_0 s2.2.1 s2.2.2.1 s2.2.2.2.1 s2.2.2.2.2)) (va_runV (As := [.int (((7 : Int32) * x1) + x2)]) (rest := []) ⟨hx, hb, hml, hown, hts⟩ (c_fM_countOf l dC dI cI cZ cJ cQ a_0 a_0owner a_0s a_0before a_0slots a_0isKept a_0buffer a_0cells a_0code a_0table a_0isOver a_0isRuled a_0all a_0some a_0chosen a_0last a_0corner a_0wide a_0cuts a_0aside known_0 length_0 s1.2 round_0 seed_0 hash_0 _ h_s3) (cwV 1 hts gX10_possibleFor_X10_countOf rfl rfl rfl (by decide +kernel) ⟨Nat.le_of_ble_eq_true rfl, Nat.le_of_ble_eq_true rfl⟩) (wh_preV (C := RX10) (T := TX10) (N := 26) hK hN hP hD [0, 4] rfl rfl 10 0 rfl rfl) rfl rfl hl.1 rfl (lv_room (Nat.le_of_ble_eq_true rfl)) dX10_possibleFor_23 ⟨Nat.le_refl _, Nat.le_refl _⟩) hP hD hS hA [0, 4] [1, 2, 3, 5] [4, 0, 1, 2, 5, 3] rfl rfl rfl rfl (fun H locs hP hD hS => ?_)
    obtain rfl := Option.some.inj hf
    exact hret _ _ _ _ hP hD hS dX10_possibleFor_26
  · replace hf := hf_neg (not_not_intro cc) hf
    refine lv_iconst (v := 0) hx hb dX10_possibleFor_10 (by decide) ?_
    obtain rfl := Option.some.inj hf
    exact hret _ _ _ _ hP hD hS dX10_possibleFor_11
set_option maxHeartbeats 4000000 in
set_option maxRecDepth 100000 in
theorem c_fM_possibleAt (l : Launch) (dC : Nat → ClassId) (dI : Nat → Nat → Nat) (cI cZ cJ cQ : ClassId) (a_0 a_0s a_0table a_0cells a_0owner a_0code a_0before a_0slots a_0isKept a_0buffer a_0isOver a_0isRuled a_0all a_0some a_0chosen a_0last a_0corner a_0wide a_0cuts a_0aside : Nat) (known_0 : Int32) (length_0 : Int32) (round_0 : Int32) (seed_0 : Int64) (hash_0 : Int64) (sz : Nat) {F : Nat} {x1 : Int32} {x2 : Int32} {x3 : Int32} {s_0 : Nat → Int32} {thrown_0 : Int32} {many_0 : Int32} {table_0 : Nat → Int32} {cells_0 : Nat → Int64} {owner_0 : Nat → Int32} {code_0 : Nat → Int32} {out : Int32 × Int32 × Int32 × (Nat → Int32) × (Nat → Int64) × (Nat → Int32) × (Nat → Int32)} (hf : fM_possibleAt F x1 x2 x3 s_0 thrown_0 many_0 table_0 cells_0 owner_0 code_0 = some out) : Met l yX10_possibleAt wsX10_possibleAt ({ frames := 3, cells := 0, slots := 0, locals := 87 } : Room) (va_Pc [.ref a_0, .int x1, .int x2, .int x3] (wlP (dC, dI) (wlT cI cZ cJ cQ) (wl_fM_possibleAt cI cZ cJ cQ a_0 a_0s a_0table a_0cells a_0owner a_0code a_0before a_0slots a_0isKept a_0buffer a_0isOver a_0isRuled a_0all a_0some a_0chosen a_0last a_0corner a_0wide a_0cuts a_0aside known_0 length_0 thrown_0 many_0 round_0 seed_0 hash_0 s_0 table_0 cells_0 owner_0 code_0) sz)) (va_Qi (fun (v : Int32) (_ : Unit) => v = out.1) (wlQ (dC, dI) (va_A (wl_fM_possibleAt cI cZ cJ cQ a_0 a_0s a_0table a_0cells a_0owner a_0code a_0before a_0slots a_0isKept a_0buffer a_0isOver a_0isRuled a_0all a_0some a_0chosen a_0last a_0corner a_0wide a_0cuts a_0aside known_0 length_0 thrown_0 many_0 round_0 seed_0 hash_0 s_0 table_0 cells_0 owner_0 code_0) sz) (wl_fM_possibleAt cI cZ cJ cQ a_0 a_0s a_0table a_0cells a_0owner a_0code a_0before a_0slots a_0isKept a_0buffer a_0isOver a_0isRuled a_0all a_0some a_0chosen a_0last a_0corner a_0wide a_0cuts a_0aside known_0 length_0 out.2.1 out.2.2.1 round_0 seed_0 hash_0 s_0 out.2.2.2.1 out.2.2.2.2.1 out.2.2.2.2.2.1 out.2.2.2.2.2.2)) (va_A (wl_fM_possibleAt cI cZ cJ cQ a_0 a_0s a_0table a_0cells a_0owner a_0code a_0before a_0slots a_0isKept a_0buffer a_0isOver a_0isRuled a_0all a_0some a_0chosen a_0last a_0corner a_0wide a_0cuts a_0aside known_0 length_0 thrown_0 many_0 round_0 seed_0 hash_0 s_0 table_0 cells_0 owner_0 code_0) sz)) 0 0 (va_A (wl_fM_possibleAt cI cZ cJ cQ a_0 a_0s a_0table a_0cells a_0owner a_0code a_0before a_0slots a_0isKept a_0buffer a_0isOver a_0isRuled a_0all a_0some a_0chosen a_0last a_0corner a_0wide a_0cuts a_0aside known_0 length_0 thrown_0 many_0 round_0 seed_0 hash_0 s_0 table_0 cells_0 owner_0 code_0) sz) := by
  refine wh_ofWi (lv := [(0, .ref a_0), (1, .int x1), (2, .int x2), (3, .int x3)]) RX10 (by decide) rfl rfl (Nat.le_of_ble_eq_true rfl) rfl ?_
  intro p e s m below meth c A QQ hx hb hml hown hts hP hK hN hD hA hret ls hl
  have hS : va_S A s.heap s.heap [] := va_S.rf
  have hiX10 : ∀ w ∈ wsX100, w ∈ wsX10_possibleAt := (fun _ h => List.mem_cons_of_mem _ (List.mem_append_right _ (h)))
  unfold fM_possibleAt at hf
  refine lv_aload_n hx hb dX10_possibleAt_0 rfl (lv_at hl 0 rfl) ?_
  refine lv_iload_n hx hb dX10_possibleAt_1 rfl (lv_at hl 1 rfl) ?_
  refine lv_iload_n hx hb dX10_possibleAt_2 rfl (lv_at hl 2 rfl) ?_
  refine lv_iconst (v := 0) hx hb dX10_possibleAt_3 (by decide) ?_
  obtain ⟨s1, h_s1, hf⟩ := hf_bind hf
  refine wh_calli (D := (dC, dI)) (ws' := (wl_fM_possibleAt cI cZ cJ cQ a_0 a_0s a_0table a_0cells a_0owner a_0code a_0before a_0slots a_0isKept a_0buffer a_0isOver a_0isRuled a_0all a_0some a_0chosen a_0last a_0corner a_0wide a_0cuts a_0aside known_0 length_0 s1.2 many_0 round_0 seed_0 hash_0 s_0 table_0 cells_0 owner_0 code_0)) (va_runV (As := [.int x1, .int x2, .int (0 : Int32)]) (rest := []) ⟨hx, hb, hml, hown, hts⟩ (c_fM_isThere l dC dI cI cZ cJ cQ a_0 a_0s a_0before a_0slots a_0isKept a_0buffer a_0cells a_0owner a_0code a_0table a_0isOver a_0isRuled a_0all a_0some a_0chosen a_0last a_0corner a_0wide a_0cuts a_0aside known_0 length_0 many_0 round_0 seed_0 hash_0 _ h_s1) (cwV 3 hts gX10_possibleAt_X10_isThere rfl rfl rfl (by decide +kernel) ⟨Nat.le_of_ble_eq_true rfl, Nat.le_of_ble_eq_true rfl⟩) (wh_preV (C := RX10) (T := TX10) (N := 26) hK hN hP hD [0, 1] rfl rfl 10 0 rfl rfl) rfl rfl hl.1 rfl (lv_room (Nat.le_of_ble_eq_true rfl)) dX10_possibleAt_4 ⟨Nat.le_refl _, Nat.le_refl _⟩) hP hD hS hA [0, 1] [2, 3, 4, 5] [4, 5, 0, 1, 2, 3] rfl rfl rfl rfl (fun H locs hP hD hS => ?_)
  refine lv_if_ne (tgt := 12) hx hb dX10_possibleAt_7 (by decide) (fun cc => ?_) (fun cc => ?_)
  · replace hf := hf_pos cc hf
    refine lv_aload_n hx hb dX10_possibleAt_12 rfl (lv_at hl 0 rfl) ?_
    obtain ⟨s2, h_s2, hf⟩ := hf_bind hf
    refine wh_callv (D := (dC, dI)) (ws' := (wl_fM_possibleAt cI cZ cJ cQ a_0 a_0s a_0table a_0cells a_0owner a_0code a_0before a_0slots a_0isKept a_0buffer a_0isOver a_0isRuled a_0all a_0some a_0chosen a_0last a_0corner a_0wide a_0cuts a_0aside known_0 length_0 s1.2 s2.1 round_0 seed_0 hash_0 s_0 s2.2.1 s2.2.2.1 s2.2.2.2.1 s2.2.2.2.2)) (va_runV (As := []) (rest := []) ⟨hx, hb, hml, hown, hts⟩ (c_fM_finds l dC dI cI cZ cJ cQ a_0 a_0table a_0s a_0cells a_0owner a_0code a_0before a_0slots a_0isKept a_0buffer a_0isOver a_0isRuled a_0all a_0some a_0chosen a_0last a_0corner a_0wide a_0cuts a_0aside known_0 length_0 s1.2 round_0 seed_0 hash_0 _ h_s2) (cwV 0 hts gX10_possibleAt_X10_finds rfl rfl rfl (by decide +kernel) ⟨Nat.le_of_ble_eq_true rfl, Nat.le_of_ble_eq_true rfl⟩) (wh_preV (C := RX10) (T := TX10) (N := 26) hK hN hP hD [0, 2, 1, 3, 4, 5] rfl rfl 10 0 rfl rfl) rfl rfl hl.1 rfl (lv_room (Nat.le_of_ble_eq_true rfl)) dX10_possibleAt_13 ⟨Nat.le_refl _, Nat.le_refl _⟩) hP hD hS hA [0, 2, 1, 3, 4, 5] [] [0, 2, 1, 3, 4, 5] rfl rfl rfl rfl (fun H locs hP hD hS => ?_)
    refine lv_iload_n hx hb dX10_possibleAt_16 rfl (lv_at hl 3 rfl) ?_
    refine lv_istore (lv' := [(4, .int x3), (0, .ref a_0), (1, .int x1), (2, .int x2), (3, .int x3)]) hx hb dX10_possibleAt_17 hl (by decide) rfl (fun ls hl => ?_)
    refine lv_iconst (v := 0) hx hb dX10_possibleAt_19 (by decide) ?_
    refine lv_istore (lv' := [(5, .int (0 : Int32)), (4, .int x3), (0, .ref a_0), (1, .int x1), (2, .int x2), (3, .int x3)]) hx hb dX10_possibleAt_20 hl (by decide) rfl (fun ls hl => ?_)
    have hL_1 : ∀ (N : Nat) (l4_2 : Int32) (l5_3 : Int32), fM_possibleAt_L22 F x1 x2 s1.2 s2.1 s2.2.1 s2.2.2.1 s2.2.2.2.1 s2.2.2.2.2 N l4_2 l5_3 = some out → ∀ (H : Heap) (locs : List Loc) (ls : Array Slot), lv_has ls 6 [(0, .ref a_0), (1, .int x1), (2, .int x2), (4, .int l4_2), (5, .int l5_3)] → va_P (dC, dI) vwCl (wl_fM_possibleAt cI cZ cJ cQ a_0 a_0s a_0table a_0cells a_0owner a_0code a_0before a_0slots a_0isKept a_0buffer a_0isOver a_0isRuled a_0all a_0some a_0chosen a_0last a_0corner a_0wide a_0cuts a_0aside known_0 length_0 s1.2 s2.1 round_0 seed_0 hash_0 s_0 s2.2.1 s2.2.2.1 s2.2.2.2.1 s2.2.2.2.2) H → va_D A (wl_fM_possibleAt cI cZ cJ cQ a_0 a_0s a_0table a_0cells a_0owner a_0code a_0before a_0slots a_0isKept a_0buffer a_0isOver a_0isRuled a_0all a_0some a_0chosen a_0last a_0corner a_0wide a_0cuts a_0aside known_0 length_0 s1.2 s2.1 round_0 seed_0 hash_0 s_0 s2.2.1 s2.2.2.1 s2.2.2.2.1 s2.2.2.2.2) → va_S A s.heap H locs → W p l e ({ frames := 3, cells := 0, slots := 0, locals := 87 } : Room) s m [.ref a_0, .int x1, .int x2, .int x3].toArray below meth c H locs 0 0 QQ (F0 m 22 ls []) := by
      intro N
      induction N with
      | zero => intro l4_2 l5_3 hf; exact nomatch (show none = some _ from hf)
      | succ N ih =>
        intro l4_2 l5_3 hf H locs ls hl hP hD hS
        rw [fM_possibleAt_L22] at hf
        refine lv_iload hx hb dX10_possibleAt_22 (lv_at hl 4 rfl) ?_
        refine lv_aload_n hx hb dX10_possibleAt_24 rfl (lv_at hl 0 rfl) ?_
        refine va_get (D := (dC, dI)) (ci := 10) (C := RX10) (T := TX10) (N := 26) hx hb hts hiX10 hown hK hP 0 rfl rfl 11 (by decide) (hts (.fieldLink RX10 102 "PaddockFieldsModel" "many" "I") (List.mem_cons_of_mem _ (List.mem_append_left _ (List.mem_append_left _ (List.mem_of_getElem? (i := 0) rfl))))) (fun _ h9 => h9) rfl dX10_possibleAt_25 ?_
        refine lv_icmp_ge (tgt := 69) hx hb dX10_possibleAt_28 (by decide) (fun cc => ?_) (fun cc => ?_)
        · replace hf := hf_pos cc hf
          refine lv_aload_n hx hb dX10_possibleAt_69 rfl (lv_at hl 0 rfl) ?_
          refine lv_iconst (v := 1) hx hb dX10_possibleAt_70 (by decide) ?_
          obtain ⟨s3, h_s3, hf⟩ := hf_bind hf
          refine wh_calli (D := (dC, dI)) (ws' := (wl_fM_possibleAt cI cZ cJ cQ a_0 a_0s a_0table a_0cells a_0owner a_0code a_0before a_0slots a_0isKept a_0buffer a_0isOver a_0isRuled a_0all a_0some a_0chosen a_0last a_0corner a_0wide a_0cuts a_0aside known_0 length_0 s3.2 s2.1 round_0 seed_0 hash_0 s_0 s2.2.1 s2.2.2.1 s2.2.2.2.1 s2.2.2.2.2)) (va_runV (As := [.int (1 : Int32)]) (rest := []) ⟨hx, hb, hml, hown, hts⟩ (c_fM_throwing l dC dI cI cZ cJ cQ a_0 a_0s a_0before a_0slots a_0isKept a_0buffer a_0cells a_0owner a_0code a_0table a_0isOver a_0isRuled a_0all a_0some a_0chosen a_0last a_0corner a_0wide a_0cuts a_0aside known_0 length_0 s2.1 round_0 seed_0 hash_0 _ h_s3) (cwV 1 hts gX10_possibleAt_X10_throwing rfl rfl rfl (by decide +kernel) ⟨Nat.le_of_ble_eq_true rfl, Nat.le_of_ble_eq_true rfl⟩) (wh_preV (C := RX10) (T := TX10) (N := 26) hK hN hP hD [0] rfl rfl 10 0 rfl rfl) rfl rfl hl.1 rfl (lv_room (Nat.le_of_ble_eq_true rfl)) dX10_possibleAt_71 ⟨Nat.le_refl _, Nat.le_refl _⟩) hP hD hS hA [0] [1, 2, 3, 4, 5] [5, 0, 1, 2, 3, 4] rfl rfl rfl rfl (fun H locs hP hD hS => ?_)
          obtain rfl := Option.some.inj hf
          exact hret _ _ _ _ hP hD hS dX10_possibleAt_74
        · replace hf := hf_neg cc hf
          refine lv_aload_n hx hb dX10_possibleAt_31 rfl (lv_at hl 0 rfl) ?_
          refine va_get (D := (dC, dI)) (ci := 10) (C := RX10) (T := TX10) (N := 26) hx hb hts hiX10 hown hK hP 0 rfl rfl 9 (by decide) (hts (.fieldLink RX10 30 "PaddockFieldsModel" "owner" "[I") (List.mem_cons_of_mem _ (List.mem_append_left _ (List.mem_append_left _ (List.mem_of_getElem? (i := 1) rfl))))) (fun _ h9 => h9) rfl dX10_possibleAt_32 ?_
          refine lv_iload hx hb dX10_possibleAt_35 (lv_at hl 4 rfl) ?_
          obtain ⟨v4, h_v4, hf⟩ := hf_bind hf
          refine wh_ldI (D := (dC, dI)) hx hb hK hP 4 0 rfl rfl h_v4 dX10_possibleAt_37 ?_
          refine lv_bipush (v := 7) hx hb dX10_possibleAt_38 (by decide) ?_
          refine lv_iload_n hx hb dX10_possibleAt_40 rfl (lv_at hl 1 rfl) ?_
          refine lv_imul hx hb dX10_possibleAt_41 ?_
          refine lv_iload_n hx hb dX10_possibleAt_42 rfl (lv_at hl 2 rfl) ?_
          refine lv_iadd hx hb dX10_possibleAt_43 ?_
          refine lv_icmp_ne (tgt := 63) hx hb dX10_possibleAt_44 (by decide) (fun cc => ?_) (fun cc => ?_)
          · replace hf := hf_pos cc hf
            refine lv_iinc (v := (l5_3 + (1 : Int32))) (lv' := [(5, .int (l5_3 + (1 : Int32))), (0, .ref a_0), (1, .int x1), (2, .int x2), (4, .int l4_2)]) hx hb dX10_possibleAt_63 hl (k := 4) rfl rfl (by decide) rfl (fun ls hl => ?_)
            refine lv_goto (tgt := 22) hx hb dX10_possibleAt_66 (by decide) ?_
            exact ih _ _ hf _ _ _ (lv_sub hl [1, 2, 3, 4, 0] rfl) hP hD hS
          · replace hf := hf_neg (not_not_intro cc) hf
            refine lv_iload hx hb dX10_possibleAt_47 (lv_at hl 3 rfl) ?_
            refine lv_if_ne (tgt := 60) hx hb dX10_possibleAt_49 (by decide) (fun cc => ?_) (fun cc => ?_)
            · replace hf := hf_pos cc hf
              refine lv_iinc (v := (l4_2 + (-1 : Int32))) (lv' := [(4, .int (l4_2 + (-1 : Int32))), (0, .ref a_0), (1, .int x1), (2, .int x2), (5, .int l5_3)]) hx hb dX10_possibleAt_60 hl (k := 3) rfl rfl (by decide) rfl (fun ls hl => ?_)
              refine lv_iinc (v := (l5_3 + (1 : Int32))) (lv' := [(5, .int (l5_3 + (1 : Int32))), (4, .int (l4_2 + (-1 : Int32))), (0, .ref a_0), (1, .int x1), (2, .int x2)]) hx hb dX10_possibleAt_63 hl (k := 4) rfl rfl (by decide) rfl (fun ls hl => ?_)
              refine lv_goto (tgt := 22) hx hb dX10_possibleAt_66 (by decide) ?_
              exact ih _ _ hf _ _ _ (lv_sub hl [2, 3, 4, 1, 0] rfl) hP hD hS
            · replace hf := hf_neg (not_not_intro cc) hf
              refine lv_aload_n hx hb dX10_possibleAt_52 rfl (lv_at hl 0 rfl) ?_
              refine va_get (D := (dC, dI)) (ci := 10) (C := RX10) (T := TX10) (N := 26) hx hb hts hiX10 hown hK hP 0 rfl rfl 10 (by decide) (hts (.fieldLink RX10 33 "PaddockFieldsModel" "code" "[I") (List.mem_cons_of_mem _ (List.mem_append_left _ (List.mem_append_left _ (List.mem_of_getElem? (i := 2) rfl))))) (fun _ h9 => h9) rfl dX10_possibleAt_53 ?_
              refine lv_iload hx hb dX10_possibleAt_56 (lv_at hl 4 rfl) ?_
              obtain ⟨v5, h_v5, hf⟩ := hf_bind hf
              refine wh_ldI (D := (dC, dI)) hx hb hK hP 5 0 rfl rfl h_v5 dX10_possibleAt_58 ?_
              obtain rfl := Option.some.inj hf
              exact hret _ _ _ _ hP hD hS dX10_possibleAt_59
    exact hL_1 _ _ _ hf _ _ _ (lv_sub hl [2, 3, 4, 1, 0] rfl) hP hD hS
  · replace hf := hf_neg (not_not_intro cc) hf
    refine lv_iconst (v := 0) hx hb dX10_possibleAt_10 (by decide) ?_
    obtain rfl := Option.some.inj hf
    exact hret _ _ _ _ hP hD hS dX10_possibleAt_11
set_option maxHeartbeats 4000000 in
set_option maxRecDepth 100000 in
theorem c_fM_covering (l : Launch) (dC : Nat → ClassId) (dI : Nat → Nat → Nat) (cI cZ cJ cQ : ClassId) (a_0 a_0cells a_0s a_0before a_0slots a_0isKept a_0buffer a_0owner a_0code a_0table a_0isOver a_0isRuled a_0all a_0some a_0chosen a_0last a_0corner a_0wide a_0cuts a_0aside : Nat) (known_0 : Int32) (length_0 : Int32) (thrown_0 : Int32) (round_0 : Int32) (seed_0 : Int64) (hash_0 : Int64) (sz : Nat) {F : Nat} {x1 : Int32} {many_0 : Int32} {cells_0 : Nat → Int64} {out : Int32} (hf : fM_covering F x1 many_0 cells_0 = some out) : Met l yX10_covering wsX10_covering ({ frames := 1, cells := 0, slots := 0, locals := 22 } : Room) (va_Pc [.ref a_0, .int x1] (wlP (dC, dI) (wlT cI cZ cJ cQ) (wl_fM_covering cI cZ cJ cQ a_0 a_0cells a_0s a_0before a_0slots a_0isKept a_0buffer a_0owner a_0code a_0table a_0isOver a_0isRuled a_0all a_0some a_0chosen a_0last a_0corner a_0wide a_0cuts a_0aside known_0 length_0 thrown_0 many_0 round_0 seed_0 hash_0 cells_0) sz)) (va_Qi (fun (v : Int32) (_ : Unit) => v = out) (wlQ (dC, dI) (va_A (wl_fM_covering cI cZ cJ cQ a_0 a_0cells a_0s a_0before a_0slots a_0isKept a_0buffer a_0owner a_0code a_0table a_0isOver a_0isRuled a_0all a_0some a_0chosen a_0last a_0corner a_0wide a_0cuts a_0aside known_0 length_0 thrown_0 many_0 round_0 seed_0 hash_0 cells_0) sz) (wl_fM_covering cI cZ cJ cQ a_0 a_0cells a_0s a_0before a_0slots a_0isKept a_0buffer a_0owner a_0code a_0table a_0isOver a_0isRuled a_0all a_0some a_0chosen a_0last a_0corner a_0wide a_0cuts a_0aside known_0 length_0 thrown_0 many_0 round_0 seed_0 hash_0 cells_0)) (va_A (wl_fM_covering cI cZ cJ cQ a_0 a_0cells a_0s a_0before a_0slots a_0isKept a_0buffer a_0owner a_0code a_0table a_0isOver a_0isRuled a_0all a_0some a_0chosen a_0last a_0corner a_0wide a_0cuts a_0aside known_0 length_0 thrown_0 many_0 round_0 seed_0 hash_0 cells_0) sz)) 0 0 (va_A (wl_fM_covering cI cZ cJ cQ a_0 a_0cells a_0s a_0before a_0slots a_0isKept a_0buffer a_0owner a_0code a_0table a_0isOver a_0isRuled a_0all a_0some a_0chosen a_0last a_0corner a_0wide a_0cuts a_0aside known_0 length_0 thrown_0 many_0 round_0 seed_0 hash_0 cells_0) sz) := by
  refine wh_ofWi (lv := [(0, .ref a_0), (1, .int x1)]) RX10 (by decide) rfl rfl (Nat.le_of_ble_eq_true rfl) rfl ?_
  intro p e s m below meth c A QQ hx hb hml hown hts hP hK hN hD hA hret ls hl
  have hS : va_S A s.heap s.heap [] := va_S.rf
  have hiX10 : ∀ w ∈ wsX100, w ∈ wsX10_covering := (fun _ h => List.mem_cons_of_mem _ (List.mem_append_right _ (h)))
  unfold fM_covering at hf
  refine lv_iconst (v := 0) hx hb dX10_covering_0 (by decide) ?_
  refine lv_istore_n (lv' := [(2, .int (0 : Int32)), (0, .ref a_0), (1, .int x1)]) hx hb dX10_covering_1 rfl hl (by decide) rfl (fun ls hl => ?_)
  refine lv_iconst (v := 0) hx hb dX10_covering_2 (by decide) ?_
  refine lv_istore_n (lv' := [(3, .int (0 : Int32)), (2, .int (0 : Int32)), (0, .ref a_0), (1, .int x1)]) hx hb dX10_covering_3 rfl hl (by decide) rfl (fun ls hl => ?_)
  obtain ⟨r4, h_r4, hf⟩ := hf_bind hf
  have hE_1 : ∀ (H : Heap) (locs : List Loc) (ls : Array Slot), lv_has ls 4 [(2, .int r4.1)] → va_P (dC, dI) vwCl (wl_fM_covering cI cZ cJ cQ a_0 a_0cells a_0s a_0before a_0slots a_0isKept a_0buffer a_0owner a_0code a_0table a_0isOver a_0isRuled a_0all a_0some a_0chosen a_0last a_0corner a_0wide a_0cuts a_0aside known_0 length_0 thrown_0 many_0 round_0 seed_0 hash_0 cells_0) H → va_D A (wl_fM_covering cI cZ cJ cQ a_0 a_0cells a_0s a_0before a_0slots a_0isKept a_0buffer a_0owner a_0code a_0table a_0isOver a_0isRuled a_0all a_0some a_0chosen a_0last a_0corner a_0wide a_0cuts a_0aside known_0 length_0 thrown_0 many_0 round_0 seed_0 hash_0 cells_0) → va_S A s.heap H locs → W p l e ({ frames := 1, cells := 0, slots := 0, locals := 22 } : Room) s m [.ref a_0, .int x1].toArray below meth c H locs 0 0 QQ (F0 m 39 ls []) := by
    intro H locs ls hl hP hD hS
    refine lv_iload_n hx hb dX10_covering_39 rfl (lv_at hl 0 rfl) ?_
    obtain rfl := Option.some.inj hf
    exact hret _ _ _ _ hP hD hS dX10_covering_40
  have hL_2 : ∀ (N : Nat) (l2_3 : Int32) (l3_4 : Int32), fM_covering_L4 F x1 many_0 cells_0 N l2_3 l3_4 = some r4 → ∀ (H : Heap) (locs : List Loc) (ls : Array Slot), lv_has ls 4 [(0, .ref a_0), (1, .int x1), (2, .int l2_3), (3, .int l3_4)] → va_P (dC, dI) vwCl (wl_fM_covering cI cZ cJ cQ a_0 a_0cells a_0s a_0before a_0slots a_0isKept a_0buffer a_0owner a_0code a_0table a_0isOver a_0isRuled a_0all a_0some a_0chosen a_0last a_0corner a_0wide a_0cuts a_0aside known_0 length_0 thrown_0 many_0 round_0 seed_0 hash_0 cells_0) H → va_D A (wl_fM_covering cI cZ cJ cQ a_0 a_0cells a_0s a_0before a_0slots a_0isKept a_0buffer a_0owner a_0code a_0table a_0isOver a_0isRuled a_0all a_0some a_0chosen a_0last a_0corner a_0wide a_0cuts a_0aside known_0 length_0 thrown_0 many_0 round_0 seed_0 hash_0 cells_0) → va_S A s.heap H locs → W p l e ({ frames := 1, cells := 0, slots := 0, locals := 22 } : Room) s m [.ref a_0, .int x1].toArray below meth c H locs 0 0 QQ (F0 m 4 ls []) := by
    intro N
    induction N with
    | zero => intro l2_3 l3_4 hf; exact nomatch (show none = some _ from hf)
    | succ N ih =>
      intro l2_3 l3_4 hf H locs ls hl hP hD hS
      rw [fM_covering_L4] at hf
      refine lv_iload_n hx hb dX10_covering_4 rfl (lv_at hl 3 rfl) ?_
      refine lv_aload_n hx hb dX10_covering_5 rfl (lv_at hl 0 rfl) ?_
      refine va_get (D := (dC, dI)) (ci := 10) (C := RX10) (T := TX10) (N := 26) hx hb hts hiX10 hown hK hP 0 rfl rfl 11 (by decide) (hts (.fieldLink RX10 102 "PaddockFieldsModel" "many" "I") (List.mem_cons_of_mem _ (List.mem_append_left _ (List.mem_of_getElem? (i := 0) rfl)))) (fun _ h9 => h9) rfl dX10_covering_6 ?_
      refine lv_icmp_ge (tgt := 39) hx hb dX10_covering_9 (by decide) (fun cc => ?_) (fun cc => ?_)
      · replace hf := hf_pos cc hf
        obtain rfl := Option.some.inj hf
        exact hE_1 _ _ _ (lv_sub hl [2] rfl) hP hD hS
      · replace hf := hf_neg cc hf
        refine lv_iload_n hx hb dX10_covering_12 rfl (lv_at hl 2 rfl) ?_
        refine lv_aload_n hx hb dX10_covering_13 rfl (lv_at hl 0 rfl) ?_
        refine va_get (D := (dC, dI)) (ci := 10) (C := RX10) (T := TX10) (N := 26) hx hb hts hiX10 hown hK hP 0 rfl rfl 8 (by decide) (hts (.fieldLink RX10 26 "PaddockFieldsModel" "cells" "[J") (List.mem_cons_of_mem _ (List.mem_append_left _ (List.mem_of_getElem? (i := 1) rfl)))) (fun _ h9 => h9) rfl dX10_covering_14 ?_
        refine lv_iload_n hx hb dX10_covering_17 rfl (lv_at hl 3 rfl) ?_
        obtain ⟨v1, h_v1, hf⟩ := hf_bind hf
        refine wh_ldJ (D := (dC, dI)) hx hb hK hP 1 2 rfl rfl h_v1 dX10_covering_18 ?_
        refine lv_iload_n hx hb dX10_covering_19 rfl (lv_at hl 1 rfl) ?_
        obtain ⟨s2, h_s2, hf⟩ := hf_bind hf
        refine wh_calli (D := (dC, dI)) (ws' := (wl_fM_covering cI cZ cJ cQ a_0 a_0cells a_0s a_0before a_0slots a_0isKept a_0buffer a_0owner a_0code a_0table a_0isOver a_0isRuled a_0all a_0some a_0chosen a_0last a_0corner a_0wide a_0cuts a_0aside known_0 length_0 thrown_0 many_0 round_0 seed_0 hash_0 cells_0)) (va_runS (As := [.long v1, .int x1]) (rest := [.int l2_3]) ⟨hx, hb, hml, hown, hts⟩ (c_fM_has l dC dI cI cZ cJ cQ _ h_s2) (va_cwS 2 hts gX10_covering_X10_has rfl rfl rfl (by decide +kernel) ⟨Nat.le_of_ble_eq_true rfl, Nat.le_of_ble_eq_true rfl⟩) (wh_preS hK hN hP hD [] rfl rfl) rfl rfl hl.1 rfl (lv_room (Nat.le_of_ble_eq_true rfl)) dX10_covering_20 ⟨Nat.le_refl _, Nat.le_refl _⟩) hP hD hS hA [] [0, 1] [0, 1] rfl rfl rfl rfl (fun H locs hP hD hS => ?_)
        obtain ⟨j3, h_j3, hf⟩ := hf_bind hf
        have hJ_5 : ∀ (H : Heap) (locs : List Loc) (ls : Array Slot), lv_has ls 4 [(0, .ref a_0), (1, .int x1), (3, .int l3_4)] → va_P (dC, dI) vwCl (wl_fM_covering cI cZ cJ cQ a_0 a_0cells a_0s a_0before a_0slots a_0isKept a_0buffer a_0owner a_0code a_0table a_0isOver a_0isRuled a_0all a_0some a_0chosen a_0last a_0corner a_0wide a_0cuts a_0aside known_0 length_0 thrown_0 many_0 round_0 seed_0 hash_0 cells_0) H → va_D A (wl_fM_covering cI cZ cJ cQ a_0 a_0cells a_0s a_0before a_0slots a_0isKept a_0buffer a_0owner a_0code a_0table a_0isOver a_0isRuled a_0all a_0some a_0chosen a_0last a_0corner a_0wide a_0cuts a_0aside known_0 length_0 thrown_0 many_0 round_0 seed_0 hash_0 cells_0) → va_S A s.heap H locs → W p l e ({ frames := 1, cells := 0, slots := 0, locals := 22 } : Room) s m [.ref a_0, .int x1].toArray below meth c H locs 0 0 QQ (F0 m 31 ls [.int j3, .int l2_3]) := by
          intro H locs ls hl hP hD hS
          refine lv_iadd hx hb dX10_covering_31 ?_
          refine lv_istore_n (lv' := [(2, .int (l2_3 + j3)), (0, .ref a_0), (1, .int x1), (3, .int l3_4)]) hx hb dX10_covering_32 rfl hl (by decide) rfl (fun ls hl => ?_)
          refine lv_iinc (v := (l3_4 + (1 : Int32))) (lv' := [(3, .int (l3_4 + (1 : Int32))), (2, .int (l2_3 + j3)), (0, .ref a_0), (1, .int x1)]) hx hb dX10_covering_33 hl (k := 3) rfl rfl (by decide) rfl (fun ls hl => ?_)
          refine lv_goto (tgt := 4) hx hb dX10_covering_36 (by decide) ?_
          exact ih _ _ hf _ _ _ (lv_sub hl [2, 3, 1, 0] rfl) hP hD hS
        clear hf
        have hf := h_j3
        clear h_j3
        refine lv_if_eq (tgt := 30) hx hb dX10_covering_23 (by decide) (fun cc => ?_) (fun cc => ?_)
        · replace hf := hf_pos cc hf
          refine lv_iconst (v := 0) hx hb dX10_covering_30 (by decide) ?_
          obtain rfl := Option.some.inj hf
          exact hJ_5 _ _ _ (lv_sub hl [0, 1, 3] rfl) hP hD hS
        · replace hf := hf_neg cc hf
          refine lv_iconst (v := 1) hx hb dX10_covering_26 (by decide) ?_
          refine lv_goto (tgt := 31) hx hb dX10_covering_27 (by decide) ?_
          obtain rfl := Option.some.inj hf
          exact hJ_5 _ _ _ (lv_sub hl [0, 1, 3] rfl) hP hD hS
  exact hL_2 _ _ _ h_r4 _ _ _ (lv_sub hl [2, 3, 1, 0] rfl) hP hD hS
set_option maxHeartbeats 4000000 in
set_option maxRecDepth 100000 in
theorem c_fM_claiming (l : Launch) (dC : Nat → ClassId) (dI : Nat → Nat → Nat) (cI cZ cJ cQ : ClassId) (a_0 a_0cells a_0owner a_0s a_0before a_0slots a_0isKept a_0buffer a_0code a_0table a_0isOver a_0isRuled a_0all a_0some a_0chosen a_0last a_0corner a_0wide a_0cuts a_0aside : Nat) (known_0 : Int32) (length_0 : Int32) (thrown_0 : Int32) (round_0 : Int32) (seed_0 : Int64) (hash_0 : Int64) (sz : Nat) {F : Nat} {x1 : Int32} {many_0 : Int32} {cells_0 : Nat → Int64} {owner_0 : Nat → Int32} {out : Int32} (hf : fM_claiming F x1 many_0 cells_0 owner_0 = some out) : Met l yX10_claiming wsX10_claiming ({ frames := 2, cells := 0, slots := 0, locals := 45 } : Room) (va_Pc [.ref a_0, .int x1] (wlP (dC, dI) (wlT cI cZ cJ cQ) (wl_fM_claiming cI cZ cJ cQ a_0 a_0cells a_0owner a_0s a_0before a_0slots a_0isKept a_0buffer a_0code a_0table a_0isOver a_0isRuled a_0all a_0some a_0chosen a_0last a_0corner a_0wide a_0cuts a_0aside known_0 length_0 thrown_0 many_0 round_0 seed_0 hash_0 cells_0 owner_0) sz)) (va_Qi (fun (v : Int32) (_ : Unit) => v = out) (wlQ (dC, dI) (va_A (wl_fM_claiming cI cZ cJ cQ a_0 a_0cells a_0owner a_0s a_0before a_0slots a_0isKept a_0buffer a_0code a_0table a_0isOver a_0isRuled a_0all a_0some a_0chosen a_0last a_0corner a_0wide a_0cuts a_0aside known_0 length_0 thrown_0 many_0 round_0 seed_0 hash_0 cells_0 owner_0) sz) (wl_fM_claiming cI cZ cJ cQ a_0 a_0cells a_0owner a_0s a_0before a_0slots a_0isKept a_0buffer a_0code a_0table a_0isOver a_0isRuled a_0all a_0some a_0chosen a_0last a_0corner a_0wide a_0cuts a_0aside known_0 length_0 thrown_0 many_0 round_0 seed_0 hash_0 cells_0 owner_0)) (va_A (wl_fM_claiming cI cZ cJ cQ a_0 a_0cells a_0owner a_0s a_0before a_0slots a_0isKept a_0buffer a_0code a_0table a_0isOver a_0isRuled a_0all a_0some a_0chosen a_0last a_0corner a_0wide a_0cuts a_0aside known_0 length_0 thrown_0 many_0 round_0 seed_0 hash_0 cells_0 owner_0) sz)) 0 0 (va_A (wl_fM_claiming cI cZ cJ cQ a_0 a_0cells a_0owner a_0s a_0before a_0slots a_0isKept a_0buffer a_0code a_0table a_0isOver a_0isRuled a_0all a_0some a_0chosen a_0last a_0corner a_0wide a_0cuts a_0aside known_0 length_0 thrown_0 many_0 round_0 seed_0 hash_0 cells_0 owner_0) sz) := by
  refine wh_ofWi (lv := [(0, .ref a_0), (1, .int x1)]) RX10 (by decide) rfl rfl (Nat.le_of_ble_eq_true rfl) rfl ?_
  intro p e s m below meth c A QQ hx hb hml hown hts hP hK hN hD hA hret ls hl
  have hS : va_S A s.heap s.heap [] := va_S.rf
  have hiX10 : ∀ w ∈ wsX100, w ∈ wsX10_claiming := (fun _ h => List.mem_cons_of_mem _ (List.mem_append_right _ (h)))
  unfold fM_claiming at hf
  refine lv_lconst (v := 0) hx hb dX10_claiming_0 (by decide) ?_
  refine lv_lstore_n (lv' := [(2, .long (0 : Int64)), (0, .ref a_0), (1, .int x1)]) hx hb dX10_claiming_1 rfl hl (by decide) rfl (fun ls hl => ?_)
  refine lv_iconst (v := 0) hx hb dX10_claiming_2 (by decide) ?_
  refine lv_istore (lv' := [(4, .int (0 : Int32)), (2, .long (0 : Int64)), (0, .ref a_0), (1, .int x1)]) hx hb dX10_claiming_3 hl (by decide) rfl (fun ls hl => ?_)
  obtain ⟨r5, h_r5, hf⟩ := hf_bind hf
  have hE_1 : ∀ (H : Heap) (locs : List Loc) (ls : Array Slot), lv_has ls 5 [(2, .long r5.1)] → va_P (dC, dI) vwCl (wl_fM_claiming cI cZ cJ cQ a_0 a_0cells a_0owner a_0s a_0before a_0slots a_0isKept a_0buffer a_0code a_0table a_0isOver a_0isRuled a_0all a_0some a_0chosen a_0last a_0corner a_0wide a_0cuts a_0aside known_0 length_0 thrown_0 many_0 round_0 seed_0 hash_0 cells_0 owner_0) H → va_D A (wl_fM_claiming cI cZ cJ cQ a_0 a_0cells a_0owner a_0s a_0before a_0slots a_0isKept a_0buffer a_0code a_0table a_0isOver a_0isRuled a_0all a_0some a_0chosen a_0last a_0corner a_0wide a_0cuts a_0aside known_0 length_0 thrown_0 many_0 round_0 seed_0 hash_0 cells_0 owner_0) → va_S A s.heap H locs → W p l e ({ frames := 2, cells := 0, slots := 0, locals := 45 } : Room) s m [.ref a_0, .int x1].toArray below meth c H locs 0 0 QQ (F0 m 50 ls []) := by
    intro H locs ls hl hP hD hS
    refine lv_lload_n hx hb dX10_claiming_50 rfl (lv_at hl 0 rfl) ?_
    obtain ⟨s6, h_s6, hf⟩ := hf_bind hf
    refine wh_calli (D := (dC, dI)) (ws' := (wl_fM_claiming cI cZ cJ cQ a_0 a_0cells a_0owner a_0s a_0before a_0slots a_0isKept a_0buffer a_0code a_0table a_0isOver a_0isRuled a_0all a_0some a_0chosen a_0last a_0corner a_0wide a_0cuts a_0aside known_0 length_0 thrown_0 many_0 round_0 seed_0 hash_0 cells_0 owner_0)) (va_runS (As := [.long r5.1]) (rest := []) ⟨hx, hb, hml, hown, hts⟩ (c_fM_bits l dC dI cI cZ cJ cQ _ h_s6) (va_cwS 1 hts gX10_claiming_X10_bits rfl rfl rfl (by decide +kernel) ⟨Nat.le_of_ble_eq_true rfl, Nat.le_of_ble_eq_true rfl⟩) (wh_preS hK hN hP hD [] rfl rfl) rfl rfl hl.1 rfl (lv_room (Nat.le_of_ble_eq_true rfl)) dX10_claiming_51 ⟨Nat.le_refl _, Nat.le_refl _⟩) hP hD hS hA [] [0, 1, 2] [0, 1, 2] rfl rfl rfl rfl (fun H locs hP hD hS => ?_)
    obtain rfl := Option.some.inj hf
    exact hret _ _ _ _ hP hD hS dX10_claiming_54
  have hL_2 : ∀ (N : Nat) (l2_3 : Int64) (l4_4 : Int32), fM_claiming_L5 F x1 many_0 cells_0 owner_0 N l2_3 l4_4 = some r5 → ∀ (H : Heap) (locs : List Loc) (ls : Array Slot), lv_has ls 5 [(0, .ref a_0), (1, .int x1), (2, .long l2_3), (4, .int l4_4)] → va_P (dC, dI) vwCl (wl_fM_claiming cI cZ cJ cQ a_0 a_0cells a_0owner a_0s a_0before a_0slots a_0isKept a_0buffer a_0code a_0table a_0isOver a_0isRuled a_0all a_0some a_0chosen a_0last a_0corner a_0wide a_0cuts a_0aside known_0 length_0 thrown_0 many_0 round_0 seed_0 hash_0 cells_0 owner_0) H → va_D A (wl_fM_claiming cI cZ cJ cQ a_0 a_0cells a_0owner a_0s a_0before a_0slots a_0isKept a_0buffer a_0code a_0table a_0isOver a_0isRuled a_0all a_0some a_0chosen a_0last a_0corner a_0wide a_0cuts a_0aside known_0 length_0 thrown_0 many_0 round_0 seed_0 hash_0 cells_0 owner_0) → va_S A s.heap H locs → W p l e ({ frames := 2, cells := 0, slots := 0, locals := 45 } : Room) s m [.ref a_0, .int x1].toArray below meth c H locs 0 0 QQ (F0 m 5 ls []) := by
    intro N
    induction N with
    | zero => intro l2_3 l4_4 hf; exact nomatch (show none = some _ from hf)
    | succ N ih =>
      intro l2_3 l4_4 hf H locs ls hl hP hD hS
      rw [fM_claiming_L5] at hf
      refine lv_iload hx hb dX10_claiming_5 (lv_at hl 3 rfl) ?_
      refine lv_aload_n hx hb dX10_claiming_7 rfl (lv_at hl 0 rfl) ?_
      refine va_get (D := (dC, dI)) (ci := 10) (C := RX10) (T := TX10) (N := 26) hx hb hts hiX10 hown hK hP 0 rfl rfl 11 (by decide) (hts (.fieldLink RX10 102 "PaddockFieldsModel" "many" "I") (List.mem_cons_of_mem _ (List.mem_append_left _ (List.mem_of_getElem? (i := 0) rfl)))) (fun _ h9 => h9) rfl dX10_claiming_8 ?_
      refine lv_icmp_ge (tgt := 50) hx hb dX10_claiming_11 (by decide) (fun cc => ?_) (fun cc => ?_)
      · replace hf := hf_pos cc hf
        obtain rfl := Option.some.inj hf
        exact hE_1 _ _ _ (lv_sub hl [2] rfl) hP hD hS
      · replace hf := hf_neg cc hf
        refine lv_lload_n hx hb dX10_claiming_14 rfl (lv_at hl 2 rfl) ?_
        refine lv_aload_n hx hb dX10_claiming_15 rfl (lv_at hl 0 rfl) ?_
        refine va_get (D := (dC, dI)) (ci := 10) (C := RX10) (T := TX10) (N := 26) hx hb hts hiX10 hown hK hP 0 rfl rfl 8 (by decide) (hts (.fieldLink RX10 26 "PaddockFieldsModel" "cells" "[J") (List.mem_cons_of_mem _ (List.mem_append_left _ (List.mem_of_getElem? (i := 1) rfl)))) (fun _ h9 => h9) rfl dX10_claiming_16 ?_
        refine lv_iload hx hb dX10_claiming_19 (lv_at hl 3 rfl) ?_
        obtain ⟨v1, h_v1, hf⟩ := hf_bind hf
        refine wh_ldJ (D := (dC, dI)) hx hb hK hP 1 2 rfl rfl h_v1 dX10_claiming_21 ?_
        refine lv_iload_n hx hb dX10_claiming_22 rfl (lv_at hl 1 rfl) ?_
        obtain ⟨s2, h_s2, hf⟩ := hf_bind hf
        refine wh_calli (D := (dC, dI)) (ws' := (wl_fM_claiming cI cZ cJ cQ a_0 a_0cells a_0owner a_0s a_0before a_0slots a_0isKept a_0buffer a_0code a_0table a_0isOver a_0isRuled a_0all a_0some a_0chosen a_0last a_0corner a_0wide a_0cuts a_0aside known_0 length_0 thrown_0 many_0 round_0 seed_0 hash_0 cells_0 owner_0)) (va_runS (As := [.long v1, .int x1]) (rest := [.long l2_3]) ⟨hx, hb, hml, hown, hts⟩ (c_fM_has l dC dI cI cZ cJ cQ _ h_s2) (va_cwS 2 hts gX10_claiming_X10_has rfl rfl rfl (by decide +kernel) ⟨Nat.le_of_ble_eq_true rfl, Nat.le_of_ble_eq_true rfl⟩) (wh_preS hK hN hP hD [] rfl rfl) rfl rfl hl.1 rfl (lv_room (Nat.le_of_ble_eq_true rfl)) dX10_claiming_23 ⟨Nat.le_refl _, Nat.le_refl _⟩) hP hD hS hA [] [0, 1, 2] [0, 1, 2] rfl rfl rfl rfl (fun H locs hP hD hS => ?_)
        obtain ⟨j4, h_j4, hf⟩ := hf_bind hf
        have hJ_5 : ∀ (H : Heap) (locs : List Loc) (ls : Array Slot), lv_has ls 5 [(0, .ref a_0), (1, .int x1), (4, .int l4_4)] → va_P (dC, dI) vwCl (wl_fM_claiming cI cZ cJ cQ a_0 a_0cells a_0owner a_0s a_0before a_0slots a_0isKept a_0buffer a_0code a_0table a_0isOver a_0isRuled a_0all a_0some a_0chosen a_0last a_0corner a_0wide a_0cuts a_0aside known_0 length_0 thrown_0 many_0 round_0 seed_0 hash_0 cells_0 owner_0) H → va_D A (wl_fM_claiming cI cZ cJ cQ a_0 a_0cells a_0owner a_0s a_0before a_0slots a_0isKept a_0buffer a_0code a_0table a_0isOver a_0isRuled a_0all a_0some a_0chosen a_0last a_0corner a_0wide a_0cuts a_0aside known_0 length_0 thrown_0 many_0 round_0 seed_0 hash_0 cells_0 owner_0) → va_S A s.heap H locs → W p l e ({ frames := 2, cells := 0, slots := 0, locals := 45 } : Room) s m [.ref a_0, .int x1].toArray below meth c H locs 0 0 QQ (F0 m 42 ls [.long j4, .long l2_3]) := by
          intro H locs ls hl hP hD hS
          refine lv_lor hx hb dX10_claiming_42 ?_
          refine lv_lstore_n (lv' := [(2, .long (l2_3 ||| j4)), (0, .ref a_0), (1, .int x1), (4, .int l4_4)]) hx hb dX10_claiming_43 rfl hl (by decide) rfl (fun ls hl => ?_)
          refine lv_iinc (v := (l4_4 + (1 : Int32))) (lv' := [(4, .int (l4_4 + (1 : Int32))), (2, .long (l2_3 ||| j4)), (0, .ref a_0), (1, .int x1)]) hx hb dX10_claiming_44 hl (k := 3) rfl rfl (by decide) rfl (fun ls hl => ?_)
          refine lv_goto (tgt := 5) hx hb dX10_claiming_47 (by decide) ?_
          exact ih _ _ hf _ _ _ (lv_sub hl [2, 3, 1, 0] rfl) hP hD hS
        clear hf
        have hf := h_j4
        clear h_j4
        refine lv_if_eq (tgt := 41) hx hb dX10_claiming_26 (by decide) (fun cc => ?_) (fun cc => ?_)
        · replace hf := hf_pos cc hf
          refine lv_lconst (v := 0) hx hb dX10_claiming_41 (by decide) ?_
          obtain rfl := Option.some.inj hf
          exact hJ_5 _ _ _ (lv_sub hl [0, 1, 3] rfl) hP hD hS
        · replace hf := hf_neg cc hf
          refine lv_lconst (v := 1) hx hb dX10_claiming_29 (by decide) ?_
          refine lv_aload_n hx hb dX10_claiming_30 rfl (lv_at hl 0 rfl) ?_
          refine va_get (D := (dC, dI)) (ci := 10) (C := RX10) (T := TX10) (N := 26) hx hb hts hiX10 hown hK hP 0 rfl rfl 9 (by decide) (hts (.fieldLink RX10 30 "PaddockFieldsModel" "owner" "[I") (List.mem_cons_of_mem _ (List.mem_append_left _ (List.mem_of_getElem? (i := 2) rfl)))) (fun _ h9 => h9) rfl dX10_claiming_31 ?_
          refine lv_iload hx hb dX10_claiming_34 (lv_at hl 3 rfl) ?_
          obtain ⟨v3, h_v3, hf⟩ := hf_bind hf
          refine wh_ldI (D := (dC, dI)) hx hb hK hP 2 0 rfl rfl h_v3 dX10_claiming_36 ?_
          refine lv_lshl hx hb dX10_claiming_37 rfl ?_
          refine lv_goto (tgt := 42) hx hb dX10_claiming_38 (by decide) ?_
          obtain rfl := Option.some.inj hf
          exact hJ_5 _ _ _ (lv_sub hl [0, 1, 3] rfl) hP hD hS
  exact hL_2 _ _ _ h_r5 _ _ _ (lv_sub hl [2, 3, 1, 0] rfl) hP hD hS
set_option maxHeartbeats 4000000 in
set_option maxRecDepth 100000 in
theorem c_fM_coveredBy (l : Launch) (dC : Nat → ClassId) (dI : Nat → Nat → Nat) (cI cZ cJ cQ : ClassId) (a_0 a_0s a_0table a_0cells a_0owner a_0code a_0before a_0slots a_0isKept a_0buffer a_0isOver a_0isRuled a_0all a_0some a_0chosen a_0last a_0corner a_0wide a_0cuts a_0aside : Nat) (known_0 : Int32) (length_0 : Int32) (round_0 : Int32) (seed_0 : Int64) (hash_0 : Int64) (sz : Nat) {F : Nat} {x1 : Int32} {x2 : Int32} {s_0 : Nat → Int32} {thrown_0 : Int32} {many_0 : Int32} {table_0 : Nat → Int32} {cells_0 : Nat → Int64} {owner_0 : Nat → Int32} {code_0 : Nat → Int32} {out : Int32 × Int32 × Int32 × (Nat → Int32) × (Nat → Int64) × (Nat → Int32) × (Nat → Int32)} (hf : fM_coveredBy F x1 x2 s_0 thrown_0 many_0 table_0 cells_0 owner_0 code_0 = some out) : Met l yX10_coveredBy wsX10_coveredBy ({ frames := 3, cells := 0, slots := 0, locals := 87 } : Room) (va_Pc [.ref a_0, .int x1, .int x2] (wlP (dC, dI) (wlT cI cZ cJ cQ) (wl_fM_coveredBy cI cZ cJ cQ a_0 a_0s a_0table a_0cells a_0owner a_0code a_0before a_0slots a_0isKept a_0buffer a_0isOver a_0isRuled a_0all a_0some a_0chosen a_0last a_0corner a_0wide a_0cuts a_0aside known_0 length_0 thrown_0 many_0 round_0 seed_0 hash_0 s_0 table_0 cells_0 owner_0 code_0) sz)) (va_Qi (fun (v : Int32) (_ : Unit) => v = out.1) (wlQ (dC, dI) (va_A (wl_fM_coveredBy cI cZ cJ cQ a_0 a_0s a_0table a_0cells a_0owner a_0code a_0before a_0slots a_0isKept a_0buffer a_0isOver a_0isRuled a_0all a_0some a_0chosen a_0last a_0corner a_0wide a_0cuts a_0aside known_0 length_0 thrown_0 many_0 round_0 seed_0 hash_0 s_0 table_0 cells_0 owner_0 code_0) sz) (wl_fM_coveredBy cI cZ cJ cQ a_0 a_0s a_0table a_0cells a_0owner a_0code a_0before a_0slots a_0isKept a_0buffer a_0isOver a_0isRuled a_0all a_0some a_0chosen a_0last a_0corner a_0wide a_0cuts a_0aside known_0 length_0 out.2.1 out.2.2.1 round_0 seed_0 hash_0 s_0 out.2.2.2.1 out.2.2.2.2.1 out.2.2.2.2.2.1 out.2.2.2.2.2.2)) (va_A (wl_fM_coveredBy cI cZ cJ cQ a_0 a_0s a_0table a_0cells a_0owner a_0code a_0before a_0slots a_0isKept a_0buffer a_0isOver a_0isRuled a_0all a_0some a_0chosen a_0last a_0corner a_0wide a_0cuts a_0aside known_0 length_0 thrown_0 many_0 round_0 seed_0 hash_0 s_0 table_0 cells_0 owner_0 code_0) sz)) 0 0 (va_A (wl_fM_coveredBy cI cZ cJ cQ a_0 a_0s a_0table a_0cells a_0owner a_0code a_0before a_0slots a_0isKept a_0buffer a_0isOver a_0isRuled a_0all a_0some a_0chosen a_0last a_0corner a_0wide a_0cuts a_0aside known_0 length_0 thrown_0 many_0 round_0 seed_0 hash_0 s_0 table_0 cells_0 owner_0 code_0) sz) := by
  refine wh_ofWi (lv := [(0, .ref a_0), (1, .int x1), (2, .int x2)]) RX10 (by decide) rfl rfl (Nat.le_of_ble_eq_true rfl) rfl ?_
  intro p e s m below meth c A QQ hx hb hml hown hts hP hK hN hD hA hret ls hl
  have hS : va_S A s.heap s.heap [] := va_S.rf
  unfold fM_coveredBy at hf
  refine lv_aload_n hx hb dX10_coveredBy_0 rfl (lv_at hl 0 rfl) ?_
  refine lv_iload_n hx hb dX10_coveredBy_1 rfl (lv_at hl 1 rfl) ?_
  refine lv_iload_n hx hb dX10_coveredBy_2 rfl (lv_at hl 2 rfl) ?_
  refine lv_iconst (v := 0) hx hb dX10_coveredBy_3 (by decide) ?_
  obtain ⟨s1, h_s1, hf⟩ := hf_bind hf
  refine wh_calli (D := (dC, dI)) (ws' := (wl_fM_coveredBy cI cZ cJ cQ a_0 a_0s a_0table a_0cells a_0owner a_0code a_0before a_0slots a_0isKept a_0buffer a_0isOver a_0isRuled a_0all a_0some a_0chosen a_0last a_0corner a_0wide a_0cuts a_0aside known_0 length_0 s1.2 many_0 round_0 seed_0 hash_0 s_0 table_0 cells_0 owner_0 code_0)) (va_runV (As := [.int x1, .int x2, .int (0 : Int32)]) (rest := []) ⟨hx, hb, hml, hown, hts⟩ (c_fM_isThere l dC dI cI cZ cJ cQ a_0 a_0s a_0before a_0slots a_0isKept a_0buffer a_0cells a_0owner a_0code a_0table a_0isOver a_0isRuled a_0all a_0some a_0chosen a_0last a_0corner a_0wide a_0cuts a_0aside known_0 length_0 many_0 round_0 seed_0 hash_0 _ h_s1) (cwV 3 hts gX10_coveredBy_X10_isThere rfl rfl rfl (by decide +kernel) ⟨Nat.le_of_ble_eq_true rfl, Nat.le_of_ble_eq_true rfl⟩) (wh_preV (C := RX10) (T := TX10) (N := 26) hK hN hP hD [0, 1] rfl rfl 10 0 rfl rfl) rfl rfl hl.1 rfl (lv_room (Nat.le_of_ble_eq_true rfl)) dX10_coveredBy_4 ⟨Nat.le_refl _, Nat.le_refl _⟩) hP hD hS hA [0, 1] [2, 3, 4, 5] [4, 5, 0, 1, 2, 3] rfl rfl rfl rfl (fun H locs hP hD hS => ?_)
  refine lv_if_ne (tgt := 12) hx hb dX10_coveredBy_7 (by decide) (fun cc => ?_) (fun cc => ?_)
  · replace hf := hf_pos cc hf
    refine lv_aload_n hx hb dX10_coveredBy_12 rfl (lv_at hl 0 rfl) ?_
    obtain ⟨s2, h_s2, hf⟩ := hf_bind hf
    refine wh_callv (D := (dC, dI)) (ws' := (wl_fM_coveredBy cI cZ cJ cQ a_0 a_0s a_0table a_0cells a_0owner a_0code a_0before a_0slots a_0isKept a_0buffer a_0isOver a_0isRuled a_0all a_0some a_0chosen a_0last a_0corner a_0wide a_0cuts a_0aside known_0 length_0 s1.2 s2.1 round_0 seed_0 hash_0 s_0 s2.2.1 s2.2.2.1 s2.2.2.2.1 s2.2.2.2.2)) (va_runV (As := []) (rest := []) ⟨hx, hb, hml, hown, hts⟩ (c_fM_finds l dC dI cI cZ cJ cQ a_0 a_0table a_0s a_0cells a_0owner a_0code a_0before a_0slots a_0isKept a_0buffer a_0isOver a_0isRuled a_0all a_0some a_0chosen a_0last a_0corner a_0wide a_0cuts a_0aside known_0 length_0 s1.2 round_0 seed_0 hash_0 _ h_s2) (cwV 0 hts gX10_coveredBy_X10_finds rfl rfl rfl (by decide +kernel) ⟨Nat.le_of_ble_eq_true rfl, Nat.le_of_ble_eq_true rfl⟩) (wh_preV (C := RX10) (T := TX10) (N := 26) hK hN hP hD [0, 2, 1, 3, 4, 5] rfl rfl 10 0 rfl rfl) rfl rfl hl.1 rfl (lv_room (Nat.le_of_ble_eq_true rfl)) dX10_coveredBy_13 ⟨Nat.le_refl _, Nat.le_refl _⟩) hP hD hS hA [0, 2, 1, 3, 4, 5] [] [0, 2, 1, 3, 4, 5] rfl rfl rfl rfl (fun H locs hP hD hS => ?_)
    refine lv_aload_n hx hb dX10_coveredBy_16 rfl (lv_at hl 0 rfl) ?_
    refine lv_bipush (v := 7) hx hb dX10_coveredBy_17 (by decide) ?_
    refine lv_iload_n hx hb dX10_coveredBy_19 rfl (lv_at hl 1 rfl) ?_
    refine lv_imul hx hb dX10_coveredBy_20 ?_
    refine lv_iload_n hx hb dX10_coveredBy_21 rfl (lv_at hl 2 rfl) ?_
    refine lv_iadd hx hb dX10_coveredBy_22 ?_
    obtain ⟨s3, h_s3, hf⟩ := hf_bind hf
    refine wh_calli (D := (dC, dI)) (ws' := (wl_fM_coveredBy cI cZ cJ cQ a_0 a_0s a_0table a_0cells a_0owner a_0code a_0before a_0slots a_0isKept a_0buffer a_0isOver a_0isRuled a_0all a_0some a_0chosen a_0last a_0corner a_0wide a_0cuts a_0aside known_0 length_0 s1.2 s2.1 round_0 seed_0 hash_0 s_0 s2.2.1 s2.2.2.1 s2.2.2.2.1 s2.2.2.2.2)) (va_runV (As := [.int (((7 : Int32) * x1) + x2)]) (rest := []) ⟨hx, hb, hml, hown, hts⟩ (c_fM_covering l dC dI cI cZ cJ cQ a_0 a_0cells a_0s a_0before a_0slots a_0isKept a_0buffer a_0owner a_0code a_0table a_0isOver a_0isRuled a_0all a_0some a_0chosen a_0last a_0corner a_0wide a_0cuts a_0aside known_0 length_0 s1.2 round_0 seed_0 hash_0 _ h_s3) (cwV 1 hts gX10_coveredBy_X10_covering rfl rfl rfl (by decide +kernel) ⟨Nat.le_of_ble_eq_true rfl, Nat.le_of_ble_eq_true rfl⟩) (wh_preV (C := RX10) (T := TX10) (N := 26) hK hN hP hD [0, 3] rfl rfl 10 0 rfl rfl) rfl rfl hl.1 rfl (lv_room (Nat.le_of_ble_eq_true rfl)) dX10_coveredBy_23 ⟨Nat.le_refl _, Nat.le_refl _⟩) hP hD hS hA [0, 3] [1, 2, 4, 5] [4, 0, 1, 5, 2, 3] rfl rfl rfl rfl (fun H locs hP hD hS => ?_)
    obtain rfl := Option.some.inj hf
    exact hret _ _ _ _ hP hD hS dX10_coveredBy_26
  · replace hf := hf_neg (not_not_intro cc) hf
    refine lv_iconst (v := 0) hx hb dX10_coveredBy_10 (by decide) ?_
    obtain rfl := Option.some.inj hf
    exact hret _ _ _ _ hP hD hS dX10_coveredBy_11
set_option maxHeartbeats 4000000 in
set_option maxRecDepth 100000 in
theorem c_fM_claimedBy (l : Launch) (dC : Nat → ClassId) (dI : Nat → Nat → Nat) (cI cZ cJ cQ : ClassId) (a_0 a_0s a_0table a_0cells a_0owner a_0code a_0before a_0slots a_0isKept a_0buffer a_0isOver a_0isRuled a_0all a_0some a_0chosen a_0last a_0corner a_0wide a_0cuts a_0aside : Nat) (known_0 : Int32) (length_0 : Int32) (round_0 : Int32) (seed_0 : Int64) (hash_0 : Int64) (sz : Nat) {F : Nat} {x1 : Int32} {x2 : Int32} {s_0 : Nat → Int32} {thrown_0 : Int32} {many_0 : Int32} {table_0 : Nat → Int32} {cells_0 : Nat → Int64} {owner_0 : Nat → Int32} {code_0 : Nat → Int32} {out : Int32 × Int32 × Int32 × (Nat → Int32) × (Nat → Int64) × (Nat → Int32) × (Nat → Int32)} (hf : fM_claimedBy F x1 x2 s_0 thrown_0 many_0 table_0 cells_0 owner_0 code_0 = some out) : Met l yX10_claimedBy wsX10_claimedBy ({ frames := 3, cells := 0, slots := 0, locals := 87 } : Room) (va_Pc [.ref a_0, .int x1, .int x2] (wlP (dC, dI) (wlT cI cZ cJ cQ) (wl_fM_claimedBy cI cZ cJ cQ a_0 a_0s a_0table a_0cells a_0owner a_0code a_0before a_0slots a_0isKept a_0buffer a_0isOver a_0isRuled a_0all a_0some a_0chosen a_0last a_0corner a_0wide a_0cuts a_0aside known_0 length_0 thrown_0 many_0 round_0 seed_0 hash_0 s_0 table_0 cells_0 owner_0 code_0) sz)) (va_Qi (fun (v : Int32) (_ : Unit) => v = out.1) (wlQ (dC, dI) (va_A (wl_fM_claimedBy cI cZ cJ cQ a_0 a_0s a_0table a_0cells a_0owner a_0code a_0before a_0slots a_0isKept a_0buffer a_0isOver a_0isRuled a_0all a_0some a_0chosen a_0last a_0corner a_0wide a_0cuts a_0aside known_0 length_0 thrown_0 many_0 round_0 seed_0 hash_0 s_0 table_0 cells_0 owner_0 code_0) sz) (wl_fM_claimedBy cI cZ cJ cQ a_0 a_0s a_0table a_0cells a_0owner a_0code a_0before a_0slots a_0isKept a_0buffer a_0isOver a_0isRuled a_0all a_0some a_0chosen a_0last a_0corner a_0wide a_0cuts a_0aside known_0 length_0 out.2.1 out.2.2.1 round_0 seed_0 hash_0 s_0 out.2.2.2.1 out.2.2.2.2.1 out.2.2.2.2.2.1 out.2.2.2.2.2.2)) (va_A (wl_fM_claimedBy cI cZ cJ cQ a_0 a_0s a_0table a_0cells a_0owner a_0code a_0before a_0slots a_0isKept a_0buffer a_0isOver a_0isRuled a_0all a_0some a_0chosen a_0last a_0corner a_0wide a_0cuts a_0aside known_0 length_0 thrown_0 many_0 round_0 seed_0 hash_0 s_0 table_0 cells_0 owner_0 code_0) sz)) 0 0 (va_A (wl_fM_claimedBy cI cZ cJ cQ a_0 a_0s a_0table a_0cells a_0owner a_0code a_0before a_0slots a_0isKept a_0buffer a_0isOver a_0isRuled a_0all a_0some a_0chosen a_0last a_0corner a_0wide a_0cuts a_0aside known_0 length_0 thrown_0 many_0 round_0 seed_0 hash_0 s_0 table_0 cells_0 owner_0 code_0) sz) := by
  refine wh_ofWi (lv := [(0, .ref a_0), (1, .int x1), (2, .int x2)]) RX10 (by decide) rfl rfl (Nat.le_of_ble_eq_true rfl) rfl ?_
  intro p e s m below meth c A QQ hx hb hml hown hts hP hK hN hD hA hret ls hl
  have hS : va_S A s.heap s.heap [] := va_S.rf
  unfold fM_claimedBy at hf
  refine lv_aload_n hx hb dX10_claimedBy_0 rfl (lv_at hl 0 rfl) ?_
  refine lv_iload_n hx hb dX10_claimedBy_1 rfl (lv_at hl 1 rfl) ?_
  refine lv_iload_n hx hb dX10_claimedBy_2 rfl (lv_at hl 2 rfl) ?_
  refine lv_iconst (v := 0) hx hb dX10_claimedBy_3 (by decide) ?_
  obtain ⟨s1, h_s1, hf⟩ := hf_bind hf
  refine wh_calli (D := (dC, dI)) (ws' := (wl_fM_claimedBy cI cZ cJ cQ a_0 a_0s a_0table a_0cells a_0owner a_0code a_0before a_0slots a_0isKept a_0buffer a_0isOver a_0isRuled a_0all a_0some a_0chosen a_0last a_0corner a_0wide a_0cuts a_0aside known_0 length_0 s1.2 many_0 round_0 seed_0 hash_0 s_0 table_0 cells_0 owner_0 code_0)) (va_runV (As := [.int x1, .int x2, .int (0 : Int32)]) (rest := []) ⟨hx, hb, hml, hown, hts⟩ (c_fM_isThere l dC dI cI cZ cJ cQ a_0 a_0s a_0before a_0slots a_0isKept a_0buffer a_0cells a_0owner a_0code a_0table a_0isOver a_0isRuled a_0all a_0some a_0chosen a_0last a_0corner a_0wide a_0cuts a_0aside known_0 length_0 many_0 round_0 seed_0 hash_0 _ h_s1) (cwV 3 hts gX10_claimedBy_X10_isThere rfl rfl rfl (by decide +kernel) ⟨Nat.le_of_ble_eq_true rfl, Nat.le_of_ble_eq_true rfl⟩) (wh_preV (C := RX10) (T := TX10) (N := 26) hK hN hP hD [0, 1] rfl rfl 10 0 rfl rfl) rfl rfl hl.1 rfl (lv_room (Nat.le_of_ble_eq_true rfl)) dX10_claimedBy_4 ⟨Nat.le_refl _, Nat.le_refl _⟩) hP hD hS hA [0, 1] [2, 3, 4, 5] [4, 5, 0, 1, 2, 3] rfl rfl rfl rfl (fun H locs hP hD hS => ?_)
  refine lv_if_ne (tgt := 12) hx hb dX10_claimedBy_7 (by decide) (fun cc => ?_) (fun cc => ?_)
  · replace hf := hf_pos cc hf
    refine lv_aload_n hx hb dX10_claimedBy_12 rfl (lv_at hl 0 rfl) ?_
    obtain ⟨s2, h_s2, hf⟩ := hf_bind hf
    refine wh_callv (D := (dC, dI)) (ws' := (wl_fM_claimedBy cI cZ cJ cQ a_0 a_0s a_0table a_0cells a_0owner a_0code a_0before a_0slots a_0isKept a_0buffer a_0isOver a_0isRuled a_0all a_0some a_0chosen a_0last a_0corner a_0wide a_0cuts a_0aside known_0 length_0 s1.2 s2.1 round_0 seed_0 hash_0 s_0 s2.2.1 s2.2.2.1 s2.2.2.2.1 s2.2.2.2.2)) (va_runV (As := []) (rest := []) ⟨hx, hb, hml, hown, hts⟩ (c_fM_finds l dC dI cI cZ cJ cQ a_0 a_0table a_0s a_0cells a_0owner a_0code a_0before a_0slots a_0isKept a_0buffer a_0isOver a_0isRuled a_0all a_0some a_0chosen a_0last a_0corner a_0wide a_0cuts a_0aside known_0 length_0 s1.2 round_0 seed_0 hash_0 _ h_s2) (cwV 0 hts gX10_claimedBy_X10_finds rfl rfl rfl (by decide +kernel) ⟨Nat.le_of_ble_eq_true rfl, Nat.le_of_ble_eq_true rfl⟩) (wh_preV (C := RX10) (T := TX10) (N := 26) hK hN hP hD [0, 2, 1, 3, 4, 5] rfl rfl 10 0 rfl rfl) rfl rfl hl.1 rfl (lv_room (Nat.le_of_ble_eq_true rfl)) dX10_claimedBy_13 ⟨Nat.le_refl _, Nat.le_refl _⟩) hP hD hS hA [0, 2, 1, 3, 4, 5] [] [0, 2, 1, 3, 4, 5] rfl rfl rfl rfl (fun H locs hP hD hS => ?_)
    refine lv_aload_n hx hb dX10_claimedBy_16 rfl (lv_at hl 0 rfl) ?_
    refine lv_bipush (v := 7) hx hb dX10_claimedBy_17 (by decide) ?_
    refine lv_iload_n hx hb dX10_claimedBy_19 rfl (lv_at hl 1 rfl) ?_
    refine lv_imul hx hb dX10_claimedBy_20 ?_
    refine lv_iload_n hx hb dX10_claimedBy_21 rfl (lv_at hl 2 rfl) ?_
    refine lv_iadd hx hb dX10_claimedBy_22 ?_
    obtain ⟨s3, h_s3, hf⟩ := hf_bind hf
    refine wh_calli (D := (dC, dI)) (ws' := (wl_fM_claimedBy cI cZ cJ cQ a_0 a_0s a_0table a_0cells a_0owner a_0code a_0before a_0slots a_0isKept a_0buffer a_0isOver a_0isRuled a_0all a_0some a_0chosen a_0last a_0corner a_0wide a_0cuts a_0aside known_0 length_0 s1.2 s2.1 round_0 seed_0 hash_0 s_0 s2.2.1 s2.2.2.1 s2.2.2.2.1 s2.2.2.2.2)) (va_runV (As := [.int (((7 : Int32) * x1) + x2)]) (rest := []) ⟨hx, hb, hml, hown, hts⟩ (c_fM_claiming l dC dI cI cZ cJ cQ a_0 a_0cells a_0owner a_0s a_0before a_0slots a_0isKept a_0buffer a_0code a_0table a_0isOver a_0isRuled a_0all a_0some a_0chosen a_0last a_0corner a_0wide a_0cuts a_0aside known_0 length_0 s1.2 round_0 seed_0 hash_0 _ h_s3) (cwV 1 hts gX10_claimedBy_X10_claiming rfl rfl rfl (by decide +kernel) ⟨Nat.le_of_ble_eq_true rfl, Nat.le_of_ble_eq_true rfl⟩) (wh_preV (C := RX10) (T := TX10) (N := 26) hK hN hP hD [0, 3, 4] rfl rfl 10 0 rfl rfl) rfl rfl hl.1 rfl (lv_room (Nat.le_of_ble_eq_true rfl)) dX10_claimedBy_23 ⟨Nat.le_refl _, Nat.le_refl _⟩) hP hD hS hA [0, 3, 4] [1, 2, 5] [3, 0, 1, 4, 5, 2] rfl rfl rfl rfl (fun H locs hP hD hS => ?_)
    obtain rfl := Option.some.inj hf
    exact hret _ _ _ _ hP hD hS dX10_claimedBy_26
  · replace hf := hf_neg (not_not_intro cc) hf
    refine lv_iconst (v := 0) hx hb dX10_claimedBy_10 (by decide) ?_
    obtain rfl := Option.some.inj hf
    exact hret _ _ _ _ hP hD hS dX10_claimedBy_11
set_option maxHeartbeats 4000000 in
set_option maxRecDepth 100000 in
theorem c_fM_possible (l : Launch) (dC : Nat → ClassId) (dI : Nat → Nat → Nat) (cI cZ cJ cQ : ClassId) (a_0 a_0table a_0s a_0cells a_0owner a_0code a_0before a_0slots a_0isKept a_0buffer a_0isOver a_0isRuled a_0all a_0some a_0chosen a_0last a_0corner a_0wide a_0cuts a_0aside : Nat) (known_0 : Int32) (length_0 : Int32) (round_0 : Int32) (seed_0 : Int64) (hash_0 : Int64) (sz : Nat) {F : Nat} {thrown_0 : Int32} {many_0 : Int32} {table_0 : Nat → Int32} {s_0 : Nat → Int32} {cells_0 : Nat → Int64} {owner_0 : Nat → Int32} {code_0 : Nat → Int32} {out : Int32 × Int32 × Int32 × (Nat → Int32) × (Nat → Int64) × (Nat → Int32) × (Nat → Int32)} (hf : fM_possible F thrown_0 many_0 table_0 s_0 cells_0 owner_0 code_0 = some out) : Met l yX10_possible wsX10_possible ({ frames := 3, cells := 0, slots := 0, locals := 87 } : Room) (va_Pc [.ref a_0] (wlP (dC, dI) (wlT cI cZ cJ cQ) (wl_fM_possible cI cZ cJ cQ a_0 a_0table a_0s a_0cells a_0owner a_0code a_0before a_0slots a_0isKept a_0buffer a_0isOver a_0isRuled a_0all a_0some a_0chosen a_0last a_0corner a_0wide a_0cuts a_0aside known_0 length_0 thrown_0 many_0 round_0 seed_0 hash_0 table_0 s_0 cells_0 owner_0 code_0) sz)) (va_Qi (fun (v : Int32) (_ : Unit) => v = out.1) (wlQ (dC, dI) (va_A (wl_fM_possible cI cZ cJ cQ a_0 a_0table a_0s a_0cells a_0owner a_0code a_0before a_0slots a_0isKept a_0buffer a_0isOver a_0isRuled a_0all a_0some a_0chosen a_0last a_0corner a_0wide a_0cuts a_0aside known_0 length_0 thrown_0 many_0 round_0 seed_0 hash_0 table_0 s_0 cells_0 owner_0 code_0) sz) (wl_fM_possible cI cZ cJ cQ a_0 a_0table a_0s a_0cells a_0owner a_0code a_0before a_0slots a_0isKept a_0buffer a_0isOver a_0isRuled a_0all a_0some a_0chosen a_0last a_0corner a_0wide a_0cuts a_0aside known_0 length_0 out.2.1 out.2.2.1 round_0 seed_0 hash_0 out.2.2.2.1 s_0 out.2.2.2.2.1 out.2.2.2.2.2.1 out.2.2.2.2.2.2)) (va_A (wl_fM_possible cI cZ cJ cQ a_0 a_0table a_0s a_0cells a_0owner a_0code a_0before a_0slots a_0isKept a_0buffer a_0isOver a_0isRuled a_0all a_0some a_0chosen a_0last a_0corner a_0wide a_0cuts a_0aside known_0 length_0 thrown_0 many_0 round_0 seed_0 hash_0 table_0 s_0 cells_0 owner_0 code_0) sz)) 0 0 (va_A (wl_fM_possible cI cZ cJ cQ a_0 a_0table a_0s a_0cells a_0owner a_0code a_0before a_0slots a_0isKept a_0buffer a_0isOver a_0isRuled a_0all a_0some a_0chosen a_0last a_0corner a_0wide a_0cuts a_0aside known_0 length_0 thrown_0 many_0 round_0 seed_0 hash_0 table_0 s_0 cells_0 owner_0 code_0) sz) := by
  refine wh_ofWi (lv := [(0, .ref a_0)]) RX10 (by decide) rfl rfl (Nat.le_of_ble_eq_true rfl) rfl ?_
  intro p e s m below meth c A QQ hx hb hml hown hts hP hK hN hD hA hret ls hl
  have hS : va_S A s.heap s.heap [] := va_S.rf
  have hiX10 : ∀ w ∈ wsX100, w ∈ wsX10_possible := (fun _ h => List.mem_cons_of_mem _ (List.mem_append_right _ (h)))
  unfold fM_possible at hf
  refine lv_aload_n hx hb dX10_possible_0 rfl (lv_at hl 0 rfl) ?_
  refine lv_iconst (v := 0) hx hb dX10_possible_1 (by decide) ?_
  refine wh_put (D := (dC, dI)) (ci := 10) (C := RX10) (T := TX10) (N := 26) (ty := .int) (v := .int (0 : Int32)) (ws' := (wl_fM_possible cI cZ cJ cQ a_0 a_0table a_0s a_0cells a_0owner a_0code a_0before a_0slots a_0isKept a_0buffer a_0isOver a_0isRuled a_0all a_0some a_0chosen a_0last a_0corner a_0wide a_0cuts a_0aside known_0 length_0 (0 : Int32) many_0 round_0 seed_0 hash_0 table_0 s_0 cells_0 owner_0 code_0)) hx hb hts hiX10 tyX10 tyX10_ok nmX10 hown hK hP hD hS 0 rfl rfl 7 (by decide) (hts (.fieldLink RX10 69 "PaddockFieldsModel" "thrown" "I") (List.mem_cons_of_mem _ (List.mem_append_left _ (List.mem_append_left _ (List.mem_of_getElem? (i := 0) rfl))))) (fun _ h9 => h9) rfl rfl rfl rfl (Nat.le_of_ble_eq_true rfl) rfl dX10_possible_2 (fun H locs hP hD hS => ?_)
  refine lv_aload_n hx hb dX10_possible_5 rfl (lv_at hl 0 rfl) ?_
  obtain ⟨s1, h_s1, hf⟩ := hf_bind hf
  refine wh_callv (D := (dC, dI)) (ws' := (wl_fM_possible cI cZ cJ cQ a_0 a_0table a_0s a_0cells a_0owner a_0code a_0before a_0slots a_0isKept a_0buffer a_0isOver a_0isRuled a_0all a_0some a_0chosen a_0last a_0corner a_0wide a_0cuts a_0aside known_0 length_0 (0 : Int32) s1.1 round_0 seed_0 hash_0 s1.2.1 s_0 s1.2.2.1 s1.2.2.2.1 s1.2.2.2.2)) (va_runV (As := []) (rest := []) ⟨hx, hb, hml, hown, hts⟩ (c_fM_finds l dC dI cI cZ cJ cQ a_0 a_0table a_0s a_0cells a_0owner a_0code a_0before a_0slots a_0isKept a_0buffer a_0isOver a_0isRuled a_0all a_0some a_0chosen a_0last a_0corner a_0wide a_0cuts a_0aside known_0 length_0 (0 : Int32) round_0 seed_0 hash_0 _ h_s1) (cwV 0 hts gX10_possible_X10_finds rfl rfl rfl (by decide +kernel) ⟨Nat.le_of_ble_eq_true rfl, Nat.le_of_ble_eq_true rfl⟩) (wh_preV (C := RX10) (T := TX10) (N := 26) hK hN hP hD [0, 1, 2, 3, 4, 5] rfl rfl 10 0 rfl rfl) rfl rfl hl.1 rfl (lv_room (Nat.le_of_ble_eq_true rfl)) dX10_possible_6 ⟨Nat.le_refl _, Nat.le_refl _⟩) hP hD hS hA [0, 1, 2, 3, 4, 5] [] [0, 1, 2, 3, 4, 5] rfl rfl rfl rfl (fun H locs hP hD hS => ?_)
  refine lv_aload_n hx hb dX10_possible_9 rfl (lv_at hl 0 rfl) ?_
  refine va_get (D := (dC, dI)) (ci := 10) (C := RX10) (T := TX10) (N := 26) hx hb hts hiX10 hown hK hP 0 rfl rfl 11 (by decide) (hts (.fieldLink RX10 102 "PaddockFieldsModel" "many" "I") (List.mem_cons_of_mem _ (List.mem_append_left _ (List.mem_append_left _ (List.mem_of_getElem? (i := 1) rfl))))) (fun _ h9 => h9) rfl dX10_possible_10 ?_
  obtain rfl := Option.some.inj hf
  exact hret _ _ _ _ hP hD hS dX10_possible_13
set_option maxHeartbeats 4000000 in
set_option maxRecDepth 100000 in
theorem c_fM_rounds (l : Launch) (dC : Nat → ClassId) (dI : Nat → Nat → Nat) (cI cZ cJ cQ : ClassId) (a_0 a_0table a_0s a_0cells a_0owner a_0code a_0isOver a_0all a_0some a_0isRuled a_0before a_0slots a_0isKept a_0buffer a_0chosen a_0last a_0corner a_0wide a_0cuts a_0aside : Nat) (known_0 : Int32) (length_0 : Int32) (seed_0 : Int64) (hash_0 : Int64) (sz : Nat) {F : Nat} {thrown_0 : Int32} {many_0 : Int32} {table_0 : Nat → Int32} {s_0 : Nat → Int32} {cells_0 : Nat → Int64} {owner_0 : Nat → Int32} {code_0 : Nat → Int32} {isOver_0 : Nat → Int32} {round_0 : Int32} {all_0 : Nat → Int64} {some_0 : Nat → Int64} {isRuled_0 : Nat → Int32} {out : Int32 × Int32 × Int32 × (Nat → Int32) × (Nat → Int64) × (Nat → Int32) × (Nat → Int32) × (Nat → Int32) × Int32 × (Nat → Int64) × (Nat → Int64) × (Nat → Int32)} (hf : fM_rounds F thrown_0 many_0 table_0 s_0 cells_0 owner_0 code_0 isOver_0 round_0 all_0 some_0 isRuled_0 = some out) : Met l yX10_rounds wsX10_rounds ({ frames := 4, cells := 0, slots := 0, locals := 109 } : Room) (va_Pc [.ref a_0] (wlP (dC, dI) (wlT cI cZ cJ cQ) (wl_fM_rounds cI cZ cJ cQ a_0 a_0table a_0s a_0cells a_0owner a_0code a_0isOver a_0all a_0some a_0isRuled a_0before a_0slots a_0isKept a_0buffer a_0chosen a_0last a_0corner a_0wide a_0cuts a_0aside known_0 length_0 thrown_0 many_0 round_0 seed_0 hash_0 table_0 s_0 cells_0 owner_0 code_0 isOver_0 all_0 some_0 isRuled_0) sz)) (va_Qi (fun (v : Int32) (_ : Unit) => v = out.1) (wlQ (dC, dI) (va_A (wl_fM_rounds cI cZ cJ cQ a_0 a_0table a_0s a_0cells a_0owner a_0code a_0isOver a_0all a_0some a_0isRuled a_0before a_0slots a_0isKept a_0buffer a_0chosen a_0last a_0corner a_0wide a_0cuts a_0aside known_0 length_0 thrown_0 many_0 round_0 seed_0 hash_0 table_0 s_0 cells_0 owner_0 code_0 isOver_0 all_0 some_0 isRuled_0) sz) (wl_fM_rounds cI cZ cJ cQ a_0 a_0table a_0s a_0cells a_0owner a_0code a_0isOver a_0all a_0some a_0isRuled a_0before a_0slots a_0isKept a_0buffer a_0chosen a_0last a_0corner a_0wide a_0cuts a_0aside known_0 length_0 out.2.1 out.2.2.1 out.2.2.2.2.2.2.2.2.1 seed_0 hash_0 out.2.2.2.1 s_0 out.2.2.2.2.1 out.2.2.2.2.2.1 out.2.2.2.2.2.2.1 out.2.2.2.2.2.2.2.1 out.2.2.2.2.2.2.2.2.2.1 out.2.2.2.2.2.2.2.2.2.2.1 out.2.2.2.2.2.2.2.2.2.2.2)) (va_A (wl_fM_rounds cI cZ cJ cQ a_0 a_0table a_0s a_0cells a_0owner a_0code a_0isOver a_0all a_0some a_0isRuled a_0before a_0slots a_0isKept a_0buffer a_0chosen a_0last a_0corner a_0wide a_0cuts a_0aside known_0 length_0 thrown_0 many_0 round_0 seed_0 hash_0 table_0 s_0 cells_0 owner_0 code_0 isOver_0 all_0 some_0 isRuled_0) sz)) 0 0 (va_A (wl_fM_rounds cI cZ cJ cQ a_0 a_0table a_0s a_0cells a_0owner a_0code a_0isOver a_0all a_0some a_0isRuled a_0before a_0slots a_0isKept a_0buffer a_0chosen a_0last a_0corner a_0wide a_0cuts a_0aside known_0 length_0 thrown_0 many_0 round_0 seed_0 hash_0 table_0 s_0 cells_0 owner_0 code_0 isOver_0 all_0 some_0 isRuled_0) sz) := by
  refine wh_ofWi (lv := [(0, .ref a_0)]) RX10 (by decide) rfl rfl (Nat.le_of_ble_eq_true rfl) rfl ?_
  intro p e s m below meth c A QQ hx hb hml hown hts hP hK hN hD hA hret ls hl
  have hS : va_S A s.heap s.heap [] := va_S.rf
  have hiX10 : ∀ w ∈ wsX100, w ∈ wsX10_rounds := (fun _ h => List.mem_cons_of_mem _ (List.mem_append_right _ (h)))
  unfold fM_rounds at hf
  refine lv_aload_n hx hb dX10_rounds_0 rfl (lv_at hl 0 rfl) ?_
  refine lv_iconst (v := 0) hx hb dX10_rounds_1 (by decide) ?_
  refine wh_put (D := (dC, dI)) (ci := 10) (C := RX10) (T := TX10) (N := 26) (ty := .int) (v := .int (0 : Int32)) (ws' := (wl_fM_rounds cI cZ cJ cQ a_0 a_0table a_0s a_0cells a_0owner a_0code a_0isOver a_0all a_0some a_0isRuled a_0before a_0slots a_0isKept a_0buffer a_0chosen a_0last a_0corner a_0wide a_0cuts a_0aside known_0 length_0 (0 : Int32) many_0 round_0 seed_0 hash_0 table_0 s_0 cells_0 owner_0 code_0 isOver_0 all_0 some_0 isRuled_0)) hx hb hts hiX10 tyX10 tyX10_ok nmX10 hown hK hP hD hS 0 rfl rfl 7 (by decide) (hts (.fieldLink RX10 69 "PaddockFieldsModel" "thrown" "I") (List.mem_cons_of_mem _ (List.mem_append_left _ (List.mem_append_left _ (List.mem_of_getElem? (i := 0) rfl))))) (fun _ h9 => h9) rfl rfl rfl rfl (Nat.le_of_ble_eq_true rfl) rfl dX10_rounds_2 (fun H locs hP hD hS => ?_)
  refine lv_aload_n hx hb dX10_rounds_5 rfl (lv_at hl 0 rfl) ?_
  obtain ⟨s1, h_s1, hf⟩ := hf_bind hf
  refine wh_callv (D := (dC, dI)) (ws' := (wl_fM_rounds cI cZ cJ cQ a_0 a_0table a_0s a_0cells a_0owner a_0code a_0isOver a_0all a_0some a_0isRuled a_0before a_0slots a_0isKept a_0buffer a_0chosen a_0last a_0corner a_0wide a_0cuts a_0aside known_0 length_0 (0 : Int32) s1.1 s1.2.2.2.2.2.2.1 seed_0 hash_0 s1.2.1 s_0 s1.2.2.1 s1.2.2.2.1 s1.2.2.2.2.1 s1.2.2.2.2.2.1 s1.2.2.2.2.2.2.2.1 s1.2.2.2.2.2.2.2.2.1 s1.2.2.2.2.2.2.2.2.2)) (va_runV (As := []) (rest := []) ⟨hx, hb, hml, hown, hts⟩ (c_fM_rules l dC dI cI cZ cJ cQ a_0 a_0table a_0s a_0cells a_0owner a_0code a_0isOver a_0all a_0some a_0isRuled a_0before a_0slots a_0isKept a_0buffer a_0chosen a_0last a_0corner a_0wide a_0cuts a_0aside known_0 length_0 (0 : Int32) seed_0 hash_0 _ h_s1) (cwV 0 hts gX10_rounds_X10_rules rfl rfl rfl (by decide +kernel) ⟨Nat.le_of_ble_eq_true rfl, Nat.le_of_ble_eq_true rfl⟩) (wh_preV (C := RX10) (T := TX10) (N := 26) hK hN hP hD [0, 1, 2, 3, 4, 5, 6, 7, 8, 9] rfl rfl 10 0 rfl rfl) rfl rfl hl.1 rfl (lv_room (Nat.le_of_ble_eq_true rfl)) dX10_rounds_6 ⟨Nat.le_refl _, Nat.le_refl _⟩) hP hD hS hA [0, 1, 2, 3, 4, 5, 6, 7, 8, 9] [] [0, 1, 2, 3, 4, 5, 6, 7, 8, 9] rfl rfl rfl rfl (fun H locs hP hD hS => ?_)
  refine lv_aload_n hx hb dX10_rounds_9 rfl (lv_at hl 0 rfl) ?_
  refine va_get (D := (dC, dI)) (ci := 10) (C := RX10) (T := TX10) (N := 26) hx hb hts hiX10 hown hK hP 0 rfl rfl 17 (by decide) (hts (.fieldLink RX10 116 "PaddockFieldsModel" "round" "I") (List.mem_cons_of_mem _ (List.mem_append_left _ (List.mem_append_left _ (List.mem_of_getElem? (i := 1) rfl))))) (fun _ h9 => h9) rfl dX10_rounds_10 ?_
  obtain rfl := Option.some.inj hf
  exact hret _ _ _ _ hP hD hS dX10_rounds_13
set_option maxHeartbeats 4000000 in
set_option maxRecDepth 100000 in
theorem c_fM_leftInTheEnd (l : Launch) (dC : Nat → ClassId) (dI : Nat → Nat → Nat) (cI cZ cJ cQ : ClassId) (a_0 a_0table a_0s a_0cells a_0owner a_0code a_0isOver a_0all a_0some a_0isRuled a_0before a_0slots a_0isKept a_0buffer a_0chosen a_0last a_0corner a_0wide a_0cuts a_0aside : Nat) (known_0 : Int32) (length_0 : Int32) (seed_0 : Int64) (hash_0 : Int64) (sz : Nat) {F : Nat} {thrown_0 : Int32} {many_0 : Int32} {table_0 : Nat → Int32} {s_0 : Nat → Int32} {cells_0 : Nat → Int64} {owner_0 : Nat → Int32} {code_0 : Nat → Int32} {isOver_0 : Nat → Int32} {round_0 : Int32} {all_0 : Nat → Int64} {some_0 : Nat → Int64} {isRuled_0 : Nat → Int32} {out : Int32 × Int32 × Int32 × (Nat → Int32) × (Nat → Int64) × (Nat → Int32) × (Nat → Int32) × (Nat → Int32) × Int32 × (Nat → Int64) × (Nat → Int64) × (Nat → Int32)} (hf : fM_leftInTheEnd F thrown_0 many_0 table_0 s_0 cells_0 owner_0 code_0 isOver_0 round_0 all_0 some_0 isRuled_0 = some out) : Met l yX10_leftInTheEnd wsX10_leftInTheEnd ({ frames := 4, cells := 0, slots := 0, locals := 109 } : Room) (va_Pc [.ref a_0] (wlP (dC, dI) (wlT cI cZ cJ cQ) (wl_fM_leftInTheEnd cI cZ cJ cQ a_0 a_0table a_0s a_0cells a_0owner a_0code a_0isOver a_0all a_0some a_0isRuled a_0before a_0slots a_0isKept a_0buffer a_0chosen a_0last a_0corner a_0wide a_0cuts a_0aside known_0 length_0 thrown_0 many_0 round_0 seed_0 hash_0 table_0 s_0 cells_0 owner_0 code_0 isOver_0 all_0 some_0 isRuled_0) sz)) (va_Qi (fun (v : Int32) (_ : Unit) => v = out.1) (wlQ (dC, dI) (va_A (wl_fM_leftInTheEnd cI cZ cJ cQ a_0 a_0table a_0s a_0cells a_0owner a_0code a_0isOver a_0all a_0some a_0isRuled a_0before a_0slots a_0isKept a_0buffer a_0chosen a_0last a_0corner a_0wide a_0cuts a_0aside known_0 length_0 thrown_0 many_0 round_0 seed_0 hash_0 table_0 s_0 cells_0 owner_0 code_0 isOver_0 all_0 some_0 isRuled_0) sz) (wl_fM_leftInTheEnd cI cZ cJ cQ a_0 a_0table a_0s a_0cells a_0owner a_0code a_0isOver a_0all a_0some a_0isRuled a_0before a_0slots a_0isKept a_0buffer a_0chosen a_0last a_0corner a_0wide a_0cuts a_0aside known_0 length_0 out.2.1 out.2.2.1 out.2.2.2.2.2.2.2.2.1 seed_0 hash_0 out.2.2.2.1 s_0 out.2.2.2.2.1 out.2.2.2.2.2.1 out.2.2.2.2.2.2.1 out.2.2.2.2.2.2.2.1 out.2.2.2.2.2.2.2.2.2.1 out.2.2.2.2.2.2.2.2.2.2.1 out.2.2.2.2.2.2.2.2.2.2.2)) (va_A (wl_fM_leftInTheEnd cI cZ cJ cQ a_0 a_0table a_0s a_0cells a_0owner a_0code a_0isOver a_0all a_0some a_0isRuled a_0before a_0slots a_0isKept a_0buffer a_0chosen a_0last a_0corner a_0wide a_0cuts a_0aside known_0 length_0 thrown_0 many_0 round_0 seed_0 hash_0 table_0 s_0 cells_0 owner_0 code_0 isOver_0 all_0 some_0 isRuled_0) sz)) 0 0 (va_A (wl_fM_leftInTheEnd cI cZ cJ cQ a_0 a_0table a_0s a_0cells a_0owner a_0code a_0isOver a_0all a_0some a_0isRuled a_0before a_0slots a_0isKept a_0buffer a_0chosen a_0last a_0corner a_0wide a_0cuts a_0aside known_0 length_0 thrown_0 many_0 round_0 seed_0 hash_0 table_0 s_0 cells_0 owner_0 code_0 isOver_0 all_0 some_0 isRuled_0) sz) := by
  refine wh_ofWi (lv := [(0, .ref a_0)]) RX10 (by decide) rfl rfl (Nat.le_of_ble_eq_true rfl) rfl ?_
  intro p e s m below meth c A QQ hx hb hml hown hts hP hK hN hD hA hret ls hl
  have hS : va_S A s.heap s.heap [] := va_S.rf
  have hiX10 : ∀ w ∈ wsX100, w ∈ wsX10_leftInTheEnd := (fun _ h => List.mem_cons_of_mem _ (List.mem_append_right _ (h)))
  unfold fM_leftInTheEnd at hf
  refine lv_aload_n hx hb dX10_leftInTheEnd_0 rfl (lv_at hl 0 rfl) ?_
  refine lv_iconst (v := 0) hx hb dX10_leftInTheEnd_1 (by decide) ?_
  refine wh_put (D := (dC, dI)) (ci := 10) (C := RX10) (T := TX10) (N := 26) (ty := .int) (v := .int (0 : Int32)) (ws' := (wl_fM_leftInTheEnd cI cZ cJ cQ a_0 a_0table a_0s a_0cells a_0owner a_0code a_0isOver a_0all a_0some a_0isRuled a_0before a_0slots a_0isKept a_0buffer a_0chosen a_0last a_0corner a_0wide a_0cuts a_0aside known_0 length_0 (0 : Int32) many_0 round_0 seed_0 hash_0 table_0 s_0 cells_0 owner_0 code_0 isOver_0 all_0 some_0 isRuled_0)) hx hb hts hiX10 tyX10 tyX10_ok nmX10 hown hK hP hD hS 0 rfl rfl 7 (by decide) (hts (.fieldLink RX10 69 "PaddockFieldsModel" "thrown" "I") (List.mem_cons_of_mem _ (List.mem_append_left _ (List.mem_append_left _ (List.mem_of_getElem? (i := 0) rfl))))) (fun _ h9 => h9) rfl rfl rfl rfl (Nat.le_of_ble_eq_true rfl) rfl dX10_leftInTheEnd_2 (fun H locs hP hD hS => ?_)
  refine lv_aload_n hx hb dX10_leftInTheEnd_5 rfl (lv_at hl 0 rfl) ?_
  obtain ⟨s1, h_s1, hf⟩ := hf_bind hf
  refine wh_callv (D := (dC, dI)) (ws' := (wl_fM_leftInTheEnd cI cZ cJ cQ a_0 a_0table a_0s a_0cells a_0owner a_0code a_0isOver a_0all a_0some a_0isRuled a_0before a_0slots a_0isKept a_0buffer a_0chosen a_0last a_0corner a_0wide a_0cuts a_0aside known_0 length_0 (0 : Int32) s1.1 s1.2.2.2.2.2.2.1 seed_0 hash_0 s1.2.1 s_0 s1.2.2.1 s1.2.2.2.1 s1.2.2.2.2.1 s1.2.2.2.2.2.1 s1.2.2.2.2.2.2.2.1 s1.2.2.2.2.2.2.2.2.1 s1.2.2.2.2.2.2.2.2.2)) (va_runV (As := []) (rest := []) ⟨hx, hb, hml, hown, hts⟩ (c_fM_rules l dC dI cI cZ cJ cQ a_0 a_0table a_0s a_0cells a_0owner a_0code a_0isOver a_0all a_0some a_0isRuled a_0before a_0slots a_0isKept a_0buffer a_0chosen a_0last a_0corner a_0wide a_0cuts a_0aside known_0 length_0 (0 : Int32) seed_0 hash_0 _ h_s1) (cwV 0 hts gX10_leftInTheEnd_X10_rules rfl rfl rfl (by decide +kernel) ⟨Nat.le_of_ble_eq_true rfl, Nat.le_of_ble_eq_true rfl⟩) (wh_preV (C := RX10) (T := TX10) (N := 26) hK hN hP hD [0, 1, 2, 3, 4, 5, 6, 7, 8, 9] rfl rfl 10 0 rfl rfl) rfl rfl hl.1 rfl (lv_room (Nat.le_of_ble_eq_true rfl)) dX10_leftInTheEnd_6 ⟨Nat.le_refl _, Nat.le_refl _⟩) hP hD hS hA [0, 1, 2, 3, 4, 5, 6, 7, 8, 9] [] [0, 1, 2, 3, 4, 5, 6, 7, 8, 9] rfl rfl rfl rfl (fun H locs hP hD hS => ?_)
  refine lv_aload_n hx hb dX10_leftInTheEnd_9 rfl (lv_at hl 0 rfl) ?_
  obtain ⟨s2, h_s2, hf⟩ := hf_bind hf
  refine wh_calli (D := (dC, dI)) (ws' := (wl_fM_leftInTheEnd cI cZ cJ cQ a_0 a_0table a_0s a_0cells a_0owner a_0code a_0isOver a_0all a_0some a_0isRuled a_0before a_0slots a_0isKept a_0buffer a_0chosen a_0last a_0corner a_0wide a_0cuts a_0aside known_0 length_0 (0 : Int32) s1.1 s1.2.2.2.2.2.2.1 seed_0 hash_0 s1.2.1 s_0 s1.2.2.1 s1.2.2.2.1 s1.2.2.2.2.1 s1.2.2.2.2.2.1 s1.2.2.2.2.2.2.2.1 s1.2.2.2.2.2.2.2.2.1 s1.2.2.2.2.2.2.2.2.2)) (va_runV (As := []) (rest := []) ⟨hx, hb, hml, hown, hts⟩ (c_fM_leftAll l dC dI cI cZ cJ cQ a_0 a_0isOver a_0s a_0before a_0slots a_0isKept a_0buffer a_0cells a_0owner a_0code a_0table a_0isRuled a_0all a_0some a_0chosen a_0last a_0corner a_0wide a_0cuts a_0aside known_0 length_0 (0 : Int32) s1.2.2.2.2.2.2.1 seed_0 hash_0 _ h_s2) (cwV 0 hts gX10_leftInTheEnd_X10_leftAll rfl rfl rfl (by decide +kernel) ⟨Nat.le_of_ble_eq_true rfl, Nat.le_of_ble_eq_true rfl⟩) (wh_preV (C := RX10) (T := TX10) (N := 26) hK hN hP hD [0, 6] rfl rfl 10 0 rfl rfl) rfl rfl hl.1 rfl (lv_room (Nat.le_of_ble_eq_true rfl)) dX10_leftInTheEnd_10 ⟨Nat.le_refl _, Nat.le_refl _⟩) hP hD hS hA [0, 6] [1, 2, 3, 4, 5, 7, 8, 9] [8, 0, 1, 2, 3, 4, 9, 5, 6, 7] rfl rfl rfl rfl (fun H locs hP hD hS => ?_)
  obtain rfl := Option.some.inj hf
  exact hret _ _ _ _ hP hD hS dX10_leftInTheEnd_13
set_option maxHeartbeats 4000000 in
set_option maxRecDepth 100000 in
theorem c_fM_leftFor (l : Launch) (dC : Nat → ClassId) (dI : Nat → Nat → Nat) (cI cZ cJ cQ : ClassId) (a_0 a_0s a_0table a_0cells a_0owner a_0code a_0isOver a_0all a_0some a_0isRuled a_0before a_0slots a_0isKept a_0buffer a_0chosen a_0last a_0corner a_0wide a_0cuts a_0aside : Nat) (known_0 : Int32) (length_0 : Int32) (seed_0 : Int64) (hash_0 : Int64) (sz : Nat) {F : Nat} {x1 : Int32} {x2 : Int32} {s_0 : Nat → Int32} {thrown_0 : Int32} {many_0 : Int32} {table_0 : Nat → Int32} {cells_0 : Nat → Int64} {owner_0 : Nat → Int32} {code_0 : Nat → Int32} {isOver_0 : Nat → Int32} {round_0 : Int32} {all_0 : Nat → Int64} {some_0 : Nat → Int64} {isRuled_0 : Nat → Int32} {out : Int32 × Int32 × Int32 × (Nat → Int32) × (Nat → Int64) × (Nat → Int32) × (Nat → Int32) × (Nat → Int32) × Int32 × (Nat → Int64) × (Nat → Int64) × (Nat → Int32)} (hf : fM_leftFor F x1 x2 s_0 thrown_0 many_0 table_0 cells_0 owner_0 code_0 isOver_0 round_0 all_0 some_0 isRuled_0 = some out) : Met l yX10_leftFor wsX10_leftFor ({ frames := 4, cells := 0, slots := 0, locals := 109 } : Room) (va_Pc [.ref a_0, .int x1, .int x2] (wlP (dC, dI) (wlT cI cZ cJ cQ) (wl_fM_leftFor cI cZ cJ cQ a_0 a_0s a_0table a_0cells a_0owner a_0code a_0isOver a_0all a_0some a_0isRuled a_0before a_0slots a_0isKept a_0buffer a_0chosen a_0last a_0corner a_0wide a_0cuts a_0aside known_0 length_0 thrown_0 many_0 round_0 seed_0 hash_0 s_0 table_0 cells_0 owner_0 code_0 isOver_0 all_0 some_0 isRuled_0) sz)) (va_Qi (fun (v : Int32) (_ : Unit) => v = out.1) (wlQ (dC, dI) (va_A (wl_fM_leftFor cI cZ cJ cQ a_0 a_0s a_0table a_0cells a_0owner a_0code a_0isOver a_0all a_0some a_0isRuled a_0before a_0slots a_0isKept a_0buffer a_0chosen a_0last a_0corner a_0wide a_0cuts a_0aside known_0 length_0 thrown_0 many_0 round_0 seed_0 hash_0 s_0 table_0 cells_0 owner_0 code_0 isOver_0 all_0 some_0 isRuled_0) sz) (wl_fM_leftFor cI cZ cJ cQ a_0 a_0s a_0table a_0cells a_0owner a_0code a_0isOver a_0all a_0some a_0isRuled a_0before a_0slots a_0isKept a_0buffer a_0chosen a_0last a_0corner a_0wide a_0cuts a_0aside known_0 length_0 out.2.1 out.2.2.1 out.2.2.2.2.2.2.2.2.1 seed_0 hash_0 s_0 out.2.2.2.1 out.2.2.2.2.1 out.2.2.2.2.2.1 out.2.2.2.2.2.2.1 out.2.2.2.2.2.2.2.1 out.2.2.2.2.2.2.2.2.2.1 out.2.2.2.2.2.2.2.2.2.2.1 out.2.2.2.2.2.2.2.2.2.2.2)) (va_A (wl_fM_leftFor cI cZ cJ cQ a_0 a_0s a_0table a_0cells a_0owner a_0code a_0isOver a_0all a_0some a_0isRuled a_0before a_0slots a_0isKept a_0buffer a_0chosen a_0last a_0corner a_0wide a_0cuts a_0aside known_0 length_0 thrown_0 many_0 round_0 seed_0 hash_0 s_0 table_0 cells_0 owner_0 code_0 isOver_0 all_0 some_0 isRuled_0) sz)) 0 0 (va_A (wl_fM_leftFor cI cZ cJ cQ a_0 a_0s a_0table a_0cells a_0owner a_0code a_0isOver a_0all a_0some a_0isRuled a_0before a_0slots a_0isKept a_0buffer a_0chosen a_0last a_0corner a_0wide a_0cuts a_0aside known_0 length_0 thrown_0 many_0 round_0 seed_0 hash_0 s_0 table_0 cells_0 owner_0 code_0 isOver_0 all_0 some_0 isRuled_0) sz) := by
  refine wh_ofWi (lv := [(0, .ref a_0), (1, .int x1), (2, .int x2)]) RX10 (by decide) rfl rfl (Nat.le_of_ble_eq_true rfl) rfl ?_
  intro p e s m below meth c A QQ hx hb hml hown hts hP hK hN hD hA hret ls hl
  have hS : va_S A s.heap s.heap [] := va_S.rf
  unfold fM_leftFor at hf
  refine lv_aload_n hx hb dX10_leftFor_0 rfl (lv_at hl 0 rfl) ?_
  refine lv_iload_n hx hb dX10_leftFor_1 rfl (lv_at hl 1 rfl) ?_
  refine lv_iload_n hx hb dX10_leftFor_2 rfl (lv_at hl 2 rfl) ?_
  refine lv_iconst (v := 0) hx hb dX10_leftFor_3 (by decide) ?_
  obtain ⟨s1, h_s1, hf⟩ := hf_bind hf
  refine wh_calli (D := (dC, dI)) (ws' := (wl_fM_leftFor cI cZ cJ cQ a_0 a_0s a_0table a_0cells a_0owner a_0code a_0isOver a_0all a_0some a_0isRuled a_0before a_0slots a_0isKept a_0buffer a_0chosen a_0last a_0corner a_0wide a_0cuts a_0aside known_0 length_0 s1.2 many_0 round_0 seed_0 hash_0 s_0 table_0 cells_0 owner_0 code_0 isOver_0 all_0 some_0 isRuled_0)) (va_runV (As := [.int x1, .int x2, .int (0 : Int32)]) (rest := []) ⟨hx, hb, hml, hown, hts⟩ (c_fM_isThere l dC dI cI cZ cJ cQ a_0 a_0s a_0before a_0slots a_0isKept a_0buffer a_0cells a_0owner a_0code a_0table a_0isOver a_0isRuled a_0all a_0some a_0chosen a_0last a_0corner a_0wide a_0cuts a_0aside known_0 length_0 many_0 round_0 seed_0 hash_0 _ h_s1) (cwV 3 hts gX10_leftFor_X10_isThere rfl rfl rfl (by decide +kernel) ⟨Nat.le_of_ble_eq_true rfl, Nat.le_of_ble_eq_true rfl⟩) (wh_preV (C := RX10) (T := TX10) (N := 26) hK hN hP hD [0, 1] rfl rfl 10 0 rfl rfl) rfl rfl hl.1 rfl (lv_room (Nat.le_of_ble_eq_true rfl)) dX10_leftFor_4 ⟨Nat.le_refl _, Nat.le_refl _⟩) hP hD hS hA [0, 1] [2, 3, 4, 5, 6, 7, 8, 9] [8, 9, 0, 1, 2, 3, 4, 5, 6, 7] rfl rfl rfl rfl (fun H locs hP hD hS => ?_)
  refine lv_if_ne (tgt := 12) hx hb dX10_leftFor_7 (by decide) (fun cc => ?_) (fun cc => ?_)
  · replace hf := hf_pos cc hf
    refine lv_aload_n hx hb dX10_leftFor_12 rfl (lv_at hl 0 rfl) ?_
    obtain ⟨s2, h_s2, hf⟩ := hf_bind hf
    refine wh_callv (D := (dC, dI)) (ws' := (wl_fM_leftFor cI cZ cJ cQ a_0 a_0s a_0table a_0cells a_0owner a_0code a_0isOver a_0all a_0some a_0isRuled a_0before a_0slots a_0isKept a_0buffer a_0chosen a_0last a_0corner a_0wide a_0cuts a_0aside known_0 length_0 s1.2 s2.1 s2.2.2.2.2.2.2.1 seed_0 hash_0 s_0 s2.2.1 s2.2.2.1 s2.2.2.2.1 s2.2.2.2.2.1 s2.2.2.2.2.2.1 s2.2.2.2.2.2.2.2.1 s2.2.2.2.2.2.2.2.2.1 s2.2.2.2.2.2.2.2.2.2)) (va_runV (As := []) (rest := []) ⟨hx, hb, hml, hown, hts⟩ (c_fM_rules l dC dI cI cZ cJ cQ a_0 a_0table a_0s a_0cells a_0owner a_0code a_0isOver a_0all a_0some a_0isRuled a_0before a_0slots a_0isKept a_0buffer a_0chosen a_0last a_0corner a_0wide a_0cuts a_0aside known_0 length_0 s1.2 seed_0 hash_0 _ h_s2) (cwV 0 hts gX10_leftFor_X10_rules rfl rfl rfl (by decide +kernel) ⟨Nat.le_of_ble_eq_true rfl, Nat.le_of_ble_eq_true rfl⟩) (wh_preV (C := RX10) (T := TX10) (N := 26) hK hN hP hD [0, 2, 1, 3, 4, 5, 6, 7, 8, 9] rfl rfl 10 0 rfl rfl) rfl rfl hl.1 rfl (lv_room (Nat.le_of_ble_eq_true rfl)) dX10_leftFor_13 ⟨Nat.le_refl _, Nat.le_refl _⟩) hP hD hS hA [0, 2, 1, 3, 4, 5, 6, 7, 8, 9] [] [0, 2, 1, 3, 4, 5, 6, 7, 8, 9] rfl rfl rfl rfl (fun H locs hP hD hS => ?_)
    refine lv_aload_n hx hb dX10_leftFor_16 rfl (lv_at hl 0 rfl) ?_
    refine lv_bipush (v := 7) hx hb dX10_leftFor_17 (by decide) ?_
    refine lv_iload_n hx hb dX10_leftFor_19 rfl (lv_at hl 1 rfl) ?_
    refine lv_imul hx hb dX10_leftFor_20 ?_
    refine lv_iload_n hx hb dX10_leftFor_21 rfl (lv_at hl 2 rfl) ?_
    refine lv_iadd hx hb dX10_leftFor_22 ?_
    obtain ⟨s3, h_s3, hf⟩ := hf_bind hf
    refine wh_calli (D := (dC, dI)) (ws' := (wl_fM_leftFor cI cZ cJ cQ a_0 a_0s a_0table a_0cells a_0owner a_0code a_0isOver a_0all a_0some a_0isRuled a_0before a_0slots a_0isKept a_0buffer a_0chosen a_0last a_0corner a_0wide a_0cuts a_0aside known_0 length_0 s1.2 s2.1 s2.2.2.2.2.2.2.1 seed_0 hash_0 s_0 s2.2.1 s2.2.2.1 s2.2.2.2.1 s2.2.2.2.2.1 s2.2.2.2.2.2.1 s2.2.2.2.2.2.2.2.1 s2.2.2.2.2.2.2.2.2.1 s2.2.2.2.2.2.2.2.2.2)) (va_runV (As := [.int (((7 : Int32) * x1) + x2)]) (rest := []) ⟨hx, hb, hml, hown, hts⟩ (c_fM_leftIn l dC dI cI cZ cJ cQ a_0 a_0owner a_0isOver a_0s a_0before a_0slots a_0isKept a_0buffer a_0cells a_0code a_0table a_0isRuled a_0all a_0some a_0chosen a_0last a_0corner a_0wide a_0cuts a_0aside known_0 length_0 s1.2 s2.2.2.2.2.2.2.1 seed_0 hash_0 _ h_s3) (cwV 1 hts gX10_leftFor_X10_leftIn rfl rfl rfl (by decide +kernel) ⟨Nat.le_of_ble_eq_true rfl, Nat.le_of_ble_eq_true rfl⟩) (wh_preV (C := RX10) (T := TX10) (N := 26) hK hN hP hD [0, 4, 6] rfl rfl 10 0 rfl rfl) rfl rfl hl.1 rfl (lv_room (Nat.le_of_ble_eq_true rfl)) dX10_leftFor_23 ⟨Nat.le_refl _, Nat.le_refl _⟩) hP hD hS hA [0, 4, 6] [1, 2, 3, 5, 7, 8, 9] [7, 0, 1, 2, 8, 3, 9, 4, 5, 6] rfl rfl rfl rfl (fun H locs hP hD hS => ?_)
    obtain rfl := Option.some.inj hf
    exact hret _ _ _ _ hP hD hS dX10_leftFor_26
  · replace hf := hf_neg (not_not_intro cc) hf
    refine lv_iconst (v := 0) hx hb dX10_leftFor_10 (by decide) ?_
    obtain rfl := Option.some.inj hf
    exact hret _ _ _ _ hP hD hS dX10_leftFor_11
set_option maxHeartbeats 4000000 in
set_option maxRecDepth 100000 in
theorem c_fM_isContradiction (l : Launch) (dC : Nat → ClassId) (dI : Nat → Nat → Nat) (cI cZ cJ cQ : ClassId) (a_0 a_0table a_0s a_0cells a_0owner a_0code a_0isOver a_0all a_0some a_0isRuled a_0before a_0slots a_0isKept a_0buffer a_0chosen a_0last a_0corner a_0wide a_0cuts a_0aside : Nat) (known_0 : Int32) (length_0 : Int32) (seed_0 : Int64) (hash_0 : Int64) (sz : Nat) {F : Nat} {thrown_0 : Int32} {many_0 : Int32} {table_0 : Nat → Int32} {s_0 : Nat → Int32} {cells_0 : Nat → Int64} {owner_0 : Nat → Int32} {code_0 : Nat → Int32} {isOver_0 : Nat → Int32} {round_0 : Int32} {all_0 : Nat → Int64} {some_0 : Nat → Int64} {isRuled_0 : Nat → Int32} {out : Int32 × Int32 × Int32 × (Nat → Int32) × (Nat → Int64) × (Nat → Int32) × (Nat → Int32) × (Nat → Int32) × Int32 × (Nat → Int64) × (Nat → Int64) × (Nat → Int32)} (hf : fM_isContradiction F thrown_0 many_0 table_0 s_0 cells_0 owner_0 code_0 isOver_0 round_0 all_0 some_0 isRuled_0 = some out) : Met l yX10_isContradiction wsX10_isContradiction ({ frames := 4, cells := 0, slots := 0, locals := 109 } : Room) (va_Pc [.ref a_0] (wlP (dC, dI) (wlT cI cZ cJ cQ) (wl_fM_isContradiction cI cZ cJ cQ a_0 a_0table a_0s a_0cells a_0owner a_0code a_0isOver a_0all a_0some a_0isRuled a_0before a_0slots a_0isKept a_0buffer a_0chosen a_0last a_0corner a_0wide a_0cuts a_0aside known_0 length_0 thrown_0 many_0 round_0 seed_0 hash_0 table_0 s_0 cells_0 owner_0 code_0 isOver_0 all_0 some_0 isRuled_0) sz)) (va_Qi (fun (v : Int32) (_ : Unit) => v = out.1) (wlQ (dC, dI) (va_A (wl_fM_isContradiction cI cZ cJ cQ a_0 a_0table a_0s a_0cells a_0owner a_0code a_0isOver a_0all a_0some a_0isRuled a_0before a_0slots a_0isKept a_0buffer a_0chosen a_0last a_0corner a_0wide a_0cuts a_0aside known_0 length_0 thrown_0 many_0 round_0 seed_0 hash_0 table_0 s_0 cells_0 owner_0 code_0 isOver_0 all_0 some_0 isRuled_0) sz) (wl_fM_isContradiction cI cZ cJ cQ a_0 a_0table a_0s a_0cells a_0owner a_0code a_0isOver a_0all a_0some a_0isRuled a_0before a_0slots a_0isKept a_0buffer a_0chosen a_0last a_0corner a_0wide a_0cuts a_0aside known_0 length_0 out.2.1 out.2.2.1 out.2.2.2.2.2.2.2.2.1 seed_0 hash_0 out.2.2.2.1 s_0 out.2.2.2.2.1 out.2.2.2.2.2.1 out.2.2.2.2.2.2.1 out.2.2.2.2.2.2.2.1 out.2.2.2.2.2.2.2.2.2.1 out.2.2.2.2.2.2.2.2.2.2.1 out.2.2.2.2.2.2.2.2.2.2.2)) (va_A (wl_fM_isContradiction cI cZ cJ cQ a_0 a_0table a_0s a_0cells a_0owner a_0code a_0isOver a_0all a_0some a_0isRuled a_0before a_0slots a_0isKept a_0buffer a_0chosen a_0last a_0corner a_0wide a_0cuts a_0aside known_0 length_0 thrown_0 many_0 round_0 seed_0 hash_0 table_0 s_0 cells_0 owner_0 code_0 isOver_0 all_0 some_0 isRuled_0) sz)) 0 0 (va_A (wl_fM_isContradiction cI cZ cJ cQ a_0 a_0table a_0s a_0cells a_0owner a_0code a_0isOver a_0all a_0some a_0isRuled a_0before a_0slots a_0isKept a_0buffer a_0chosen a_0last a_0corner a_0wide a_0cuts a_0aside known_0 length_0 thrown_0 many_0 round_0 seed_0 hash_0 table_0 s_0 cells_0 owner_0 code_0 isOver_0 all_0 some_0 isRuled_0) sz) := by
  refine wh_ofWz (lv := [(0, .ref a_0)]) RX10 (by decide) rfl rfl (Nat.le_of_ble_eq_true rfl) rfl ?_
  intro p e s m below meth c A QQ hx hb hml hown hts hP hK hN hD hA hret ls hl
  have hS : va_S A s.heap s.heap [] := va_S.rf
  have hiX10 : ∀ w ∈ wsX100, w ∈ wsX10_isContradiction := (fun _ h => List.mem_cons_of_mem _ (List.mem_append_right _ (h)))
  unfold fM_isContradiction at hf
  refine lv_aload_n hx hb dX10_isContradiction_0 rfl (lv_at hl 0 rfl) ?_
  refine lv_iconst (v := 0) hx hb dX10_isContradiction_1 (by decide) ?_
  refine wh_put (D := (dC, dI)) (ci := 10) (C := RX10) (T := TX10) (N := 26) (ty := .int) (v := .int (0 : Int32)) (ws' := (wl_fM_isContradiction cI cZ cJ cQ a_0 a_0table a_0s a_0cells a_0owner a_0code a_0isOver a_0all a_0some a_0isRuled a_0before a_0slots a_0isKept a_0buffer a_0chosen a_0last a_0corner a_0wide a_0cuts a_0aside known_0 length_0 (0 : Int32) many_0 round_0 seed_0 hash_0 table_0 s_0 cells_0 owner_0 code_0 isOver_0 all_0 some_0 isRuled_0)) hx hb hts hiX10 tyX10 tyX10_ok nmX10 hown hK hP hD hS 0 rfl rfl 7 (by decide) (hts (.fieldLink RX10 69 "PaddockFieldsModel" "thrown" "I") (List.mem_cons_of_mem _ (List.mem_append_left _ (List.mem_append_left _ (List.mem_of_getElem? (i := 0) rfl))))) (fun _ h9 => h9) rfl rfl rfl rfl (Nat.le_of_ble_eq_true rfl) rfl dX10_isContradiction_2 (fun H locs hP hD hS => ?_)
  refine lv_aload_n hx hb dX10_isContradiction_5 rfl (lv_at hl 0 rfl) ?_
  obtain ⟨s1, h_s1, hf⟩ := hf_bind hf
  refine wh_callv (D := (dC, dI)) (ws' := (wl_fM_isContradiction cI cZ cJ cQ a_0 a_0table a_0s a_0cells a_0owner a_0code a_0isOver a_0all a_0some a_0isRuled a_0before a_0slots a_0isKept a_0buffer a_0chosen a_0last a_0corner a_0wide a_0cuts a_0aside known_0 length_0 (0 : Int32) s1.1 s1.2.2.2.2.2.2.1 seed_0 hash_0 s1.2.1 s_0 s1.2.2.1 s1.2.2.2.1 s1.2.2.2.2.1 s1.2.2.2.2.2.1 s1.2.2.2.2.2.2.2.1 s1.2.2.2.2.2.2.2.2.1 s1.2.2.2.2.2.2.2.2.2)) (va_runV (As := []) (rest := []) ⟨hx, hb, hml, hown, hts⟩ (c_fM_rules l dC dI cI cZ cJ cQ a_0 a_0table a_0s a_0cells a_0owner a_0code a_0isOver a_0all a_0some a_0isRuled a_0before a_0slots a_0isKept a_0buffer a_0chosen a_0last a_0corner a_0wide a_0cuts a_0aside known_0 length_0 (0 : Int32) seed_0 hash_0 _ h_s1) (cwV 0 hts gX10_isContradiction_X10_rules rfl rfl rfl (by decide +kernel) ⟨Nat.le_of_ble_eq_true rfl, Nat.le_of_ble_eq_true rfl⟩) (wh_preV (C := RX10) (T := TX10) (N := 26) hK hN hP hD [0, 1, 2, 3, 4, 5, 6, 7, 8, 9] rfl rfl 10 0 rfl rfl) rfl rfl hl.1 rfl (lv_room (Nat.le_of_ble_eq_true rfl)) dX10_isContradiction_6 ⟨Nat.le_refl _, Nat.le_refl _⟩) hP hD hS hA [0, 1, 2, 3, 4, 5, 6, 7, 8, 9] [] [0, 1, 2, 3, 4, 5, 6, 7, 8, 9] rfl rfl rfl rfl (fun H locs hP hD hS => ?_)
  refine lv_aload_n hx hb dX10_isContradiction_9 rfl (lv_at hl 0 rfl) ?_
  obtain ⟨s2, h_s2, hf⟩ := hf_bind hf
  refine wh_calli (D := (dC, dI)) (ws' := (wl_fM_isContradiction cI cZ cJ cQ a_0 a_0table a_0s a_0cells a_0owner a_0code a_0isOver a_0all a_0some a_0isRuled a_0before a_0slots a_0isKept a_0buffer a_0chosen a_0last a_0corner a_0wide a_0cuts a_0aside known_0 length_0 (0 : Int32) s1.1 s1.2.2.2.2.2.2.1 seed_0 hash_0 s1.2.1 s_0 s1.2.2.1 s1.2.2.2.1 s1.2.2.2.2.1 s1.2.2.2.2.2.1 s1.2.2.2.2.2.2.2.1 s1.2.2.2.2.2.2.2.2.1 s1.2.2.2.2.2.2.2.2.2)) (va_runV (As := []) (rest := []) ⟨hx, hb, hml, hown, hts⟩ (c_fM_isAgainst l dC dI cI cZ cJ cQ a_0 a_0s a_0some a_0before a_0slots a_0isKept a_0buffer a_0cells a_0owner a_0code a_0table a_0isOver a_0isRuled a_0all a_0chosen a_0last a_0corner a_0wide a_0cuts a_0aside known_0 length_0 (0 : Int32) s1.1 s1.2.2.2.2.2.2.1 seed_0 hash_0 _ h_s2) (cwV 0 hts gX10_isContradiction_X10_isAgainst rfl rfl rfl (by decide +kernel) ⟨Nat.le_of_ble_eq_true rfl, Nat.le_of_ble_eq_true rfl⟩) (wh_preV (C := RX10) (T := TX10) (N := 26) hK hN hP hD [0, 2, 8] rfl rfl 10 0 rfl rfl) rfl rfl hl.1 rfl (lv_room (Nat.le_of_ble_eq_true rfl)) dX10_isContradiction_10 ⟨Nat.le_refl _, Nat.le_refl _⟩) hP hD hS hA [0, 2, 8] [1, 3, 4, 5, 6, 7, 9] [7, 0, 8, 1, 2, 3, 4, 5, 9, 6] rfl rfl rfl rfl (fun H locs hP hD hS => ?_)
  obtain ⟨z3, h_z3, hf⟩ := hf_bind hf
  obtain ⟨rfl, h_n⟩ := o_z_spec h_z3
  obtain rfl := Option.some.inj hf
  exact hret _ _ _ _ h_n hP hD hS dX10_isContradiction_13
set_option maxHeartbeats 4000000 in
set_option maxRecDepth 100000 in
theorem c_fM_certain (l : Launch) (dC : Nat → ClassId) (dI : Nat → Nat → Nat) (cI cZ cJ cQ : ClassId) (a_0 a_0table a_0s a_0cells a_0owner a_0code a_0isOver a_0all a_0some a_0isRuled a_0before a_0slots a_0isKept a_0buffer a_0chosen a_0last a_0corner a_0wide a_0cuts a_0aside : Nat) (known_0 : Int32) (length_0 : Int32) (seed_0 : Int64) (hash_0 : Int64) (sz : Nat) {F : Nat} {thrown_0 : Int32} {many_0 : Int32} {table_0 : Nat → Int32} {s_0 : Nat → Int32} {cells_0 : Nat → Int64} {owner_0 : Nat → Int32} {code_0 : Nat → Int32} {isOver_0 : Nat → Int32} {round_0 : Int32} {all_0 : Nat → Int64} {some_0 : Nat → Int64} {isRuled_0 : Nat → Int32} {out : Int32 × Int32 × Int32 × (Nat → Int32) × (Nat → Int64) × (Nat → Int32) × (Nat → Int32) × (Nat → Int32) × Int32 × (Nat → Int64) × (Nat → Int64) × (Nat → Int32)} (hf : fM_certain F thrown_0 many_0 table_0 s_0 cells_0 owner_0 code_0 isOver_0 round_0 all_0 some_0 isRuled_0 = some out) : Met l yX10_certain wsX10_certain ({ frames := 4, cells := 0, slots := 0, locals := 109 } : Room) (va_Pc [.ref a_0] (wlP (dC, dI) (wlT cI cZ cJ cQ) (wl_fM_certain cI cZ cJ cQ a_0 a_0table a_0s a_0cells a_0owner a_0code a_0isOver a_0all a_0some a_0isRuled a_0before a_0slots a_0isKept a_0buffer a_0chosen a_0last a_0corner a_0wide a_0cuts a_0aside known_0 length_0 thrown_0 many_0 round_0 seed_0 hash_0 table_0 s_0 cells_0 owner_0 code_0 isOver_0 all_0 some_0 isRuled_0) sz)) (va_Qi (fun (v : Int32) (_ : Unit) => v = out.1) (wlQ (dC, dI) (va_A (wl_fM_certain cI cZ cJ cQ a_0 a_0table a_0s a_0cells a_0owner a_0code a_0isOver a_0all a_0some a_0isRuled a_0before a_0slots a_0isKept a_0buffer a_0chosen a_0last a_0corner a_0wide a_0cuts a_0aside known_0 length_0 thrown_0 many_0 round_0 seed_0 hash_0 table_0 s_0 cells_0 owner_0 code_0 isOver_0 all_0 some_0 isRuled_0) sz) (wl_fM_certain cI cZ cJ cQ a_0 a_0table a_0s a_0cells a_0owner a_0code a_0isOver a_0all a_0some a_0isRuled a_0before a_0slots a_0isKept a_0buffer a_0chosen a_0last a_0corner a_0wide a_0cuts a_0aside known_0 length_0 out.2.1 out.2.2.1 out.2.2.2.2.2.2.2.2.1 seed_0 hash_0 out.2.2.2.1 s_0 out.2.2.2.2.1 out.2.2.2.2.2.1 out.2.2.2.2.2.2.1 out.2.2.2.2.2.2.2.1 out.2.2.2.2.2.2.2.2.2.1 out.2.2.2.2.2.2.2.2.2.2.1 out.2.2.2.2.2.2.2.2.2.2.2)) (va_A (wl_fM_certain cI cZ cJ cQ a_0 a_0table a_0s a_0cells a_0owner a_0code a_0isOver a_0all a_0some a_0isRuled a_0before a_0slots a_0isKept a_0buffer a_0chosen a_0last a_0corner a_0wide a_0cuts a_0aside known_0 length_0 thrown_0 many_0 round_0 seed_0 hash_0 table_0 s_0 cells_0 owner_0 code_0 isOver_0 all_0 some_0 isRuled_0) sz)) 0 0 (va_A (wl_fM_certain cI cZ cJ cQ a_0 a_0table a_0s a_0cells a_0owner a_0code a_0isOver a_0all a_0some a_0isRuled a_0before a_0slots a_0isKept a_0buffer a_0chosen a_0last a_0corner a_0wide a_0cuts a_0aside known_0 length_0 thrown_0 many_0 round_0 seed_0 hash_0 table_0 s_0 cells_0 owner_0 code_0 isOver_0 all_0 some_0 isRuled_0) sz) := by
  refine wh_ofWi (lv := [(0, .ref a_0)]) RX10 (by decide) rfl rfl (Nat.le_of_ble_eq_true rfl) rfl ?_
  intro p e s m below meth c A QQ hx hb hml hown hts hP hK hN hD hA hret ls hl
  have hS : va_S A s.heap s.heap [] := va_S.rf
  have hiX10 : ∀ w ∈ wsX100, w ∈ wsX10_certain := (fun _ h => List.mem_cons_of_mem _ (List.mem_append_right _ (h)))
  unfold fM_certain at hf
  refine lv_aload_n hx hb dX10_certain_0 rfl (lv_at hl 0 rfl) ?_
  refine lv_iconst (v := 0) hx hb dX10_certain_1 (by decide) ?_
  refine wh_put (D := (dC, dI)) (ci := 10) (C := RX10) (T := TX10) (N := 26) (ty := .int) (v := .int (0 : Int32)) (ws' := (wl_fM_certain cI cZ cJ cQ a_0 a_0table a_0s a_0cells a_0owner a_0code a_0isOver a_0all a_0some a_0isRuled a_0before a_0slots a_0isKept a_0buffer a_0chosen a_0last a_0corner a_0wide a_0cuts a_0aside known_0 length_0 (0 : Int32) many_0 round_0 seed_0 hash_0 table_0 s_0 cells_0 owner_0 code_0 isOver_0 all_0 some_0 isRuled_0)) hx hb hts hiX10 tyX10 tyX10_ok nmX10 hown hK hP hD hS 0 rfl rfl 7 (by decide) (hts (.fieldLink RX10 69 "PaddockFieldsModel" "thrown" "I") (List.mem_cons_of_mem _ (List.mem_append_left _ (List.mem_append_left _ (List.mem_of_getElem? (i := 0) rfl))))) (fun _ h9 => h9) rfl rfl rfl rfl (Nat.le_of_ble_eq_true rfl) rfl dX10_certain_2 (fun H locs hP hD hS => ?_)
  refine lv_aload_n hx hb dX10_certain_5 rfl (lv_at hl 0 rfl) ?_
  obtain ⟨s1, h_s1, hf⟩ := hf_bind hf
  refine wh_callv (D := (dC, dI)) (ws' := (wl_fM_certain cI cZ cJ cQ a_0 a_0table a_0s a_0cells a_0owner a_0code a_0isOver a_0all a_0some a_0isRuled a_0before a_0slots a_0isKept a_0buffer a_0chosen a_0last a_0corner a_0wide a_0cuts a_0aside known_0 length_0 (0 : Int32) s1.1 s1.2.2.2.2.2.2.1 seed_0 hash_0 s1.2.1 s_0 s1.2.2.1 s1.2.2.2.1 s1.2.2.2.2.1 s1.2.2.2.2.2.1 s1.2.2.2.2.2.2.2.1 s1.2.2.2.2.2.2.2.2.1 s1.2.2.2.2.2.2.2.2.2)) (va_runV (As := []) (rest := []) ⟨hx, hb, hml, hown, hts⟩ (c_fM_rules l dC dI cI cZ cJ cQ a_0 a_0table a_0s a_0cells a_0owner a_0code a_0isOver a_0all a_0some a_0isRuled a_0before a_0slots a_0isKept a_0buffer a_0chosen a_0last a_0corner a_0wide a_0cuts a_0aside known_0 length_0 (0 : Int32) seed_0 hash_0 _ h_s1) (cwV 0 hts gX10_certain_X10_rules rfl rfl rfl (by decide +kernel) ⟨Nat.le_of_ble_eq_true rfl, Nat.le_of_ble_eq_true rfl⟩) (wh_preV (C := RX10) (T := TX10) (N := 26) hK hN hP hD [0, 1, 2, 3, 4, 5, 6, 7, 8, 9] rfl rfl 10 0 rfl rfl) rfl rfl hl.1 rfl (lv_room (Nat.le_of_ble_eq_true rfl)) dX10_certain_6 ⟨Nat.le_refl _, Nat.le_refl _⟩) hP hD hS hA [0, 1, 2, 3, 4, 5, 6, 7, 8, 9] [] [0, 1, 2, 3, 4, 5, 6, 7, 8, 9] rfl rfl rfl rfl (fun H locs hP hD hS => ?_)
  refine lv_aload_n hx hb dX10_certain_9 rfl (lv_at hl 0 rfl) ?_
  obtain ⟨s2, h_s2, hf⟩ := hf_bind hf
  refine wh_calli (D := (dC, dI)) (ws' := (wl_fM_certain cI cZ cJ cQ a_0 a_0table a_0s a_0cells a_0owner a_0code a_0isOver a_0all a_0some a_0isRuled a_0before a_0slots a_0isKept a_0buffer a_0chosen a_0last a_0corner a_0wide a_0cuts a_0aside known_0 length_0 (0 : Int32) s1.1 s1.2.2.2.2.2.2.1 seed_0 hash_0 s1.2.1 s_0 s1.2.2.1 s1.2.2.2.1 s1.2.2.2.2.1 s1.2.2.2.2.2.1 s1.2.2.2.2.2.2.2.1 s1.2.2.2.2.2.2.2.2.1 s1.2.2.2.2.2.2.2.2.2)) (va_runV (As := []) (rest := []) ⟨hx, hb, hml, hown, hts⟩ (c_fM_isAgainst l dC dI cI cZ cJ cQ a_0 a_0s a_0some a_0before a_0slots a_0isKept a_0buffer a_0cells a_0owner a_0code a_0table a_0isOver a_0isRuled a_0all a_0chosen a_0last a_0corner a_0wide a_0cuts a_0aside known_0 length_0 (0 : Int32) s1.1 s1.2.2.2.2.2.2.1 seed_0 hash_0 _ h_s2) (cwV 0 hts gX10_certain_X10_isAgainst rfl rfl rfl (by decide +kernel) ⟨Nat.le_of_ble_eq_true rfl, Nat.le_of_ble_eq_true rfl⟩) (wh_preV (C := RX10) (T := TX10) (N := 26) hK hN hP hD [0, 2, 8] rfl rfl 10 0 rfl rfl) rfl rfl hl.1 rfl (lv_room (Nat.le_of_ble_eq_true rfl)) dX10_certain_10 ⟨Nat.le_refl _, Nat.le_refl _⟩) hP hD hS hA [0, 2, 8] [1, 3, 4, 5, 6, 7, 9] [7, 0, 8, 1, 2, 3, 4, 5, 9, 6] rfl rfl rfl rfl (fun H locs hP hD hS => ?_)
  refine lv_if_eq (tgt := 24) hx hb dX10_certain_13 (by decide) (fun cc => ?_) (fun cc => ?_)
  · replace hf := hf_pos cc hf
    refine lv_aload_n hx hb dX10_certain_24 rfl (lv_at hl 0 rfl) ?_
    obtain ⟨s3, h_s3, hf⟩ := hf_bind hf
    refine wh_calli (D := (dC, dI)) (ws' := (wl_fM_certain cI cZ cJ cQ a_0 a_0table a_0s a_0cells a_0owner a_0code a_0isOver a_0all a_0some a_0isRuled a_0before a_0slots a_0isKept a_0buffer a_0chosen a_0last a_0corner a_0wide a_0cuts a_0aside known_0 length_0 (0 : Int32) s1.1 s1.2.2.2.2.2.2.1 seed_0 hash_0 s1.2.1 s_0 s1.2.2.1 s1.2.2.2.1 s1.2.2.2.2.1 s1.2.2.2.2.2.1 s1.2.2.2.2.2.2.2.1 s1.2.2.2.2.2.2.2.2.1 s1.2.2.2.2.2.2.2.2.2)) (va_runV (As := []) (rest := []) ⟨hx, hb, hml, hown, hts⟩ (c_fM_sure l dC dI cI cZ cJ cQ a_0 a_0s a_0owner a_0isOver a_0before a_0slots a_0isKept a_0buffer a_0cells a_0code a_0table a_0isRuled a_0all a_0some a_0chosen a_0last a_0corner a_0wide a_0cuts a_0aside known_0 length_0 (0 : Int32) s1.2.2.2.2.2.2.1 seed_0 hash_0 _ h_s3) (cwV 0 hts gX10_certain_X10_sure rfl rfl rfl (by decide +kernel) ⟨Nat.le_of_ble_eq_true rfl, Nat.le_of_ble_eq_true rfl⟩) (wh_preV (C := RX10) (T := TX10) (N := 26) hK hN hP hD [0, 2, 4, 6] rfl rfl 10 0 rfl rfl) rfl rfl hl.1 rfl (lv_room (Nat.le_of_ble_eq_true rfl)) dX10_certain_25 ⟨Nat.le_refl _, Nat.le_refl _⟩) hP hD hS hA [0, 2, 4, 6] [1, 3, 5, 7, 8, 9] [6, 0, 7, 1, 8, 2, 9, 3, 4, 5] rfl rfl rfl rfl (fun H locs hP hD hS => ?_)
    obtain rfl := Option.some.inj hf
    exact hret _ _ _ _ hP hD hS dX10_certain_28
  · replace hf := hf_neg cc hf
    refine lv_aload_n hx hb dX10_certain_16 rfl (lv_at hl 0 rfl) ?_
    refine lv_iconst (v := 1) hx hb dX10_certain_17 (by decide) ?_
    obtain ⟨s4, h_s4, hf⟩ := hf_bind hf
    refine wh_calli (D := (dC, dI)) (ws' := (wl_fM_certain cI cZ cJ cQ a_0 a_0table a_0s a_0cells a_0owner a_0code a_0isOver a_0all a_0some a_0isRuled a_0before a_0slots a_0isKept a_0buffer a_0chosen a_0last a_0corner a_0wide a_0cuts a_0aside known_0 length_0 s4.2 s1.1 s1.2.2.2.2.2.2.1 seed_0 hash_0 s1.2.1 s_0 s1.2.2.1 s1.2.2.2.1 s1.2.2.2.2.1 s1.2.2.2.2.2.1 s1.2.2.2.2.2.2.2.1 s1.2.2.2.2.2.2.2.2.1 s1.2.2.2.2.2.2.2.2.2)) (va_runV (As := [.int (1 : Int32)]) (rest := []) ⟨hx, hb, hml, hown, hts⟩ (c_fM_throwing l dC dI cI cZ cJ cQ a_0 a_0s a_0before a_0slots a_0isKept a_0buffer a_0cells a_0owner a_0code a_0table a_0isOver a_0isRuled a_0all a_0some a_0chosen a_0last a_0corner a_0wide a_0cuts a_0aside known_0 length_0 s1.1 s1.2.2.2.2.2.2.1 seed_0 hash_0 _ h_s4) (cwV 1 hts gX10_certain_X10_throwing rfl rfl rfl (by decide +kernel) ⟨Nat.le_of_ble_eq_true rfl, Nat.le_of_ble_eq_true rfl⟩) (wh_preV (C := RX10) (T := TX10) (N := 26) hK hN hP hD [0] rfl rfl 10 0 rfl rfl) rfl rfl hl.1 rfl (lv_room (Nat.le_of_ble_eq_true rfl)) dX10_certain_18 ⟨Nat.le_refl _, Nat.le_refl _⟩) hP hD hS hA [0] [1, 2, 3, 4, 5, 6, 7, 8, 9] [9, 0, 1, 2, 3, 4, 5, 6, 7, 8] rfl rfl rfl rfl (fun H locs hP hD hS => ?_)
    refine lv_goto (tgt := 28) hx hb dX10_certain_21 (by decide) ?_
    obtain rfl := Option.some.inj hf
    exact hret _ _ _ _ hP hD hS dX10_certain_28
set_option maxHeartbeats 4000000 in
set_option maxRecDepth 100000 in
theorem c_fM_hint (l : Launch) (dC : Nat → ClassId) (dI : Nat → Nat → Nat) (cI cZ cJ cQ : ClassId) (a_0 a_0table a_0s a_0cells a_0owner a_0code a_0isOver a_0all a_0some a_0isRuled a_0before a_0slots a_0isKept a_0buffer a_0chosen a_0last a_0corner a_0wide a_0cuts a_0aside : Nat) (known_0 : Int32) (length_0 : Int32) (seed_0 : Int64) (hash_0 : Int64) (sz : Nat) {F : Nat} {thrown_0 : Int32} {many_0 : Int32} {table_0 : Nat → Int32} {s_0 : Nat → Int32} {cells_0 : Nat → Int64} {owner_0 : Nat → Int32} {code_0 : Nat → Int32} {isOver_0 : Nat → Int32} {round_0 : Int32} {all_0 : Nat → Int64} {some_0 : Nat → Int64} {isRuled_0 : Nat → Int32} {out : Int32 × Int32 × Int32 × (Nat → Int32) × (Nat → Int64) × (Nat → Int32) × (Nat → Int32) × (Nat → Int32) × Int32 × (Nat → Int64) × (Nat → Int64) × (Nat → Int32)} (hf : fM_hint F thrown_0 many_0 table_0 s_0 cells_0 owner_0 code_0 isOver_0 round_0 all_0 some_0 isRuled_0 = some out) : Met l yX10_hint wsX10_hint ({ frames := 4, cells := 0, slots := 0, locals := 109 } : Room) (va_Pc [.ref a_0] (wlP (dC, dI) (wlT cI cZ cJ cQ) (wl_fM_hint cI cZ cJ cQ a_0 a_0table a_0s a_0cells a_0owner a_0code a_0isOver a_0all a_0some a_0isRuled a_0before a_0slots a_0isKept a_0buffer a_0chosen a_0last a_0corner a_0wide a_0cuts a_0aside known_0 length_0 thrown_0 many_0 round_0 seed_0 hash_0 table_0 s_0 cells_0 owner_0 code_0 isOver_0 all_0 some_0 isRuled_0) sz)) (va_Qi (fun (v : Int32) (_ : Unit) => v = out.1) (wlQ (dC, dI) (va_A (wl_fM_hint cI cZ cJ cQ a_0 a_0table a_0s a_0cells a_0owner a_0code a_0isOver a_0all a_0some a_0isRuled a_0before a_0slots a_0isKept a_0buffer a_0chosen a_0last a_0corner a_0wide a_0cuts a_0aside known_0 length_0 thrown_0 many_0 round_0 seed_0 hash_0 table_0 s_0 cells_0 owner_0 code_0 isOver_0 all_0 some_0 isRuled_0) sz) (wl_fM_hint cI cZ cJ cQ a_0 a_0table a_0s a_0cells a_0owner a_0code a_0isOver a_0all a_0some a_0isRuled a_0before a_0slots a_0isKept a_0buffer a_0chosen a_0last a_0corner a_0wide a_0cuts a_0aside known_0 length_0 out.2.1 out.2.2.1 out.2.2.2.2.2.2.2.2.1 seed_0 hash_0 out.2.2.2.1 s_0 out.2.2.2.2.1 out.2.2.2.2.2.1 out.2.2.2.2.2.2.1 out.2.2.2.2.2.2.2.1 out.2.2.2.2.2.2.2.2.2.1 out.2.2.2.2.2.2.2.2.2.2.1 out.2.2.2.2.2.2.2.2.2.2.2)) (va_A (wl_fM_hint cI cZ cJ cQ a_0 a_0table a_0s a_0cells a_0owner a_0code a_0isOver a_0all a_0some a_0isRuled a_0before a_0slots a_0isKept a_0buffer a_0chosen a_0last a_0corner a_0wide a_0cuts a_0aside known_0 length_0 thrown_0 many_0 round_0 seed_0 hash_0 table_0 s_0 cells_0 owner_0 code_0 isOver_0 all_0 some_0 isRuled_0) sz)) 0 0 (va_A (wl_fM_hint cI cZ cJ cQ a_0 a_0table a_0s a_0cells a_0owner a_0code a_0isOver a_0all a_0some a_0isRuled a_0before a_0slots a_0isKept a_0buffer a_0chosen a_0last a_0corner a_0wide a_0cuts a_0aside known_0 length_0 thrown_0 many_0 round_0 seed_0 hash_0 table_0 s_0 cells_0 owner_0 code_0 isOver_0 all_0 some_0 isRuled_0) sz) := by
  refine wh_ofWi (lv := [(0, .ref a_0)]) RX10 (by decide) rfl rfl (Nat.le_of_ble_eq_true rfl) rfl ?_
  intro p e s m below meth c A QQ hx hb hml hown hts hP hK hN hD hA hret ls hl
  have hS : va_S A s.heap s.heap [] := va_S.rf
  have hiX10 : ∀ w ∈ wsX100, w ∈ wsX10_hint := (fun _ h => List.mem_cons_of_mem _ (List.mem_append_right _ (h)))
  unfold fM_hint at hf
  refine lv_aload_n hx hb dX10_hint_0 rfl (lv_at hl 0 rfl) ?_
  refine lv_iconst (v := 0) hx hb dX10_hint_1 (by decide) ?_
  refine wh_put (D := (dC, dI)) (ci := 10) (C := RX10) (T := TX10) (N := 26) (ty := .int) (v := .int (0 : Int32)) (ws' := (wl_fM_hint cI cZ cJ cQ a_0 a_0table a_0s a_0cells a_0owner a_0code a_0isOver a_0all a_0some a_0isRuled a_0before a_0slots a_0isKept a_0buffer a_0chosen a_0last a_0corner a_0wide a_0cuts a_0aside known_0 length_0 (0 : Int32) many_0 round_0 seed_0 hash_0 table_0 s_0 cells_0 owner_0 code_0 isOver_0 all_0 some_0 isRuled_0)) hx hb hts hiX10 tyX10 tyX10_ok nmX10 hown hK hP hD hS 0 rfl rfl 7 (by decide) (hts (.fieldLink RX10 69 "PaddockFieldsModel" "thrown" "I") (List.mem_cons_of_mem _ (List.mem_append_left _ (List.mem_append_left _ (List.mem_of_getElem? (i := 0) rfl))))) (fun _ h9 => h9) rfl rfl rfl rfl (Nat.le_of_ble_eq_true rfl) rfl dX10_hint_2 (fun H locs hP hD hS => ?_)
  refine lv_aload_n hx hb dX10_hint_5 rfl (lv_at hl 0 rfl) ?_
  obtain ⟨s1, h_s1, hf⟩ := hf_bind hf
  refine wh_callv (D := (dC, dI)) (ws' := (wl_fM_hint cI cZ cJ cQ a_0 a_0table a_0s a_0cells a_0owner a_0code a_0isOver a_0all a_0some a_0isRuled a_0before a_0slots a_0isKept a_0buffer a_0chosen a_0last a_0corner a_0wide a_0cuts a_0aside known_0 length_0 (0 : Int32) s1.1 s1.2.2.2.2.2.2.1 seed_0 hash_0 s1.2.1 s_0 s1.2.2.1 s1.2.2.2.1 s1.2.2.2.2.1 s1.2.2.2.2.2.1 s1.2.2.2.2.2.2.2.1 s1.2.2.2.2.2.2.2.2.1 s1.2.2.2.2.2.2.2.2.2)) (va_runV (As := []) (rest := []) ⟨hx, hb, hml, hown, hts⟩ (c_fM_rules l dC dI cI cZ cJ cQ a_0 a_0table a_0s a_0cells a_0owner a_0code a_0isOver a_0all a_0some a_0isRuled a_0before a_0slots a_0isKept a_0buffer a_0chosen a_0last a_0corner a_0wide a_0cuts a_0aside known_0 length_0 (0 : Int32) seed_0 hash_0 _ h_s1) (cwV 0 hts gX10_hint_X10_rules rfl rfl rfl (by decide +kernel) ⟨Nat.le_of_ble_eq_true rfl, Nat.le_of_ble_eq_true rfl⟩) (wh_preV (C := RX10) (T := TX10) (N := 26) hK hN hP hD [0, 1, 2, 3, 4, 5, 6, 7, 8, 9] rfl rfl 10 0 rfl rfl) rfl rfl hl.1 rfl (lv_room (Nat.le_of_ble_eq_true rfl)) dX10_hint_6 ⟨Nat.le_refl _, Nat.le_refl _⟩) hP hD hS hA [0, 1, 2, 3, 4, 5, 6, 7, 8, 9] [] [0, 1, 2, 3, 4, 5, 6, 7, 8, 9] rfl rfl rfl rfl (fun H locs hP hD hS => ?_)
  refine lv_aload_n hx hb dX10_hint_9 rfl (lv_at hl 0 rfl) ?_
  obtain ⟨s2, h_s2, hf⟩ := hf_bind hf
  refine wh_calli (D := (dC, dI)) (ws' := (wl_fM_hint cI cZ cJ cQ a_0 a_0table a_0s a_0cells a_0owner a_0code a_0isOver a_0all a_0some a_0isRuled a_0before a_0slots a_0isKept a_0buffer a_0chosen a_0last a_0corner a_0wide a_0cuts a_0aside known_0 length_0 (0 : Int32) s1.1 s1.2.2.2.2.2.2.1 seed_0 hash_0 s1.2.1 s_0 s1.2.2.1 s1.2.2.2.1 s1.2.2.2.2.1 s1.2.2.2.2.2.1 s1.2.2.2.2.2.2.2.1 s1.2.2.2.2.2.2.2.2.1 s1.2.2.2.2.2.2.2.2.2)) (va_runV (As := []) (rest := []) ⟨hx, hb, hml, hown, hts⟩ (c_fM_isAgainst l dC dI cI cZ cJ cQ a_0 a_0s a_0some a_0before a_0slots a_0isKept a_0buffer a_0cells a_0owner a_0code a_0table a_0isOver a_0isRuled a_0all a_0chosen a_0last a_0corner a_0wide a_0cuts a_0aside known_0 length_0 (0 : Int32) s1.1 s1.2.2.2.2.2.2.1 seed_0 hash_0 _ h_s2) (cwV 0 hts gX10_hint_X10_isAgainst rfl rfl rfl (by decide +kernel) ⟨Nat.le_of_ble_eq_true rfl, Nat.le_of_ble_eq_true rfl⟩) (wh_preV (C := RX10) (T := TX10) (N := 26) hK hN hP hD [0, 2, 8] rfl rfl 10 0 rfl rfl) rfl rfl hl.1 rfl (lv_room (Nat.le_of_ble_eq_true rfl)) dX10_hint_10 ⟨Nat.le_refl _, Nat.le_refl _⟩) hP hD hS hA [0, 2, 8] [1, 3, 4, 5, 6, 7, 9] [7, 0, 8, 1, 2, 3, 4, 5, 9, 6] rfl rfl rfl rfl (fun H locs hP hD hS => ?_)
  refine lv_if_ne (tgt := 24) hx hb dX10_hint_13 (by decide) (fun cc => ?_) (fun cc => ?_)
  · replace hf := hf_pos cc hf
    refine lv_aload_n hx hb dX10_hint_24 rfl (lv_at hl 0 rfl) ?_
    refine lv_iconst (v := 1) hx hb dX10_hint_25 (by decide) ?_
    obtain ⟨s3, h_s3, hf⟩ := hf_bind hf
    refine wh_calli (D := (dC, dI)) (ws' := (wl_fM_hint cI cZ cJ cQ a_0 a_0table a_0s a_0cells a_0owner a_0code a_0isOver a_0all a_0some a_0isRuled a_0before a_0slots a_0isKept a_0buffer a_0chosen a_0last a_0corner a_0wide a_0cuts a_0aside known_0 length_0 s3.2 s1.1 s1.2.2.2.2.2.2.1 seed_0 hash_0 s1.2.1 s_0 s1.2.2.1 s1.2.2.2.1 s1.2.2.2.2.1 s1.2.2.2.2.2.1 s1.2.2.2.2.2.2.2.1 s1.2.2.2.2.2.2.2.2.1 s1.2.2.2.2.2.2.2.2.2)) (va_runV (As := [.int (1 : Int32)]) (rest := []) ⟨hx, hb, hml, hown, hts⟩ (c_fM_throwing l dC dI cI cZ cJ cQ a_0 a_0s a_0before a_0slots a_0isKept a_0buffer a_0cells a_0owner a_0code a_0table a_0isOver a_0isRuled a_0all a_0some a_0chosen a_0last a_0corner a_0wide a_0cuts a_0aside known_0 length_0 s1.1 s1.2.2.2.2.2.2.1 seed_0 hash_0 _ h_s3) (cwV 1 hts gX10_hint_X10_throwing rfl rfl rfl (by decide +kernel) ⟨Nat.le_of_ble_eq_true rfl, Nat.le_of_ble_eq_true rfl⟩) (wh_preV (C := RX10) (T := TX10) (N := 26) hK hN hP hD [0] rfl rfl 10 0 rfl rfl) rfl rfl hl.1 rfl (lv_room (Nat.le_of_ble_eq_true rfl)) dX10_hint_26 ⟨Nat.le_refl _, Nat.le_refl _⟩) hP hD hS hA [0] [1, 2, 3, 4, 5, 6, 7, 8, 9] [9, 0, 1, 2, 3, 4, 5, 6, 7, 8] rfl rfl rfl rfl (fun H locs hP hD hS => ?_)
    refine lv_goto (tgt := 36) hx hb dX10_hint_29 (by decide) ?_
    obtain rfl := Option.some.inj hf
    exact hret _ _ _ _ hP hD hS dX10_hint_36
  · replace hf := hf_neg (not_not_intro cc) hf
    refine lv_aload_n hx hb dX10_hint_16 rfl (lv_at hl 0 rfl) ?_
    obtain ⟨s4, h_s4, hf⟩ := hf_bind hf
    refine wh_calli (D := (dC, dI)) (ws' := (wl_fM_hint cI cZ cJ cQ a_0 a_0table a_0s a_0cells a_0owner a_0code a_0isOver a_0all a_0some a_0isRuled a_0before a_0slots a_0isKept a_0buffer a_0chosen a_0last a_0corner a_0wide a_0cuts a_0aside known_0 length_0 (0 : Int32) s1.1 s1.2.2.2.2.2.2.1 seed_0 hash_0 s1.2.1 s_0 s1.2.2.1 s1.2.2.2.1 s1.2.2.2.2.1 s1.2.2.2.2.2.1 s1.2.2.2.2.2.2.2.1 s1.2.2.2.2.2.2.2.2.1 s1.2.2.2.2.2.2.2.2.2)) (va_runV (As := []) (rest := []) ⟨hx, hb, hml, hown, hts⟩ (c_fM_firstSure l dC dI cI cZ cJ cQ a_0 a_0s a_0owner a_0isOver a_0before a_0slots a_0isKept a_0buffer a_0cells a_0code a_0table a_0isRuled a_0all a_0some a_0chosen a_0last a_0corner a_0wide a_0cuts a_0aside known_0 length_0 (0 : Int32) s1.2.2.2.2.2.2.1 seed_0 hash_0 _ h_s4) (cwV 0 hts gX10_hint_X10_firstSure rfl rfl rfl (by decide +kernel) ⟨Nat.le_of_ble_eq_true rfl, Nat.le_of_ble_eq_true rfl⟩) (wh_preV (C := RX10) (T := TX10) (N := 26) hK hN hP hD [0, 2, 4, 6] rfl rfl 10 0 rfl rfl) rfl rfl hl.1 rfl (lv_room (Nat.le_of_ble_eq_true rfl)) dX10_hint_17 ⟨Nat.le_refl _, Nat.le_refl _⟩) hP hD hS hA [0, 2, 4, 6] [1, 3, 5, 7, 8, 9] [6, 0, 7, 1, 8, 2, 9, 3, 4, 5] rfl rfl rfl rfl (fun H locs hP hD hS => ?_)
    refine lv_iconst (v := -1) hx hb dX10_hint_20 (by decide) ?_
    refine lv_icmp_ne (tgt := 32) hx hb dX10_hint_21 (by decide) (fun cc => ?_) (fun cc => ?_)
    · replace hf := hf_pos cc hf
      refine lv_aload_n hx hb dX10_hint_32 rfl (lv_at hl 0 rfl) ?_
      obtain ⟨s5, h_s5, hf⟩ := hf_bind hf
      refine wh_calli (D := (dC, dI)) (ws' := (wl_fM_hint cI cZ cJ cQ a_0 a_0table a_0s a_0cells a_0owner a_0code a_0isOver a_0all a_0some a_0isRuled a_0before a_0slots a_0isKept a_0buffer a_0chosen a_0last a_0corner a_0wide a_0cuts a_0aside known_0 length_0 (0 : Int32) s1.1 s1.2.2.2.2.2.2.1 seed_0 hash_0 s1.2.1 s_0 s1.2.2.1 s1.2.2.2.1 s1.2.2.2.2.1 s1.2.2.2.2.2.1 s1.2.2.2.2.2.2.2.1 s1.2.2.2.2.2.2.2.2.1 s1.2.2.2.2.2.2.2.2.2)) (va_runV (As := []) (rest := []) ⟨hx, hb, hml, hown, hts⟩ (c_fM_firstSure l dC dI cI cZ cJ cQ a_0 a_0s a_0owner a_0isOver a_0before a_0slots a_0isKept a_0buffer a_0cells a_0code a_0table a_0isRuled a_0all a_0some a_0chosen a_0last a_0corner a_0wide a_0cuts a_0aside known_0 length_0 (0 : Int32) s1.2.2.2.2.2.2.1 seed_0 hash_0 _ h_s5) (cwV 0 hts gX10_hint_X10_firstSure rfl rfl rfl (by decide +kernel) ⟨Nat.le_of_ble_eq_true rfl, Nat.le_of_ble_eq_true rfl⟩) (wh_preV (C := RX10) (T := TX10) (N := 26) hK hN hP hD [0, 2, 4, 6] rfl rfl 10 0 rfl rfl) rfl rfl hl.1 rfl (lv_room (Nat.le_of_ble_eq_true rfl)) dX10_hint_33 ⟨Nat.le_refl _, Nat.le_refl _⟩) hP hD hS hA [0, 2, 4, 6] [1, 3, 5, 7, 8, 9] [6, 0, 7, 1, 8, 2, 9, 3, 4, 5] rfl rfl rfl rfl (fun H locs hP hD hS => ?_)
      obtain rfl := Option.some.inj hf
      exact hret _ _ _ _ hP hD hS dX10_hint_36
    · replace hf := hf_neg (not_not_intro cc) hf
      refine lv_aload_n hx hb dX10_hint_24 rfl (lv_at hl 0 rfl) ?_
      refine lv_iconst (v := 1) hx hb dX10_hint_25 (by decide) ?_
      obtain ⟨s6, h_s6, hf⟩ := hf_bind hf
      refine wh_calli (D := (dC, dI)) (ws' := (wl_fM_hint cI cZ cJ cQ a_0 a_0table a_0s a_0cells a_0owner a_0code a_0isOver a_0all a_0some a_0isRuled a_0before a_0slots a_0isKept a_0buffer a_0chosen a_0last a_0corner a_0wide a_0cuts a_0aside known_0 length_0 s6.2 s1.1 s1.2.2.2.2.2.2.1 seed_0 hash_0 s1.2.1 s_0 s1.2.2.1 s1.2.2.2.1 s1.2.2.2.2.1 s1.2.2.2.2.2.1 s1.2.2.2.2.2.2.2.1 s1.2.2.2.2.2.2.2.2.1 s1.2.2.2.2.2.2.2.2.2)) (va_runV (As := [.int (1 : Int32)]) (rest := []) ⟨hx, hb, hml, hown, hts⟩ (c_fM_throwing l dC dI cI cZ cJ cQ a_0 a_0s a_0before a_0slots a_0isKept a_0buffer a_0cells a_0owner a_0code a_0table a_0isOver a_0isRuled a_0all a_0some a_0chosen a_0last a_0corner a_0wide a_0cuts a_0aside known_0 length_0 s1.1 s1.2.2.2.2.2.2.1 seed_0 hash_0 _ h_s6) (cwV 1 hts gX10_hint_X10_throwing rfl rfl rfl (by decide +kernel) ⟨Nat.le_of_ble_eq_true rfl, Nat.le_of_ble_eq_true rfl⟩) (wh_preV (C := RX10) (T := TX10) (N := 26) hK hN hP hD [0] rfl rfl 10 0 rfl rfl) rfl rfl hl.1 rfl (lv_room (Nat.le_of_ble_eq_true rfl)) dX10_hint_26 ⟨Nat.le_refl _, Nat.le_refl _⟩) hP hD hS hA [0] [1, 2, 3, 4, 5, 6, 7, 8, 9] [9, 0, 1, 2, 3, 4, 5, 6, 7, 8] rfl rfl rfl rfl (fun H locs hP hD hS => ?_)
      refine lv_goto (tgt := 36) hx hb dX10_hint_29 (by decide) ?_
      obtain rfl := Option.some.inj hf
      exact hret _ _ _ _ hP hD hS dX10_hint_36
set_option maxHeartbeats 4000000 in
set_option maxRecDepth 100000 in
theorem c_fM_waysByNumbers (l : Launch) (dC : Nat → ClassId) (dI : Nat → Nat → Nat) (cI cZ cJ cQ : ClassId) (a_0 a_0table a_0s a_0cells a_0owner a_0code a_0last a_0chosen a_0corner a_0wide a_0before a_0slots a_0isKept a_0buffer a_0isOver a_0isRuled a_0all a_0some a_0cuts a_0aside : Nat) (known_0 : Int32) (length_0 : Int32) (round_0 : Int32) (seed_0 : Int64) (hash_0 : Int64) (sz : Nat) {F : Nat} {thrown_0 : Int32} {many_0 : Int32} {table_0 : Nat → Int32} {s_0 : Nat → Int32} {cells_0 : Nat → Int64} {owner_0 : Nat → Int32} {code_0 : Nat → Int32} {last_0 : Nat → Int32} {chosen_0 : Nat → Int32} {corner_0 : Nat → Int32} {wide_0 : Nat → Int32} {out : Int32 × Int32 × Int32 × (Nat → Int32) × (Nat → Int64) × (Nat → Int32) × (Nat → Int32) × (Nat → Int32) × (Nat → Int32) × (Nat → Int32) × (Nat → Int32)} (hf : fM_waysByNumbers F thrown_0 many_0 table_0 s_0 cells_0 owner_0 code_0 last_0 chosen_0 corner_0 wide_0 = some out) : Met l yX10_waysByNumbers wsX10_waysByNumbers ({ frames := 4, cells := 0, slots := 0, locals := 115 } : Room) (va_Pc [.ref a_0] (wlP (dC, dI) (wlT cI cZ cJ cQ) (wl_fM_waysByNumbers cI cZ cJ cQ a_0 a_0table a_0s a_0cells a_0owner a_0code a_0last a_0chosen a_0corner a_0wide a_0before a_0slots a_0isKept a_0buffer a_0isOver a_0isRuled a_0all a_0some a_0cuts a_0aside known_0 length_0 thrown_0 many_0 round_0 seed_0 hash_0 table_0 s_0 cells_0 owner_0 code_0 last_0 chosen_0 corner_0 wide_0) sz)) (va_Qi (fun (v : Int32) (_ : Unit) => v = out.1) (wlQ (dC, dI) (va_A (wl_fM_waysByNumbers cI cZ cJ cQ a_0 a_0table a_0s a_0cells a_0owner a_0code a_0last a_0chosen a_0corner a_0wide a_0before a_0slots a_0isKept a_0buffer a_0isOver a_0isRuled a_0all a_0some a_0cuts a_0aside known_0 length_0 thrown_0 many_0 round_0 seed_0 hash_0 table_0 s_0 cells_0 owner_0 code_0 last_0 chosen_0 corner_0 wide_0) sz) (wl_fM_waysByNumbers cI cZ cJ cQ a_0 a_0table a_0s a_0cells a_0owner a_0code a_0last a_0chosen a_0corner a_0wide a_0before a_0slots a_0isKept a_0buffer a_0isOver a_0isRuled a_0all a_0some a_0cuts a_0aside known_0 length_0 out.2.1 out.2.2.1 round_0 seed_0 hash_0 out.2.2.2.1 s_0 out.2.2.2.2.1 out.2.2.2.2.2.1 out.2.2.2.2.2.2.1 out.2.2.2.2.2.2.2.1 out.2.2.2.2.2.2.2.2.1 out.2.2.2.2.2.2.2.2.2.1 out.2.2.2.2.2.2.2.2.2.2)) (va_A (wl_fM_waysByNumbers cI cZ cJ cQ a_0 a_0table a_0s a_0cells a_0owner a_0code a_0last a_0chosen a_0corner a_0wide a_0before a_0slots a_0isKept a_0buffer a_0isOver a_0isRuled a_0all a_0some a_0cuts a_0aside known_0 length_0 thrown_0 many_0 round_0 seed_0 hash_0 table_0 s_0 cells_0 owner_0 code_0 last_0 chosen_0 corner_0 wide_0) sz)) 0 0 (va_A (wl_fM_waysByNumbers cI cZ cJ cQ a_0 a_0table a_0s a_0cells a_0owner a_0code a_0last a_0chosen a_0corner a_0wide a_0before a_0slots a_0isKept a_0buffer a_0isOver a_0isRuled a_0all a_0some a_0cuts a_0aside known_0 length_0 thrown_0 many_0 round_0 seed_0 hash_0 table_0 s_0 cells_0 owner_0 code_0 last_0 chosen_0 corner_0 wide_0) sz) := by
  refine wh_ofWi (lv := [(0, .ref a_0)]) RX10 (by decide) rfl rfl (Nat.le_of_ble_eq_true rfl) rfl ?_
  intro p e s m below meth c A QQ hx hb hml hown hts hP hK hN hD hA hret ls hl
  have hS : va_S A s.heap s.heap [] := va_S.rf
  have hiX10 : ∀ w ∈ wsX100, w ∈ wsX10_waysByNumbers := (fun _ h => List.mem_cons_of_mem _ (List.mem_append_right _ (h)))
  unfold fM_waysByNumbers at hf
  refine lv_aload_n hx hb dX10_waysByNumbers_0 rfl (lv_at hl 0 rfl) ?_
  refine lv_iconst (v := 0) hx hb dX10_waysByNumbers_1 (by decide) ?_
  refine wh_put (D := (dC, dI)) (ci := 10) (C := RX10) (T := TX10) (N := 26) (ty := .int) (v := .int (0 : Int32)) (ws' := (wl_fM_waysByNumbers cI cZ cJ cQ a_0 a_0table a_0s a_0cells a_0owner a_0code a_0last a_0chosen a_0corner a_0wide a_0before a_0slots a_0isKept a_0buffer a_0isOver a_0isRuled a_0all a_0some a_0cuts a_0aside known_0 length_0 (0 : Int32) many_0 round_0 seed_0 hash_0 table_0 s_0 cells_0 owner_0 code_0 last_0 chosen_0 corner_0 wide_0)) hx hb hts hiX10 tyX10 tyX10_ok nmX10 hown hK hP hD hS 0 rfl rfl 7 (by decide) (hts (.fieldLink RX10 69 "PaddockFieldsModel" "thrown" "I") (List.mem_cons_of_mem _ (List.mem_append_left _ (List.mem_append_left _ (List.mem_of_getElem? (i := 0) rfl))))) (fun _ h9 => h9) rfl rfl rfl rfl (Nat.le_of_ble_eq_true rfl) rfl dX10_waysByNumbers_2 (fun H locs hP hD hS => ?_)
  refine lv_aload_n hx hb dX10_waysByNumbers_5 rfl (lv_at hl 0 rfl) ?_
  refine lv_bipush (v := 50) hx hb dX10_waysByNumbers_6 (by decide) ?_
  obtain ⟨s1, h_s1, hf⟩ := hf_bind hf
  refine wh_calli (D := (dC, dI)) (ws' := (wl_fM_waysByNumbers cI cZ cJ cQ a_0 a_0table a_0s a_0cells a_0owner a_0code a_0last a_0chosen a_0corner a_0wide a_0before a_0slots a_0isKept a_0buffer a_0isOver a_0isRuled a_0all a_0some a_0cuts a_0aside known_0 length_0 (0 : Int32) s1.2.1 round_0 seed_0 hash_0 s1.2.2.1 s_0 s1.2.2.2.1 s1.2.2.2.2.1 s1.2.2.2.2.2.1 s1.2.2.2.2.2.2.1 s1.2.2.2.2.2.2.2.1 s1.2.2.2.2.2.2.2.2.1 s1.2.2.2.2.2.2.2.2.2)) (va_runV (As := [.int (50 : Int32)]) (rest := []) ⟨hx, hb, hml, hown, hts⟩ (c_fM_ways l dC dI cI cZ cJ cQ a_0 a_0table a_0s a_0cells a_0owner a_0code a_0last a_0chosen a_0corner a_0wide a_0before a_0slots a_0isKept a_0buffer a_0isOver a_0isRuled a_0all a_0some a_0cuts a_0aside known_0 length_0 (0 : Int32) round_0 seed_0 hash_0 _ h_s1) (cwV 1 hts gX10_waysByNumbers_X10_ways rfl rfl rfl (by decide +kernel) ⟨Nat.le_of_ble_eq_true rfl, Nat.le_of_ble_eq_true rfl⟩) (wh_preV (C := RX10) (T := TX10) (N := 26) hK hN hP hD [0, 1, 2, 3, 4, 5, 6, 7, 8, 9] rfl rfl 10 0 rfl rfl) rfl rfl hl.1 rfl (lv_room (Nat.le_of_ble_eq_true rfl)) dX10_waysByNumbers_8 ⟨Nat.le_refl _, Nat.le_refl _⟩) hP hD hS hA [0, 1, 2, 3, 4, 5, 6, 7, 8, 9] [] [0, 1, 2, 3, 4, 5, 6, 7, 8, 9] rfl rfl rfl rfl (fun H locs hP hD hS => ?_)
  obtain rfl := Option.some.inj hf
  exact hret _ _ _ _ hP hD hS dX10_waysByNumbers_11
set_option maxHeartbeats 4000000 in
set_option maxRecDepth 100000 in
theorem c_fM_waysByCells (l : Launch) (dC : Nat → ClassId) (dI : Nat → Nat → Nat) (cI cZ cJ cQ : ClassId) (a_0 a_0table a_0s a_0cells a_0owner a_0code a_0last a_0chosen a_0corner a_0wide a_0before a_0slots a_0isKept a_0buffer a_0isOver a_0isRuled a_0all a_0some a_0cuts a_0aside : Nat) (known_0 : Int32) (length_0 : Int32) (round_0 : Int32) (seed_0 : Int64) (hash_0 : Int64) (sz : Nat) {F : Nat} {thrown_0 : Int32} {many_0 : Int32} {table_0 : Nat → Int32} {s_0 : Nat → Int32} {cells_0 : Nat → Int64} {owner_0 : Nat → Int32} {code_0 : Nat → Int32} {last_0 : Nat → Int32} {chosen_0 : Nat → Int32} {corner_0 : Nat → Int32} {wide_0 : Nat → Int32} {out : Int32 × Int32 × Int32 × (Nat → Int32) × (Nat → Int64) × (Nat → Int32) × (Nat → Int32) × (Nat → Int32) × (Nat → Int32) × (Nat → Int32) × (Nat → Int32)} (hf : fM_waysByCells F thrown_0 many_0 table_0 s_0 cells_0 owner_0 code_0 last_0 chosen_0 corner_0 wide_0 = some out) : Met l yX10_waysByCells wsX10_waysByCells ({ frames := 4, cells := 0, slots := 0, locals := 115 } : Room) (va_Pc [.ref a_0] (wlP (dC, dI) (wlT cI cZ cJ cQ) (wl_fM_waysByCells cI cZ cJ cQ a_0 a_0table a_0s a_0cells a_0owner a_0code a_0last a_0chosen a_0corner a_0wide a_0before a_0slots a_0isKept a_0buffer a_0isOver a_0isRuled a_0all a_0some a_0cuts a_0aside known_0 length_0 thrown_0 many_0 round_0 seed_0 hash_0 table_0 s_0 cells_0 owner_0 code_0 last_0 chosen_0 corner_0 wide_0) sz)) (va_Qi (fun (v : Int32) (_ : Unit) => v = out.1) (wlQ (dC, dI) (va_A (wl_fM_waysByCells cI cZ cJ cQ a_0 a_0table a_0s a_0cells a_0owner a_0code a_0last a_0chosen a_0corner a_0wide a_0before a_0slots a_0isKept a_0buffer a_0isOver a_0isRuled a_0all a_0some a_0cuts a_0aside known_0 length_0 thrown_0 many_0 round_0 seed_0 hash_0 table_0 s_0 cells_0 owner_0 code_0 last_0 chosen_0 corner_0 wide_0) sz) (wl_fM_waysByCells cI cZ cJ cQ a_0 a_0table a_0s a_0cells a_0owner a_0code a_0last a_0chosen a_0corner a_0wide a_0before a_0slots a_0isKept a_0buffer a_0isOver a_0isRuled a_0all a_0some a_0cuts a_0aside known_0 length_0 out.2.1 out.2.2.1 round_0 seed_0 hash_0 out.2.2.2.1 s_0 out.2.2.2.2.1 out.2.2.2.2.2.1 out.2.2.2.2.2.2.1 out.2.2.2.2.2.2.2.1 out.2.2.2.2.2.2.2.2.1 out.2.2.2.2.2.2.2.2.2.1 out.2.2.2.2.2.2.2.2.2.2)) (va_A (wl_fM_waysByCells cI cZ cJ cQ a_0 a_0table a_0s a_0cells a_0owner a_0code a_0last a_0chosen a_0corner a_0wide a_0before a_0slots a_0isKept a_0buffer a_0isOver a_0isRuled a_0all a_0some a_0cuts a_0aside known_0 length_0 thrown_0 many_0 round_0 seed_0 hash_0 table_0 s_0 cells_0 owner_0 code_0 last_0 chosen_0 corner_0 wide_0) sz)) 0 0 (va_A (wl_fM_waysByCells cI cZ cJ cQ a_0 a_0table a_0s a_0cells a_0owner a_0code a_0last a_0chosen a_0corner a_0wide a_0before a_0slots a_0isKept a_0buffer a_0isOver a_0isRuled a_0all a_0some a_0cuts a_0aside known_0 length_0 thrown_0 many_0 round_0 seed_0 hash_0 table_0 s_0 cells_0 owner_0 code_0 last_0 chosen_0 corner_0 wide_0) sz) := by
  refine wh_ofWi (lv := [(0, .ref a_0)]) RX10 (by decide) rfl rfl (Nat.le_of_ble_eq_true rfl) rfl ?_
  intro p e s m below meth c A QQ hx hb hml hown hts hP hK hN hD hA hret ls hl
  have hS : va_S A s.heap s.heap [] := va_S.rf
  have hiX10 : ∀ w ∈ wsX100, w ∈ wsX10_waysByCells := (fun _ h => List.mem_cons_of_mem _ (List.mem_append_right _ (h)))
  unfold fM_waysByCells at hf
  refine lv_aload_n hx hb dX10_waysByCells_0 rfl (lv_at hl 0 rfl) ?_
  refine lv_iconst (v := 0) hx hb dX10_waysByCells_1 (by decide) ?_
  refine wh_put (D := (dC, dI)) (ci := 10) (C := RX10) (T := TX10) (N := 26) (ty := .int) (v := .int (0 : Int32)) (ws' := (wl_fM_waysByCells cI cZ cJ cQ a_0 a_0table a_0s a_0cells a_0owner a_0code a_0last a_0chosen a_0corner a_0wide a_0before a_0slots a_0isKept a_0buffer a_0isOver a_0isRuled a_0all a_0some a_0cuts a_0aside known_0 length_0 (0 : Int32) many_0 round_0 seed_0 hash_0 table_0 s_0 cells_0 owner_0 code_0 last_0 chosen_0 corner_0 wide_0)) hx hb hts hiX10 tyX10 tyX10_ok nmX10 hown hK hP hD hS 0 rfl rfl 7 (by decide) (hts (.fieldLink RX10 69 "PaddockFieldsModel" "thrown" "I") (List.mem_cons_of_mem _ (List.mem_append_left _ (List.mem_append_left _ (List.mem_of_getElem? (i := 0) rfl))))) (fun _ h9 => h9) rfl rfl rfl rfl (Nat.le_of_ble_eq_true rfl) rfl dX10_waysByCells_2 (fun H locs hP hD hS => ?_)
  refine lv_aload_n hx hb dX10_waysByCells_5 rfl (lv_at hl 0 rfl) ?_
  refine lv_bipush (v := 50) hx hb dX10_waysByCells_6 (by decide) ?_
  obtain ⟨s1, h_s1, hf⟩ := hf_bind hf
  refine wh_calli (D := (dC, dI)) (ws' := (wl_fM_waysByCells cI cZ cJ cQ a_0 a_0table a_0s a_0cells a_0owner a_0code a_0last a_0chosen a_0corner a_0wide a_0before a_0slots a_0isKept a_0buffer a_0isOver a_0isRuled a_0all a_0some a_0cuts a_0aside known_0 length_0 (0 : Int32) s1.2.1 round_0 seed_0 hash_0 s1.2.2.1 s_0 s1.2.2.2.1 s1.2.2.2.2.1 s1.2.2.2.2.2.1 s1.2.2.2.2.2.2.1 s1.2.2.2.2.2.2.2.1 s1.2.2.2.2.2.2.2.2.1 s1.2.2.2.2.2.2.2.2.2)) (va_runV (As := [.int (50 : Int32)]) (rest := []) ⟨hx, hb, hml, hown, hts⟩ (c_fM_ways l dC dI cI cZ cJ cQ a_0 a_0table a_0s a_0cells a_0owner a_0code a_0last a_0chosen a_0corner a_0wide a_0before a_0slots a_0isKept a_0buffer a_0isOver a_0isRuled a_0all a_0some a_0cuts a_0aside known_0 length_0 (0 : Int32) round_0 seed_0 hash_0 _ h_s1) (cwV 1 hts gX10_waysByCells_X10_ways rfl rfl rfl (by decide +kernel) ⟨Nat.le_of_ble_eq_true rfl, Nat.le_of_ble_eq_true rfl⟩) (wh_preV (C := RX10) (T := TX10) (N := 26) hK hN hP hD [0, 1, 2, 3, 4, 5, 6, 7, 8, 9] rfl rfl 10 0 rfl rfl) rfl rfl hl.1 rfl (lv_room (Nat.le_of_ble_eq_true rfl)) dX10_waysByCells_8 ⟨Nat.le_refl _, Nat.le_refl _⟩) hP hD hS hA [0, 1, 2, 3, 4, 5, 6, 7, 8, 9] [] [0, 1, 2, 3, 4, 5, 6, 7, 8, 9] rfl rfl rfl rfl (fun H locs hP hD hS => ?_)
  obtain rfl := Option.some.inj hf
  exact hret _ _ _ _ hP hD hS dX10_waysByCells_11
set_option maxHeartbeats 4000000 in
set_option maxRecDepth 100000 in
theorem c_fM_isUnique (l : Launch) (dC : Nat → ClassId) (dI : Nat → Nat → Nat) (cI cZ cJ cQ : ClassId) (a_0 a_0table a_0s a_0cells a_0owner a_0code a_0last a_0chosen a_0corner a_0wide a_0before a_0slots a_0isKept a_0buffer a_0isOver a_0isRuled a_0all a_0some a_0cuts a_0aside : Nat) (known_0 : Int32) (length_0 : Int32) (round_0 : Int32) (seed_0 : Int64) (hash_0 : Int64) (sz : Nat) {F : Nat} {thrown_0 : Int32} {many_0 : Int32} {table_0 : Nat → Int32} {s_0 : Nat → Int32} {cells_0 : Nat → Int64} {owner_0 : Nat → Int32} {code_0 : Nat → Int32} {last_0 : Nat → Int32} {chosen_0 : Nat → Int32} {corner_0 : Nat → Int32} {wide_0 : Nat → Int32} {out : Int32 × Int32 × Int32 × (Nat → Int32) × (Nat → Int64) × (Nat → Int32) × (Nat → Int32) × (Nat → Int32) × (Nat → Int32) × (Nat → Int32) × (Nat → Int32)} (hf : fM_isUnique F thrown_0 many_0 table_0 s_0 cells_0 owner_0 code_0 last_0 chosen_0 corner_0 wide_0 = some out) : Met l yX10_isUnique wsX10_isUnique ({ frames := 4, cells := 0, slots := 0, locals := 115 } : Room) (va_Pc [.ref a_0] (wlP (dC, dI) (wlT cI cZ cJ cQ) (wl_fM_isUnique cI cZ cJ cQ a_0 a_0table a_0s a_0cells a_0owner a_0code a_0last a_0chosen a_0corner a_0wide a_0before a_0slots a_0isKept a_0buffer a_0isOver a_0isRuled a_0all a_0some a_0cuts a_0aside known_0 length_0 thrown_0 many_0 round_0 seed_0 hash_0 table_0 s_0 cells_0 owner_0 code_0 last_0 chosen_0 corner_0 wide_0) sz)) (va_Qi (fun (v : Int32) (_ : Unit) => v = out.1) (wlQ (dC, dI) (va_A (wl_fM_isUnique cI cZ cJ cQ a_0 a_0table a_0s a_0cells a_0owner a_0code a_0last a_0chosen a_0corner a_0wide a_0before a_0slots a_0isKept a_0buffer a_0isOver a_0isRuled a_0all a_0some a_0cuts a_0aside known_0 length_0 thrown_0 many_0 round_0 seed_0 hash_0 table_0 s_0 cells_0 owner_0 code_0 last_0 chosen_0 corner_0 wide_0) sz) (wl_fM_isUnique cI cZ cJ cQ a_0 a_0table a_0s a_0cells a_0owner a_0code a_0last a_0chosen a_0corner a_0wide a_0before a_0slots a_0isKept a_0buffer a_0isOver a_0isRuled a_0all a_0some a_0cuts a_0aside known_0 length_0 out.2.1 out.2.2.1 round_0 seed_0 hash_0 out.2.2.2.1 s_0 out.2.2.2.2.1 out.2.2.2.2.2.1 out.2.2.2.2.2.2.1 out.2.2.2.2.2.2.2.1 out.2.2.2.2.2.2.2.2.1 out.2.2.2.2.2.2.2.2.2.1 out.2.2.2.2.2.2.2.2.2.2)) (va_A (wl_fM_isUnique cI cZ cJ cQ a_0 a_0table a_0s a_0cells a_0owner a_0code a_0last a_0chosen a_0corner a_0wide a_0before a_0slots a_0isKept a_0buffer a_0isOver a_0isRuled a_0all a_0some a_0cuts a_0aside known_0 length_0 thrown_0 many_0 round_0 seed_0 hash_0 table_0 s_0 cells_0 owner_0 code_0 last_0 chosen_0 corner_0 wide_0) sz)) 0 0 (va_A (wl_fM_isUnique cI cZ cJ cQ a_0 a_0table a_0s a_0cells a_0owner a_0code a_0last a_0chosen a_0corner a_0wide a_0before a_0slots a_0isKept a_0buffer a_0isOver a_0isRuled a_0all a_0some a_0cuts a_0aside known_0 length_0 thrown_0 many_0 round_0 seed_0 hash_0 table_0 s_0 cells_0 owner_0 code_0 last_0 chosen_0 corner_0 wide_0) sz) := by
  refine wh_ofWz (lv := [(0, .ref a_0)]) RX10 (by decide) rfl rfl (Nat.le_of_ble_eq_true rfl) rfl ?_
  intro p e s m below meth c A QQ hx hb hml hown hts hP hK hN hD hA hret ls hl
  have hS : va_S A s.heap s.heap [] := va_S.rf
  have hiX10 : ∀ w ∈ wsX100, w ∈ wsX10_isUnique := (fun _ h => List.mem_cons_of_mem _ (List.mem_append_right _ (h)))
  unfold fM_isUnique at hf
  refine lv_aload_n hx hb dX10_isUnique_0 rfl (lv_at hl 0 rfl) ?_
  refine lv_iconst (v := 0) hx hb dX10_isUnique_1 (by decide) ?_
  refine wh_put (D := (dC, dI)) (ci := 10) (C := RX10) (T := TX10) (N := 26) (ty := .int) (v := .int (0 : Int32)) (ws' := (wl_fM_isUnique cI cZ cJ cQ a_0 a_0table a_0s a_0cells a_0owner a_0code a_0last a_0chosen a_0corner a_0wide a_0before a_0slots a_0isKept a_0buffer a_0isOver a_0isRuled a_0all a_0some a_0cuts a_0aside known_0 length_0 (0 : Int32) many_0 round_0 seed_0 hash_0 table_0 s_0 cells_0 owner_0 code_0 last_0 chosen_0 corner_0 wide_0)) hx hb hts hiX10 tyX10 tyX10_ok nmX10 hown hK hP hD hS 0 rfl rfl 7 (by decide) (hts (.fieldLink RX10 69 "PaddockFieldsModel" "thrown" "I") (List.mem_cons_of_mem _ (List.mem_append_left _ (List.mem_append_left _ (List.mem_of_getElem? (i := 0) rfl))))) (fun _ h9 => h9) rfl rfl rfl rfl (Nat.le_of_ble_eq_true rfl) rfl dX10_isUnique_2 (fun H locs hP hD hS => ?_)
  refine lv_aload_n hx hb dX10_isUnique_5 rfl (lv_at hl 0 rfl) ?_
  refine lv_iconst (v := 2) hx hb dX10_isUnique_6 (by decide) ?_
  obtain ⟨s1, h_s1, hf⟩ := hf_bind hf
  refine wh_calli (D := (dC, dI)) (ws' := (wl_fM_isUnique cI cZ cJ cQ a_0 a_0table a_0s a_0cells a_0owner a_0code a_0last a_0chosen a_0corner a_0wide a_0before a_0slots a_0isKept a_0buffer a_0isOver a_0isRuled a_0all a_0some a_0cuts a_0aside known_0 length_0 (0 : Int32) s1.2.1 round_0 seed_0 hash_0 s1.2.2.1 s_0 s1.2.2.2.1 s1.2.2.2.2.1 s1.2.2.2.2.2.1 s1.2.2.2.2.2.2.1 s1.2.2.2.2.2.2.2.1 s1.2.2.2.2.2.2.2.2.1 s1.2.2.2.2.2.2.2.2.2)) (va_runV (As := [.int (2 : Int32)]) (rest := []) ⟨hx, hb, hml, hown, hts⟩ (c_fM_ways l dC dI cI cZ cJ cQ a_0 a_0table a_0s a_0cells a_0owner a_0code a_0last a_0chosen a_0corner a_0wide a_0before a_0slots a_0isKept a_0buffer a_0isOver a_0isRuled a_0all a_0some a_0cuts a_0aside known_0 length_0 (0 : Int32) round_0 seed_0 hash_0 _ h_s1) (cwV 1 hts gX10_isUnique_X10_ways rfl rfl rfl (by decide +kernel) ⟨Nat.le_of_ble_eq_true rfl, Nat.le_of_ble_eq_true rfl⟩) (wh_preV (C := RX10) (T := TX10) (N := 26) hK hN hP hD [0, 1, 2, 3, 4, 5, 6, 7, 8, 9] rfl rfl 10 0 rfl rfl) rfl rfl hl.1 rfl (lv_room (Nat.le_of_ble_eq_true rfl)) dX10_isUnique_7 ⟨Nat.le_refl _, Nat.le_refl _⟩) hP hD hS hA [0, 1, 2, 3, 4, 5, 6, 7, 8, 9] [] [0, 1, 2, 3, 4, 5, 6, 7, 8, 9] rfl rfl rfl rfl (fun H locs hP hD hS => ?_)
  refine lv_iconst (v := 1) hx hb dX10_isUnique_10 (by decide) ?_
  refine lv_icmp_ne (tgt := 18) hx hb dX10_isUnique_11 (by decide) (fun cc => ?_) (fun cc => ?_)
  · replace hf := hf_pos cc hf
    refine lv_iconst (v := 0) hx hb dX10_isUnique_18 (by decide) ?_
    obtain rfl := Option.some.inj hf
    exact hret _ _ _ _ (show narrow .boolean (.int (0 : Int32)) = .int (0 : Int32) by decide) hP hD hS dX10_isUnique_19
  · replace hf := hf_neg (not_not_intro cc) hf
    refine lv_iconst (v := 1) hx hb dX10_isUnique_14 (by decide) ?_
    refine lv_goto (tgt := 19) hx hb dX10_isUnique_15 (by decide) ?_
    obtain rfl := Option.some.inj hf
    exact hret _ _ _ _ (show narrow .boolean (.int (1 : Int32)) = .int (1 : Int32) by decide) hP hD hS dX10_isUnique_19
set_option maxHeartbeats 4000000 in
set_option maxRecDepth 100000 in
theorem c_fM_inFirst (l : Launch) (dC : Nat → ClassId) (dI : Nat → Nat → Nat) (cI cZ cJ cQ : ClassId) (a_0 a_0s a_0table a_0cells a_0owner a_0code a_0last a_0chosen a_0corner a_0wide a_0before a_0slots a_0isKept a_0buffer a_0isOver a_0isRuled a_0all a_0some a_0cuts a_0aside : Nat) (known_0 : Int32) (length_0 : Int32) (round_0 : Int32) (seed_0 : Int64) (hash_0 : Int64) (sz : Nat) {F : Nat} {x1 : Int32} {x2 : Int32} {x3 : Int32} {s_0 : Nat → Int32} {thrown_0 : Int32} {many_0 : Int32} {table_0 : Nat → Int32} {cells_0 : Nat → Int64} {owner_0 : Nat → Int32} {code_0 : Nat → Int32} {last_0 : Nat → Int32} {chosen_0 : Nat → Int32} {corner_0 : Nat → Int32} {wide_0 : Nat → Int32} {out : Int32 × Int32 × Int32 × (Nat → Int32) × (Nat → Int64) × (Nat → Int32) × (Nat → Int32) × (Nat → Int32) × (Nat → Int32) × (Nat → Int32) × (Nat → Int32)} (hf : fM_inFirst F x1 x2 x3 s_0 thrown_0 many_0 table_0 cells_0 owner_0 code_0 last_0 chosen_0 corner_0 wide_0 = some out) : Met l yX10_inFirst wsX10_inFirst ({ frames := 4, cells := 0, slots := 0, locals := 115 } : Room) (va_Pc [.ref a_0, .int x1, .int x2, .int x3] (wlP (dC, dI) (wlT cI cZ cJ cQ) (wl_fM_inFirst cI cZ cJ cQ a_0 a_0s a_0table a_0cells a_0owner a_0code a_0last a_0chosen a_0corner a_0wide a_0before a_0slots a_0isKept a_0buffer a_0isOver a_0isRuled a_0all a_0some a_0cuts a_0aside known_0 length_0 thrown_0 many_0 round_0 seed_0 hash_0 s_0 table_0 cells_0 owner_0 code_0 last_0 chosen_0 corner_0 wide_0) sz)) (va_Qi (fun (v : Int32) (_ : Unit) => v = out.1) (wlQ (dC, dI) (va_A (wl_fM_inFirst cI cZ cJ cQ a_0 a_0s a_0table a_0cells a_0owner a_0code a_0last a_0chosen a_0corner a_0wide a_0before a_0slots a_0isKept a_0buffer a_0isOver a_0isRuled a_0all a_0some a_0cuts a_0aside known_0 length_0 thrown_0 many_0 round_0 seed_0 hash_0 s_0 table_0 cells_0 owner_0 code_0 last_0 chosen_0 corner_0 wide_0) sz) (wl_fM_inFirst cI cZ cJ cQ a_0 a_0s a_0table a_0cells a_0owner a_0code a_0last a_0chosen a_0corner a_0wide a_0before a_0slots a_0isKept a_0buffer a_0isOver a_0isRuled a_0all a_0some a_0cuts a_0aside known_0 length_0 out.2.1 out.2.2.1 round_0 seed_0 hash_0 s_0 out.2.2.2.1 out.2.2.2.2.1 out.2.2.2.2.2.1 out.2.2.2.2.2.2.1 out.2.2.2.2.2.2.2.1 out.2.2.2.2.2.2.2.2.1 out.2.2.2.2.2.2.2.2.2.1 out.2.2.2.2.2.2.2.2.2.2)) (va_A (wl_fM_inFirst cI cZ cJ cQ a_0 a_0s a_0table a_0cells a_0owner a_0code a_0last a_0chosen a_0corner a_0wide a_0before a_0slots a_0isKept a_0buffer a_0isOver a_0isRuled a_0all a_0some a_0cuts a_0aside known_0 length_0 thrown_0 many_0 round_0 seed_0 hash_0 s_0 table_0 cells_0 owner_0 code_0 last_0 chosen_0 corner_0 wide_0) sz)) 0 0 (va_A (wl_fM_inFirst cI cZ cJ cQ a_0 a_0s a_0table a_0cells a_0owner a_0code a_0last a_0chosen a_0corner a_0wide a_0before a_0slots a_0isKept a_0buffer a_0isOver a_0isRuled a_0all a_0some a_0cuts a_0aside known_0 length_0 thrown_0 many_0 round_0 seed_0 hash_0 s_0 table_0 cells_0 owner_0 code_0 last_0 chosen_0 corner_0 wide_0) sz) := by
  refine wh_ofWi (lv := [(0, .ref a_0), (1, .int x1), (2, .int x2), (3, .int x3)]) RX10 (by decide) rfl rfl (Nat.le_of_ble_eq_true rfl) rfl ?_
  intro p e s m below meth c A QQ hx hb hml hown hts hP hK hN hD hA hret ls hl
  have hS : va_S A s.heap s.heap [] := va_S.rf
  have hiX10 : ∀ w ∈ wsX100, w ∈ wsX10_inFirst := (fun _ h => List.mem_cons_of_mem _ (List.mem_append_right _ (h)))
  unfold fM_inFirst at hf
  refine lv_aload_n hx hb dX10_inFirst_0 rfl (lv_at hl 0 rfl) ?_
  refine lv_iload_n hx hb dX10_inFirst_1 rfl (lv_at hl 1 rfl) ?_
  refine lv_iload_n hx hb dX10_inFirst_2 rfl (lv_at hl 2 rfl) ?_
  refine lv_iconst (v := 0) hx hb dX10_inFirst_3 (by decide) ?_
  obtain ⟨s1, h_s1, hf⟩ := hf_bind hf
  refine wh_calli (D := (dC, dI)) (ws' := (wl_fM_inFirst cI cZ cJ cQ a_0 a_0s a_0table a_0cells a_0owner a_0code a_0last a_0chosen a_0corner a_0wide a_0before a_0slots a_0isKept a_0buffer a_0isOver a_0isRuled a_0all a_0some a_0cuts a_0aside known_0 length_0 s1.2 many_0 round_0 seed_0 hash_0 s_0 table_0 cells_0 owner_0 code_0 last_0 chosen_0 corner_0 wide_0)) (va_runV (As := [.int x1, .int x2, .int (0 : Int32)]) (rest := []) ⟨hx, hb, hml, hown, hts⟩ (c_fM_isThere l dC dI cI cZ cJ cQ a_0 a_0s a_0before a_0slots a_0isKept a_0buffer a_0cells a_0owner a_0code a_0table a_0isOver a_0isRuled a_0all a_0some a_0chosen a_0last a_0corner a_0wide a_0cuts a_0aside known_0 length_0 many_0 round_0 seed_0 hash_0 _ h_s1) (cwV 3 hts gX10_inFirst_X10_isThere rfl rfl rfl (by decide +kernel) ⟨Nat.le_of_ble_eq_true rfl, Nat.le_of_ble_eq_true rfl⟩) (wh_preV (C := RX10) (T := TX10) (N := 26) hK hN hP hD [0, 1] rfl rfl 10 0 rfl rfl) rfl rfl hl.1 rfl (lv_room (Nat.le_of_ble_eq_true rfl)) dX10_inFirst_4 ⟨Nat.le_refl _, Nat.le_refl _⟩) hP hD hS hA [0, 1] [2, 3, 4, 5, 6, 7, 8, 9] [8, 9, 0, 1, 2, 3, 4, 5, 6, 7] rfl rfl rfl rfl (fun H locs hP hD hS => ?_)
  refine lv_if_ne (tgt := 12) hx hb dX10_inFirst_7 (by decide) (fun cc => ?_) (fun cc => ?_)
  · replace hf := hf_pos cc hf
    refine lv_aload_n hx hb dX10_inFirst_12 rfl (lv_at hl 0 rfl) ?_
    refine lv_iconst (v := 1) hx hb dX10_inFirst_13 (by decide) ?_
    obtain ⟨s2, h_s2, hf⟩ := hf_bind hf
    refine wh_calli (D := (dC, dI)) (ws' := (wl_fM_inFirst cI cZ cJ cQ a_0 a_0s a_0table a_0cells a_0owner a_0code a_0last a_0chosen a_0corner a_0wide a_0before a_0slots a_0isKept a_0buffer a_0isOver a_0isRuled a_0all a_0some a_0cuts a_0aside known_0 length_0 s1.2 s2.2.1 round_0 seed_0 hash_0 s_0 s2.2.2.1 s2.2.2.2.1 s2.2.2.2.2.1 s2.2.2.2.2.2.1 s2.2.2.2.2.2.2.1 s2.2.2.2.2.2.2.2.1 s2.2.2.2.2.2.2.2.2.1 s2.2.2.2.2.2.2.2.2.2)) (va_runV (As := [.int (1 : Int32)]) (rest := []) ⟨hx, hb, hml, hown, hts⟩ (c_fM_ways l dC dI cI cZ cJ cQ a_0 a_0table a_0s a_0cells a_0owner a_0code a_0last a_0chosen a_0corner a_0wide a_0before a_0slots a_0isKept a_0buffer a_0isOver a_0isRuled a_0all a_0some a_0cuts a_0aside known_0 length_0 s1.2 round_0 seed_0 hash_0 _ h_s2) (cwV 1 hts gX10_inFirst_X10_ways rfl rfl rfl (by decide +kernel) ⟨Nat.le_of_ble_eq_true rfl, Nat.le_of_ble_eq_true rfl⟩) (wh_preV (C := RX10) (T := TX10) (N := 26) hK hN hP hD [0, 2, 1, 3, 4, 5, 6, 7, 8, 9] rfl rfl 10 0 rfl rfl) rfl rfl hl.1 rfl (lv_room (Nat.le_of_ble_eq_true rfl)) dX10_inFirst_14 ⟨Nat.le_refl _, Nat.le_refl _⟩) hP hD hS hA [0, 2, 1, 3, 4, 5, 6, 7, 8, 9] [] [0, 2, 1, 3, 4, 5, 6, 7, 8, 9] rfl rfl rfl rfl (fun H locs hP hD hS => ?_)
    refine lv_if_ne (tgt := 26) hx hb dX10_inFirst_17 (by decide) (fun cc => ?_) (fun cc => ?_)
    · replace hf := hf_pos cc hf
      refine lv_iload_n hx hb dX10_inFirst_26 rfl (lv_at hl 3 rfl) ?_
      refine lv_if_eq (tgt := 44) hx hb dX10_inFirst_27 (by decide) (fun cc => ?_) (fun cc => ?_)
      · replace hf := hf_pos cc hf
        refine lv_aload_n hx hb dX10_inFirst_44 rfl (lv_at hl 0 rfl) ?_
        refine va_get (D := (dC, dI)) (ci := 10) (C := RX10) (T := TX10) (N := 26) hx hb hts hiX10 hown hK hP 0 rfl rfl 21 (by decide) (hts (.fieldLink RX10 60 "PaddockFieldsModel" "wide" "[I") (List.mem_cons_of_mem _ (List.mem_append_left _ (List.mem_append_left _ (List.mem_of_getElem? (i := 1) rfl))))) (fun _ h9 => h9) rfl dX10_inFirst_45 ?_
        refine lv_bipush (v := 7) hx hb dX10_inFirst_48 (by decide) ?_
        refine lv_iload_n hx hb dX10_inFirst_50 rfl (lv_at hl 1 rfl) ?_
        refine lv_imul hx hb dX10_inFirst_51 ?_
        refine lv_iload_n hx hb dX10_inFirst_52 rfl (lv_at hl 2 rfl) ?_
        refine lv_iadd hx hb dX10_inFirst_53 ?_
        obtain ⟨v3, h_v3, hf⟩ := hf_bind hf
        refine wh_ldI (D := (dC, dI)) hx hb hK hP 9 0 rfl rfl h_v3 dX10_inFirst_54 ?_
        obtain rfl := Option.some.inj hf
        exact hret _ _ _ _ hP hD hS dX10_inFirst_55
      · replace hf := hf_neg cc hf
        refine lv_aload_n hx hb dX10_inFirst_30 rfl (lv_at hl 0 rfl) ?_
        refine va_get (D := (dC, dI)) (ci := 10) (C := RX10) (T := TX10) (N := 26) hx hb hts hiX10 hown hK hP 0 rfl rfl 20 (by decide) (hts (.fieldLink RX10 57 "PaddockFieldsModel" "corner" "[I") (List.mem_cons_of_mem _ (List.mem_append_left _ (List.mem_append_left _ (List.mem_of_getElem? (i := 0) rfl))))) (fun _ h9 => h9) rfl dX10_inFirst_31 ?_
        refine lv_bipush (v := 7) hx hb dX10_inFirst_34 (by decide) ?_
        refine lv_iload_n hx hb dX10_inFirst_36 rfl (lv_at hl 1 rfl) ?_
        refine lv_imul hx hb dX10_inFirst_37 ?_
        refine lv_iload_n hx hb dX10_inFirst_38 rfl (lv_at hl 2 rfl) ?_
        refine lv_iadd hx hb dX10_inFirst_39 ?_
        obtain ⟨v4, h_v4, hf⟩ := hf_bind hf
        refine wh_ldI (D := (dC, dI)) hx hb hK hP 8 0 rfl rfl h_v4 dX10_inFirst_40 ?_
        refine lv_goto (tgt := 55) hx hb dX10_inFirst_41 (by decide) ?_
        obtain rfl := Option.some.inj hf
        exact hret _ _ _ _ hP hD hS dX10_inFirst_55
    · replace hf := hf_neg (not_not_intro cc) hf
      refine lv_aload_n hx hb dX10_inFirst_20 rfl (lv_at hl 0 rfl) ?_
      refine lv_iconst (v := 2) hx hb dX10_inFirst_21 (by decide) ?_
      obtain ⟨s5, h_s5, hf⟩ := hf_bind hf
      refine wh_calli (D := (dC, dI)) (ws' := (wl_fM_inFirst cI cZ cJ cQ a_0 a_0s a_0table a_0cells a_0owner a_0code a_0last a_0chosen a_0corner a_0wide a_0before a_0slots a_0isKept a_0buffer a_0isOver a_0isRuled a_0all a_0some a_0cuts a_0aside known_0 length_0 s5.2 s2.2.1 round_0 seed_0 hash_0 s_0 s2.2.2.1 s2.2.2.2.1 s2.2.2.2.2.1 s2.2.2.2.2.2.1 s2.2.2.2.2.2.2.1 s2.2.2.2.2.2.2.2.1 s2.2.2.2.2.2.2.2.2.1 s2.2.2.2.2.2.2.2.2.2)) (va_runV (As := [.int (2 : Int32)]) (rest := []) ⟨hx, hb, hml, hown, hts⟩ (c_fM_throwing l dC dI cI cZ cJ cQ a_0 a_0s a_0before a_0slots a_0isKept a_0buffer a_0cells a_0owner a_0code a_0table a_0isOver a_0isRuled a_0all a_0some a_0chosen a_0last a_0corner a_0wide a_0cuts a_0aside known_0 length_0 s2.2.1 round_0 seed_0 hash_0 _ h_s5) (cwV 1 hts gX10_inFirst_X10_throwing rfl rfl rfl (by decide +kernel) ⟨Nat.le_of_ble_eq_true rfl, Nat.le_of_ble_eq_true rfl⟩) (wh_preV (C := RX10) (T := TX10) (N := 26) hK hN hP hD [0] rfl rfl 10 0 rfl rfl) rfl rfl hl.1 rfl (lv_room (Nat.le_of_ble_eq_true rfl)) dX10_inFirst_22 ⟨Nat.le_refl _, Nat.le_refl _⟩) hP hD hS hA [0] [1, 2, 3, 4, 5, 6, 7, 8, 9] [9, 0, 1, 2, 3, 4, 5, 6, 7, 8] rfl rfl rfl rfl (fun H locs hP hD hS => ?_)
      obtain rfl := Option.some.inj hf
      exact hret _ _ _ _ hP hD hS dX10_inFirst_25
  · replace hf := hf_neg (not_not_intro cc) hf
    refine lv_iconst (v := 0) hx hb dX10_inFirst_10 (by decide) ?_
    obtain rfl := Option.some.inj hf
    exact hret _ _ _ _ hP hD hS dX10_inFirst_11
set_option maxHeartbeats 4000000 in
set_option maxRecDepth 100000 in
theorem c_fM_sizeInFirst (l : Launch) (dC : Nat → ClassId) (dI : Nat → Nat → Nat) (cI cZ cJ cQ : ClassId) (a_0 a_0s a_0table a_0cells a_0owner a_0code a_0last a_0chosen a_0corner a_0wide a_0before a_0slots a_0isKept a_0buffer a_0isOver a_0isRuled a_0all a_0some a_0cuts a_0aside : Nat) (known_0 : Int32) (length_0 : Int32) (round_0 : Int32) (seed_0 : Int64) (hash_0 : Int64) (sz : Nat) {F : Nat} {x1 : Int32} {x2 : Int32} {s_0 : Nat → Int32} {thrown_0 : Int32} {many_0 : Int32} {table_0 : Nat → Int32} {cells_0 : Nat → Int64} {owner_0 : Nat → Int32} {code_0 : Nat → Int32} {last_0 : Nat → Int32} {chosen_0 : Nat → Int32} {corner_0 : Nat → Int32} {wide_0 : Nat → Int32} {out : Int32 × Int32 × Int32 × (Nat → Int32) × (Nat → Int64) × (Nat → Int32) × (Nat → Int32) × (Nat → Int32) × (Nat → Int32) × (Nat → Int32) × (Nat → Int32)} (hf : fM_sizeInFirst F x1 x2 s_0 thrown_0 many_0 table_0 cells_0 owner_0 code_0 last_0 chosen_0 corner_0 wide_0 = some out) : Met l yX10_sizeInFirst wsX10_sizeInFirst ({ frames := 5, cells := 0, slots := 0, locals := 138 } : Room) (va_Pc [.ref a_0, .int x1, .int x2] (wlP (dC, dI) (wlT cI cZ cJ cQ) (wl_fM_sizeInFirst cI cZ cJ cQ a_0 a_0s a_0table a_0cells a_0owner a_0code a_0last a_0chosen a_0corner a_0wide a_0before a_0slots a_0isKept a_0buffer a_0isOver a_0isRuled a_0all a_0some a_0cuts a_0aside known_0 length_0 thrown_0 many_0 round_0 seed_0 hash_0 s_0 table_0 cells_0 owner_0 code_0 last_0 chosen_0 corner_0 wide_0) sz)) (va_Qi (fun (v : Int32) (_ : Unit) => v = out.1) (wlQ (dC, dI) (va_A (wl_fM_sizeInFirst cI cZ cJ cQ a_0 a_0s a_0table a_0cells a_0owner a_0code a_0last a_0chosen a_0corner a_0wide a_0before a_0slots a_0isKept a_0buffer a_0isOver a_0isRuled a_0all a_0some a_0cuts a_0aside known_0 length_0 thrown_0 many_0 round_0 seed_0 hash_0 s_0 table_0 cells_0 owner_0 code_0 last_0 chosen_0 corner_0 wide_0) sz) (wl_fM_sizeInFirst cI cZ cJ cQ a_0 a_0s a_0table a_0cells a_0owner a_0code a_0last a_0chosen a_0corner a_0wide a_0before a_0slots a_0isKept a_0buffer a_0isOver a_0isRuled a_0all a_0some a_0cuts a_0aside known_0 length_0 out.2.1 out.2.2.1 round_0 seed_0 hash_0 s_0 out.2.2.2.1 out.2.2.2.2.1 out.2.2.2.2.2.1 out.2.2.2.2.2.2.1 out.2.2.2.2.2.2.2.1 out.2.2.2.2.2.2.2.2.1 out.2.2.2.2.2.2.2.2.2.1 out.2.2.2.2.2.2.2.2.2.2)) (va_A (wl_fM_sizeInFirst cI cZ cJ cQ a_0 a_0s a_0table a_0cells a_0owner a_0code a_0last a_0chosen a_0corner a_0wide a_0before a_0slots a_0isKept a_0buffer a_0isOver a_0isRuled a_0all a_0some a_0cuts a_0aside known_0 length_0 thrown_0 many_0 round_0 seed_0 hash_0 s_0 table_0 cells_0 owner_0 code_0 last_0 chosen_0 corner_0 wide_0) sz)) 0 0 (va_A (wl_fM_sizeInFirst cI cZ cJ cQ a_0 a_0s a_0table a_0cells a_0owner a_0code a_0last a_0chosen a_0corner a_0wide a_0before a_0slots a_0isKept a_0buffer a_0isOver a_0isRuled a_0all a_0some a_0cuts a_0aside known_0 length_0 thrown_0 many_0 round_0 seed_0 hash_0 s_0 table_0 cells_0 owner_0 code_0 last_0 chosen_0 corner_0 wide_0) sz) := by
  refine wh_ofWi (lv := [(0, .ref a_0), (1, .int x1), (2, .int x2)]) RX10 (by decide) rfl rfl (Nat.le_of_ble_eq_true rfl) rfl ?_
  intro p e s m below meth c A QQ hx hb hml hown hts hP hK hN hD hA hret ls hl
  have hS : va_S A s.heap s.heap [] := va_S.rf
  unfold fM_sizeInFirst at hf
  refine lv_aload_n hx hb dX10_sizeInFirst_0 rfl (lv_at hl 0 rfl) ?_
  refine lv_iload_n hx hb dX10_sizeInFirst_1 rfl (lv_at hl 1 rfl) ?_
  refine lv_iload_n hx hb dX10_sizeInFirst_2 rfl (lv_at hl 2 rfl) ?_
  refine lv_iconst (v := 0) hx hb dX10_sizeInFirst_3 (by decide) ?_
  obtain ⟨s1, h_s1, hf⟩ := hf_bind hf
  refine wh_calli (D := (dC, dI)) (ws' := (wl_fM_sizeInFirst cI cZ cJ cQ a_0 a_0s a_0table a_0cells a_0owner a_0code a_0last a_0chosen a_0corner a_0wide a_0before a_0slots a_0isKept a_0buffer a_0isOver a_0isRuled a_0all a_0some a_0cuts a_0aside known_0 length_0 s1.2.1 s1.2.2.1 round_0 seed_0 hash_0 s_0 s1.2.2.2.1 s1.2.2.2.2.1 s1.2.2.2.2.2.1 s1.2.2.2.2.2.2.1 s1.2.2.2.2.2.2.2.1 s1.2.2.2.2.2.2.2.2.1 s1.2.2.2.2.2.2.2.2.2.1 s1.2.2.2.2.2.2.2.2.2.2)) (va_runV (As := [.int x1, .int x2, .int (0 : Int32)]) (rest := []) ⟨hx, hb, hml, hown, hts⟩ (c_fM_inFirst l dC dI cI cZ cJ cQ a_0 a_0s a_0table a_0cells a_0owner a_0code a_0last a_0chosen a_0corner a_0wide a_0before a_0slots a_0isKept a_0buffer a_0isOver a_0isRuled a_0all a_0some a_0cuts a_0aside known_0 length_0 round_0 seed_0 hash_0 _ h_s1) (cwV 3 hts gX10_sizeInFirst_X10_inFirst rfl rfl rfl (by decide +kernel) ⟨Nat.le_of_ble_eq_true rfl, Nat.le_of_ble_eq_true rfl⟩) (wh_preV (C := RX10) (T := TX10) (N := 26) hK hN hP hD [0, 1, 2, 3, 4, 5, 6, 7, 8, 9] rfl rfl 10 0 rfl rfl) rfl rfl hl.1 rfl (lv_room (Nat.le_of_ble_eq_true rfl)) dX10_sizeInFirst_4 ⟨Nat.le_refl _, Nat.le_refl _⟩) hP hD hS hA [0, 1, 2, 3, 4, 5, 6, 7, 8, 9] [] [0, 1, 2, 3, 4, 5, 6, 7, 8, 9] rfl rfl rfl rfl (fun H locs hP hD hS => ?_)
  obtain rfl := Option.some.inj hf
  exact hret _ _ _ _ hP hD hS dX10_sizeInFirst_7
set_option maxHeartbeats 4000000 in
set_option maxRecDepth 100000 in
theorem c_fM_cornerInFirst (l : Launch) (dC : Nat → ClassId) (dI : Nat → Nat → Nat) (cI cZ cJ cQ : ClassId) (a_0 a_0s a_0table a_0cells a_0owner a_0code a_0last a_0chosen a_0corner a_0wide a_0before a_0slots a_0isKept a_0buffer a_0isOver a_0isRuled a_0all a_0some a_0cuts a_0aside : Nat) (known_0 : Int32) (length_0 : Int32) (round_0 : Int32) (seed_0 : Int64) (hash_0 : Int64) (sz : Nat) {F : Nat} {x1 : Int32} {x2 : Int32} {s_0 : Nat → Int32} {thrown_0 : Int32} {many_0 : Int32} {table_0 : Nat → Int32} {cells_0 : Nat → Int64} {owner_0 : Nat → Int32} {code_0 : Nat → Int32} {last_0 : Nat → Int32} {chosen_0 : Nat → Int32} {corner_0 : Nat → Int32} {wide_0 : Nat → Int32} {out : Int32 × Int32 × Int32 × (Nat → Int32) × (Nat → Int64) × (Nat → Int32) × (Nat → Int32) × (Nat → Int32) × (Nat → Int32) × (Nat → Int32) × (Nat → Int32)} (hf : fM_cornerInFirst F x1 x2 s_0 thrown_0 many_0 table_0 cells_0 owner_0 code_0 last_0 chosen_0 corner_0 wide_0 = some out) : Met l yX10_cornerInFirst wsX10_cornerInFirst ({ frames := 5, cells := 0, slots := 0, locals := 138 } : Room) (va_Pc [.ref a_0, .int x1, .int x2] (wlP (dC, dI) (wlT cI cZ cJ cQ) (wl_fM_cornerInFirst cI cZ cJ cQ a_0 a_0s a_0table a_0cells a_0owner a_0code a_0last a_0chosen a_0corner a_0wide a_0before a_0slots a_0isKept a_0buffer a_0isOver a_0isRuled a_0all a_0some a_0cuts a_0aside known_0 length_0 thrown_0 many_0 round_0 seed_0 hash_0 s_0 table_0 cells_0 owner_0 code_0 last_0 chosen_0 corner_0 wide_0) sz)) (va_Qi (fun (v : Int32) (_ : Unit) => v = out.1) (wlQ (dC, dI) (va_A (wl_fM_cornerInFirst cI cZ cJ cQ a_0 a_0s a_0table a_0cells a_0owner a_0code a_0last a_0chosen a_0corner a_0wide a_0before a_0slots a_0isKept a_0buffer a_0isOver a_0isRuled a_0all a_0some a_0cuts a_0aside known_0 length_0 thrown_0 many_0 round_0 seed_0 hash_0 s_0 table_0 cells_0 owner_0 code_0 last_0 chosen_0 corner_0 wide_0) sz) (wl_fM_cornerInFirst cI cZ cJ cQ a_0 a_0s a_0table a_0cells a_0owner a_0code a_0last a_0chosen a_0corner a_0wide a_0before a_0slots a_0isKept a_0buffer a_0isOver a_0isRuled a_0all a_0some a_0cuts a_0aside known_0 length_0 out.2.1 out.2.2.1 round_0 seed_0 hash_0 s_0 out.2.2.2.1 out.2.2.2.2.1 out.2.2.2.2.2.1 out.2.2.2.2.2.2.1 out.2.2.2.2.2.2.2.1 out.2.2.2.2.2.2.2.2.1 out.2.2.2.2.2.2.2.2.2.1 out.2.2.2.2.2.2.2.2.2.2)) (va_A (wl_fM_cornerInFirst cI cZ cJ cQ a_0 a_0s a_0table a_0cells a_0owner a_0code a_0last a_0chosen a_0corner a_0wide a_0before a_0slots a_0isKept a_0buffer a_0isOver a_0isRuled a_0all a_0some a_0cuts a_0aside known_0 length_0 thrown_0 many_0 round_0 seed_0 hash_0 s_0 table_0 cells_0 owner_0 code_0 last_0 chosen_0 corner_0 wide_0) sz)) 0 0 (va_A (wl_fM_cornerInFirst cI cZ cJ cQ a_0 a_0s a_0table a_0cells a_0owner a_0code a_0last a_0chosen a_0corner a_0wide a_0before a_0slots a_0isKept a_0buffer a_0isOver a_0isRuled a_0all a_0some a_0cuts a_0aside known_0 length_0 thrown_0 many_0 round_0 seed_0 hash_0 s_0 table_0 cells_0 owner_0 code_0 last_0 chosen_0 corner_0 wide_0) sz) := by
  refine wh_ofWi (lv := [(0, .ref a_0), (1, .int x1), (2, .int x2)]) RX10 (by decide) rfl rfl (Nat.le_of_ble_eq_true rfl) rfl ?_
  intro p e s m below meth c A QQ hx hb hml hown hts hP hK hN hD hA hret ls hl
  have hS : va_S A s.heap s.heap [] := va_S.rf
  unfold fM_cornerInFirst at hf
  refine lv_aload_n hx hb dX10_cornerInFirst_0 rfl (lv_at hl 0 rfl) ?_
  refine lv_iload_n hx hb dX10_cornerInFirst_1 rfl (lv_at hl 1 rfl) ?_
  refine lv_iload_n hx hb dX10_cornerInFirst_2 rfl (lv_at hl 2 rfl) ?_
  refine lv_iconst (v := 1) hx hb dX10_cornerInFirst_3 (by decide) ?_
  obtain ⟨s1, h_s1, hf⟩ := hf_bind hf
  refine wh_calli (D := (dC, dI)) (ws' := (wl_fM_cornerInFirst cI cZ cJ cQ a_0 a_0s a_0table a_0cells a_0owner a_0code a_0last a_0chosen a_0corner a_0wide a_0before a_0slots a_0isKept a_0buffer a_0isOver a_0isRuled a_0all a_0some a_0cuts a_0aside known_0 length_0 s1.2.1 s1.2.2.1 round_0 seed_0 hash_0 s_0 s1.2.2.2.1 s1.2.2.2.2.1 s1.2.2.2.2.2.1 s1.2.2.2.2.2.2.1 s1.2.2.2.2.2.2.2.1 s1.2.2.2.2.2.2.2.2.1 s1.2.2.2.2.2.2.2.2.2.1 s1.2.2.2.2.2.2.2.2.2.2)) (va_runV (As := [.int x1, .int x2, .int (1 : Int32)]) (rest := []) ⟨hx, hb, hml, hown, hts⟩ (c_fM_inFirst l dC dI cI cZ cJ cQ a_0 a_0s a_0table a_0cells a_0owner a_0code a_0last a_0chosen a_0corner a_0wide a_0before a_0slots a_0isKept a_0buffer a_0isOver a_0isRuled a_0all a_0some a_0cuts a_0aside known_0 length_0 round_0 seed_0 hash_0 _ h_s1) (cwV 3 hts gX10_cornerInFirst_X10_inFirst rfl rfl rfl (by decide +kernel) ⟨Nat.le_of_ble_eq_true rfl, Nat.le_of_ble_eq_true rfl⟩) (wh_preV (C := RX10) (T := TX10) (N := 26) hK hN hP hD [0, 1, 2, 3, 4, 5, 6, 7, 8, 9] rfl rfl 10 0 rfl rfl) rfl rfl hl.1 rfl (lv_room (Nat.le_of_ble_eq_true rfl)) dX10_cornerInFirst_4 ⟨Nat.le_refl _, Nat.le_refl _⟩) hP hD hS hA [0, 1, 2, 3, 4, 5, 6, 7, 8, 9] [] [0, 1, 2, 3, 4, 5, 6, 7, 8, 9] rfl rfl rfl rfl (fun H locs hP hD hS => ?_)
  obtain rfl := Option.some.inj hf
  exact hret _ _ _ _ hP hD hS dX10_cornerInFirst_7
set_option maxHeartbeats 4000000 in
set_option maxRecDepth 100000 in
theorem c_fM_isSame (l : Launch) (dC : Nat → ClassId) (dI : Nat → Nat → Nat) (cI cZ cJ cQ : ClassId) (a_0 a_0s a_0corner a_0before a_0slots a_0isKept a_0buffer a_0cells a_0owner a_0code a_0table a_0isOver a_0isRuled a_0all a_0some a_0chosen a_0last a_0wide a_0cuts a_0aside : Nat) (known_0 : Int32) (length_0 : Int32) (thrown_0 : Int32) (many_0 : Int32) (round_0 : Int32) (seed_0 : Int64) (hash_0 : Int64) (sz : Nat) {F : Nat} {x1 : Int32} {s_0 : Nat → Int32} {corner_0 : Nat → Int32} {out : Int32} (hf : fM_isSame F x1 s_0 corner_0 = some out) : Met l yX10_isSame wsX10_isSame ({ frames := 0, cells := 0, slots := 0, locals := 0 } : Room) (va_Pc [.ref a_0, .int x1] (wlP (dC, dI) (wlT cI cZ cJ cQ) (wl_fM_isSame cI cZ cJ cQ a_0 a_0s a_0corner a_0before a_0slots a_0isKept a_0buffer a_0cells a_0owner a_0code a_0table a_0isOver a_0isRuled a_0all a_0some a_0chosen a_0last a_0wide a_0cuts a_0aside known_0 length_0 thrown_0 many_0 round_0 seed_0 hash_0 s_0 corner_0) sz)) (va_Qi (fun (v : Int32) (_ : Unit) => v = out) (wlQ (dC, dI) (va_A (wl_fM_isSame cI cZ cJ cQ a_0 a_0s a_0corner a_0before a_0slots a_0isKept a_0buffer a_0cells a_0owner a_0code a_0table a_0isOver a_0isRuled a_0all a_0some a_0chosen a_0last a_0wide a_0cuts a_0aside known_0 length_0 thrown_0 many_0 round_0 seed_0 hash_0 s_0 corner_0) sz) (wl_fM_isSame cI cZ cJ cQ a_0 a_0s a_0corner a_0before a_0slots a_0isKept a_0buffer a_0cells a_0owner a_0code a_0table a_0isOver a_0isRuled a_0all a_0some a_0chosen a_0last a_0wide a_0cuts a_0aside known_0 length_0 thrown_0 many_0 round_0 seed_0 hash_0 s_0 corner_0)) (va_A (wl_fM_isSame cI cZ cJ cQ a_0 a_0s a_0corner a_0before a_0slots a_0isKept a_0buffer a_0cells a_0owner a_0code a_0table a_0isOver a_0isRuled a_0all a_0some a_0chosen a_0last a_0wide a_0cuts a_0aside known_0 length_0 thrown_0 many_0 round_0 seed_0 hash_0 s_0 corner_0) sz)) 0 0 (va_A (wl_fM_isSame cI cZ cJ cQ a_0 a_0s a_0corner a_0before a_0slots a_0isKept a_0buffer a_0cells a_0owner a_0code a_0table a_0isOver a_0isRuled a_0all a_0some a_0chosen a_0last a_0wide a_0cuts a_0aside known_0 length_0 thrown_0 many_0 round_0 seed_0 hash_0 s_0 corner_0) sz) := by
  refine wh_ofWz (lv := [(0, .ref a_0), (1, .int x1)]) RX10 (by decide) rfl rfl (Nat.le_of_ble_eq_true rfl) rfl ?_
  intro p e s m below meth c A QQ hx hb hml hown hts hP hK hN hD hA hret ls hl
  have hS : va_S A s.heap s.heap [] := va_S.rf
  have hiX10 : ∀ w ∈ wsX100, w ∈ wsX10_isSame := (fun _ h => List.mem_cons_of_mem _ (List.mem_append_right _ (h)))
  unfold fM_isSame at hf
  refine lv_iconst (v := 1) hx hb dX10_isSame_0 (by decide) ?_
  refine lv_istore_n (lv' := [(2, .int (1 : Int32)), (0, .ref a_0), (1, .int x1)]) hx hb dX10_isSame_1 rfl hl (by decide) rfl (fun ls hl => ?_)
  refine lv_iconst (v := 0) hx hb dX10_isSame_2 (by decide) ?_
  refine lv_istore_n (lv' := [(3, .int (0 : Int32)), (2, .int (1 : Int32)), (0, .ref a_0), (1, .int x1)]) hx hb dX10_isSame_3 rfl hl (by decide) rfl (fun ls hl => ?_)
  obtain ⟨r6, h_r6, hf⟩ := hf_bind hf
  have hE_1 : ∀ (H : Heap) (locs : List Loc) (ls : Array Slot), lv_has ls 4 [(2, .int r6.1)] → va_P (dC, dI) vwCl (wl_fM_isSame cI cZ cJ cQ a_0 a_0s a_0corner a_0before a_0slots a_0isKept a_0buffer a_0cells a_0owner a_0code a_0table a_0isOver a_0isRuled a_0all a_0some a_0chosen a_0last a_0wide a_0cuts a_0aside known_0 length_0 thrown_0 many_0 round_0 seed_0 hash_0 s_0 corner_0) H → va_D A (wl_fM_isSame cI cZ cJ cQ a_0 a_0s a_0corner a_0before a_0slots a_0isKept a_0buffer a_0cells a_0owner a_0code a_0table a_0isOver a_0isRuled a_0all a_0some a_0chosen a_0last a_0wide a_0cuts a_0aside known_0 length_0 thrown_0 many_0 round_0 seed_0 hash_0 s_0 corner_0) → va_S A s.heap H locs → W p l e ({ frames := 0, cells := 0, slots := 0, locals := 0 } : Room) s m [.ref a_0, .int x1].toArray below meth c H locs 0 0 QQ (F0 m 64 ls []) := by
    intro H locs ls hl hP hD hS
    refine lv_iload_n hx hb dX10_isSame_64 rfl (lv_at hl 0 rfl) ?_
    obtain ⟨z7, h_z7, hf⟩ := hf_bind hf
    obtain ⟨rfl, h_n⟩ := o_z_spec h_z7
    obtain rfl := Option.some.inj hf
    exact hret _ _ _ _ h_n hP hD hS dX10_isSame_65
  have hL_2 : ∀ (N : Nat) (l2_3 : Int32) (l3_4 : Int32), fM_isSame_L4 F x1 s_0 corner_0 N l2_3 l3_4 = some r6 → ∀ (H : Heap) (locs : List Loc) (ls : Array Slot), lv_has ls 4 [(0, .ref a_0), (1, .int x1), (2, .int l2_3), (3, .int l3_4)] → va_P (dC, dI) vwCl (wl_fM_isSame cI cZ cJ cQ a_0 a_0s a_0corner a_0before a_0slots a_0isKept a_0buffer a_0cells a_0owner a_0code a_0table a_0isOver a_0isRuled a_0all a_0some a_0chosen a_0last a_0wide a_0cuts a_0aside known_0 length_0 thrown_0 many_0 round_0 seed_0 hash_0 s_0 corner_0) H → va_D A (wl_fM_isSame cI cZ cJ cQ a_0 a_0s a_0corner a_0before a_0slots a_0isKept a_0buffer a_0cells a_0owner a_0code a_0table a_0isOver a_0isRuled a_0all a_0some a_0chosen a_0last a_0wide a_0cuts a_0aside known_0 length_0 thrown_0 many_0 round_0 seed_0 hash_0 s_0 corner_0) → va_S A s.heap H locs → W p l e ({ frames := 0, cells := 0, slots := 0, locals := 0 } : Room) s m [.ref a_0, .int x1].toArray below meth c H locs 0 0 QQ (F0 m 4 ls []) := by
    intro N
    induction N with
    | zero => intro l2_3 l3_4 hf; exact nomatch (show none = some _ from hf)
    | succ N ih =>
      intro l2_3 l3_4 hf H locs ls hl hP hD hS
      rw [fM_isSame_L4] at hf
      refine lv_iload_n hx hb dX10_isSame_4 rfl (lv_at hl 3 rfl) ?_
      refine lv_bipush (v := 42) hx hb dX10_isSame_5 (by decide) ?_
      refine lv_icmp_ge (tgt := 64) hx hb dX10_isSame_7 (by decide) (fun cc => ?_) (fun cc => ?_)
      · replace hf := hf_pos cc hf
        obtain rfl := Option.some.inj hf
        exact hE_1 _ _ _ (lv_sub hl [2] rfl) hP hD hS
      · replace hf := hf_neg cc hf
        refine lv_iload_n hx hb dX10_isSame_10 rfl (lv_at hl 2 rfl) ?_
        obtain ⟨j5, h_j5, hf⟩ := hf_bind hf
        have hJ_5 : ∀ (H : Heap) (locs : List Loc) (ls : Array Slot), lv_has ls 4 [(0, .ref a_0), (1, .int x1), (3, .int l3_4)] → va_P (dC, dI) vwCl (wl_fM_isSame cI cZ cJ cQ a_0 a_0s a_0corner a_0before a_0slots a_0isKept a_0buffer a_0cells a_0owner a_0code a_0table a_0isOver a_0isRuled a_0all a_0some a_0chosen a_0last a_0wide a_0cuts a_0aside known_0 length_0 thrown_0 many_0 round_0 seed_0 hash_0 s_0 corner_0) H → va_D A (wl_fM_isSame cI cZ cJ cQ a_0 a_0s a_0corner a_0before a_0slots a_0isKept a_0buffer a_0cells a_0owner a_0code a_0table a_0isOver a_0isRuled a_0all a_0some a_0chosen a_0last a_0wide a_0cuts a_0aside known_0 length_0 thrown_0 many_0 round_0 seed_0 hash_0 s_0 corner_0) → va_S A s.heap H locs → W p l e ({ frames := 0, cells := 0, slots := 0, locals := 0 } : Room) s m [.ref a_0, .int x1].toArray below meth c H locs 0 0 QQ (F0 m 57 ls [.int j5]) := by
          intro H locs ls hl hP hD hS
          refine lv_istore_n (lv' := [(2, .int j5), (0, .ref a_0), (1, .int x1), (3, .int l3_4)]) hx hb dX10_isSame_57 rfl hl (by decide) rfl (fun ls hl => ?_)
          refine lv_iinc (v := (l3_4 + (1 : Int32))) (lv' := [(3, .int (l3_4 + (1 : Int32))), (2, .int j5), (0, .ref a_0), (1, .int x1)]) hx hb dX10_isSame_58 hl (k := 3) rfl rfl (by decide) rfl (fun ls hl => ?_)
          refine lv_goto (tgt := 4) hx hb dX10_isSame_61 (by decide) ?_
          exact ih _ _ hf _ _ _ (lv_sub hl [2, 3, 1, 0] rfl) hP hD hS
        clear hf
        have hf := h_j5
        clear h_j5
        refine lv_if_eq (tgt := 56) hx hb dX10_isSame_11 (by decide) (fun cc => ?_) (fun cc => ?_)
        · replace hf := hf_pos cc hf
          refine lv_iconst (v := 0) hx hb dX10_isSame_56 (by decide) ?_
          obtain rfl := Option.some.inj hf
          exact hJ_5 _ _ _ (lv_sub hl [0, 1, 3] rfl) hP hD hS
        · replace hf := hf_neg cc hf
          refine lv_aload_n hx hb dX10_isSame_14 rfl (lv_at hl 0 rfl) ?_
          refine va_get (D := (dC, dI)) (ci := 10) (C := RX10) (T := TX10) (N := 26) hx hb hts hiX10 hown hK hP 0 rfl rfl 0 (by decide) (hts (.fieldLink RX10 7 "PaddockFieldsModel" "s" "[I") (List.mem_cons_of_mem _ (List.mem_append_left _ (List.mem_of_getElem? (i := 0) rfl)))) (fun _ h9 => h9) rfl dX10_isSame_15 ?_
          refine lv_bipush (v := 42) hx hb dX10_isSame_18 (by decide) ?_
          refine lv_iload_n hx hb dX10_isSame_20 rfl (lv_at hl 3 rfl) ?_
          refine lv_iadd hx hb dX10_isSame_21 ?_
          obtain ⟨v1, h_v1, hf⟩ := hf_bind hf
          refine wh_ldI (D := (dC, dI)) hx hb hK hP 1 0 rfl rfl h_v1 dX10_isSame_22 ?_
          refine lv_iload_n hx hb dX10_isSame_23 rfl (lv_at hl 1 rfl) ?_
          refine lv_iconst (v := 1) hx hb dX10_isSame_24 (by decide) ?_
          refine lv_iadd hx hb dX10_isSame_25 ?_
          obtain ⟨j2, h_j2, hf⟩ := hf_bind hf
          have hJ_6 : ∀ (H : Heap) (locs : List Loc) (ls : Array Slot), lv_has ls 4 [(0, .ref a_0), (1, .int x1), (3, .int l3_4)] → va_P (dC, dI) vwCl (wl_fM_isSame cI cZ cJ cQ a_0 a_0s a_0corner a_0before a_0slots a_0isKept a_0buffer a_0cells a_0owner a_0code a_0table a_0isOver a_0isRuled a_0all a_0some a_0chosen a_0last a_0wide a_0cuts a_0aside known_0 length_0 thrown_0 many_0 round_0 seed_0 hash_0 s_0 corner_0) H → va_D A (wl_fM_isSame cI cZ cJ cQ a_0 a_0s a_0corner a_0before a_0slots a_0isKept a_0buffer a_0cells a_0owner a_0code a_0table a_0isOver a_0isRuled a_0all a_0some a_0chosen a_0last a_0wide a_0cuts a_0aside known_0 length_0 thrown_0 many_0 round_0 seed_0 hash_0 s_0 corner_0) → va_S A s.heap H locs → W p l e ({ frames := 0, cells := 0, slots := 0, locals := 0 } : Room) s m [.ref a_0, .int x1].toArray below meth c H locs 0 0 QQ (F0 m 34 ls [.int j2]) := by
            intro H locs ls hl hP hD hS
            refine lv_aload_n hx hb dX10_isSame_34 rfl (lv_at hl 0 rfl) ?_
            refine va_get (D := (dC, dI)) (ci := 10) (C := RX10) (T := TX10) (N := 26) hx hb hts hiX10 hown hK hP 0 rfl rfl 20 (by decide) (hts (.fieldLink RX10 57 "PaddockFieldsModel" "corner" "[I") (List.mem_cons_of_mem _ (List.mem_append_left _ (List.mem_of_getElem? (i := 1) rfl)))) (fun _ h9 => h9) rfl dX10_isSame_35 ?_
            refine lv_iload_n hx hb dX10_isSame_38 rfl (lv_at hl 2 rfl) ?_
            obtain ⟨v3, h_v3, hf⟩ := hf_bind hf
            refine wh_ldI (D := (dC, dI)) hx hb hK hP 2 0 rfl rfl h_v3 dX10_isSame_39 ?_
            refine lv_iload_n hx hb dX10_isSame_40 rfl (lv_at hl 1 rfl) ?_
            obtain ⟨j4, h_j4, hf⟩ := hf_bind hf
            have hJ_7 : ∀ (H : Heap) (locs : List Loc) (ls : Array Slot), lv_has ls 4 [(0, .ref a_0), (1, .int x1), (3, .int l3_4)] → va_P (dC, dI) vwCl (wl_fM_isSame cI cZ cJ cQ a_0 a_0s a_0corner a_0before a_0slots a_0isKept a_0buffer a_0cells a_0owner a_0code a_0table a_0isOver a_0isRuled a_0all a_0some a_0chosen a_0last a_0wide a_0cuts a_0aside known_0 length_0 thrown_0 many_0 round_0 seed_0 hash_0 s_0 corner_0) H → va_D A (wl_fM_isSame cI cZ cJ cQ a_0 a_0s a_0corner a_0before a_0slots a_0isKept a_0buffer a_0cells a_0owner a_0code a_0table a_0isOver a_0isRuled a_0all a_0some a_0chosen a_0last a_0wide a_0cuts a_0aside known_0 length_0 thrown_0 many_0 round_0 seed_0 hash_0 s_0 corner_0) → va_S A s.heap H locs → W p l e ({ frames := 0, cells := 0, slots := 0, locals := 0 } : Room) s m [.ref a_0, .int x1].toArray below meth c H locs 0 0 QQ (F0 m 49 ls [.int j4, .int j2]) := by
              intro H locs ls hl hP hD hS
              refine lv_icmp_ne (tgt := 56) hx hb dX10_isSame_49 (by decide) (fun cc => ?_) (fun cc => ?_)
              · replace hf := hf_pos cc hf
                refine lv_iconst (v := 0) hx hb dX10_isSame_56 (by decide) ?_
                obtain rfl := Option.some.inj hf
                exact hJ_5 _ _ _ (lv_sub hl [0, 1, 2] rfl) hP hD hS
              · replace hf := hf_neg (not_not_intro cc) hf
                refine lv_iconst (v := 1) hx hb dX10_isSame_52 (by decide) ?_
                refine lv_goto (tgt := 57) hx hb dX10_isSame_53 (by decide) ?_
                obtain rfl := Option.some.inj hf
                exact hJ_5 _ _ _ (lv_sub hl [0, 1, 2] rfl) hP hD hS
            clear hf
            have hf := h_j4
            clear h_j4
            refine lv_icmp_ne (tgt := 48) hx hb dX10_isSame_41 (by decide) (fun cc => ?_) (fun cc => ?_)
            · replace hf := hf_pos cc hf
              refine lv_iconst (v := 0) hx hb dX10_isSame_48 (by decide) ?_
              obtain rfl := Option.some.inj hf
              exact hJ_7 _ _ _ (lv_sub hl [0, 1, 2] rfl) hP hD hS
            · replace hf := hf_neg (not_not_intro cc) hf
              refine lv_iconst (v := 1) hx hb dX10_isSame_44 (by decide) ?_
              refine lv_goto (tgt := 49) hx hb dX10_isSame_45 (by decide) ?_
              obtain rfl := Option.some.inj hf
              exact hJ_7 _ _ _ (lv_sub hl [0, 1, 2] rfl) hP hD hS
          clear hf
          have hf := h_j2
          clear h_j2
          refine lv_icmp_ne (tgt := 33) hx hb dX10_isSame_26 (by decide) (fun cc => ?_) (fun cc => ?_)
          · replace hf := hf_pos cc hf
            refine lv_iconst (v := 0) hx hb dX10_isSame_33 (by decide) ?_
            obtain rfl := Option.some.inj hf
            exact hJ_6 _ _ _ (lv_sub hl [0, 1, 3] rfl) hP hD hS
          · replace hf := hf_neg (not_not_intro cc) hf
            refine lv_iconst (v := 1) hx hb dX10_isSame_29 (by decide) ?_
            refine lv_goto (tgt := 34) hx hb dX10_isSame_30 (by decide) ?_
            obtain rfl := Option.some.inj hf
            exact hJ_6 _ _ _ (lv_sub hl [0, 1, 3] rfl) hP hD hS
  exact hL_2 _ _ _ h_r6 _ _ _ (lv_sub hl [2, 3, 1, 0] rfl) hP hD hS
set_option maxHeartbeats 4000000 in
set_option maxRecDepth 100000 in
theorem c_fM_strayFields (l : Launch) (dC : Nat → ClassId) (dI : Nat → Nat → Nat) (cI cZ cJ cQ : ClassId) (a_0 a_0s a_0aside a_0table a_0cells a_0owner a_0code a_0last a_0chosen a_0corner a_0wide a_0before a_0slots a_0isKept a_0buffer a_0isOver a_0isRuled a_0all a_0some a_0cuts : Nat) (known_0 : Int32) (length_0 : Int32) (round_0 : Int32) (seed_0 : Int64) (hash_0 : Int64) (sz : Nat) {F : Nat} {thrown_0 : Int32} {s_0 : Nat → Int32} {aside_0 : Nat → Int32} {many_0 : Int32} {table_0 : Nat → Int32} {cells_0 : Nat → Int64} {owner_0 : Nat → Int32} {code_0 : Nat → Int32} {last_0 : Nat → Int32} {chosen_0 : Nat → Int32} {corner_0 : Nat → Int32} {wide_0 : Nat → Int32} {out : Int32 × Int32 × (Nat → Int32) × (Nat → Int32) × Int32 × (Nat → Int32) × (Nat → Int64) × (Nat → Int32) × (Nat → Int32) × (Nat → Int32) × (Nat → Int32) × (Nat → Int32) × (Nat → Int32)} (hf : fM_strayFields F thrown_0 s_0 aside_0 many_0 table_0 cells_0 owner_0 code_0 last_0 chosen_0 corner_0 wide_0 = some out) : Met l yX10_strayFields wsX10_strayFields ({ frames := 4, cells := 0, slots := 0, locals := 115 } : Room) (va_Pc [.ref a_0] (wlP (dC, dI) (wlT cI cZ cJ cQ) (wl_fM_strayFields cI cZ cJ cQ a_0 a_0s a_0aside a_0table a_0cells a_0owner a_0code a_0last a_0chosen a_0corner a_0wide a_0before a_0slots a_0isKept a_0buffer a_0isOver a_0isRuled a_0all a_0some a_0cuts known_0 length_0 thrown_0 many_0 round_0 seed_0 hash_0 s_0 aside_0 table_0 cells_0 owner_0 code_0 last_0 chosen_0 corner_0 wide_0) sz)) (va_Qi (fun (v : Int32) (_ : Unit) => v = out.1) (wlQ (dC, dI) (va_A (wl_fM_strayFields cI cZ cJ cQ a_0 a_0s a_0aside a_0table a_0cells a_0owner a_0code a_0last a_0chosen a_0corner a_0wide a_0before a_0slots a_0isKept a_0buffer a_0isOver a_0isRuled a_0all a_0some a_0cuts known_0 length_0 thrown_0 many_0 round_0 seed_0 hash_0 s_0 aside_0 table_0 cells_0 owner_0 code_0 last_0 chosen_0 corner_0 wide_0) sz) (wl_fM_strayFields cI cZ cJ cQ a_0 a_0s a_0aside a_0table a_0cells a_0owner a_0code a_0last a_0chosen a_0corner a_0wide a_0before a_0slots a_0isKept a_0buffer a_0isOver a_0isRuled a_0all a_0some a_0cuts known_0 length_0 out.2.1 out.2.2.2.2.1 round_0 seed_0 hash_0 out.2.2.2.1 out.2.2.1 out.2.2.2.2.2.1 out.2.2.2.2.2.2.1 out.2.2.2.2.2.2.2.1 out.2.2.2.2.2.2.2.2.1 out.2.2.2.2.2.2.2.2.2.1 out.2.2.2.2.2.2.2.2.2.2.1 out.2.2.2.2.2.2.2.2.2.2.2.1 out.2.2.2.2.2.2.2.2.2.2.2.2)) (va_A (wl_fM_strayFields cI cZ cJ cQ a_0 a_0s a_0aside a_0table a_0cells a_0owner a_0code a_0last a_0chosen a_0corner a_0wide a_0before a_0slots a_0isKept a_0buffer a_0isOver a_0isRuled a_0all a_0some a_0cuts known_0 length_0 thrown_0 many_0 round_0 seed_0 hash_0 s_0 aside_0 table_0 cells_0 owner_0 code_0 last_0 chosen_0 corner_0 wide_0) sz)) 0 0 (va_A (wl_fM_strayFields cI cZ cJ cQ a_0 a_0s a_0aside a_0table a_0cells a_0owner a_0code a_0last a_0chosen a_0corner a_0wide a_0before a_0slots a_0isKept a_0buffer a_0isOver a_0isRuled a_0all a_0some a_0cuts known_0 length_0 thrown_0 many_0 round_0 seed_0 hash_0 s_0 aside_0 table_0 cells_0 owner_0 code_0 last_0 chosen_0 corner_0 wide_0) sz) := by
  refine wh_ofWi (lv := [(0, .ref a_0)]) RX10 (by decide) rfl rfl (Nat.le_of_ble_eq_true rfl) rfl ?_
  intro p e s m below meth c A QQ hx hb hml hown hts hP hK hN hD hA hret ls hl
  have hS : va_S A s.heap s.heap [] := va_S.rf
  have hiX10 : ∀ w ∈ wsX100, w ∈ wsX10_strayFields := (fun _ h => List.mem_cons_of_mem _ (List.mem_append_right _ (h)))
  unfold fM_strayFields at hf
  refine lv_aload_n hx hb dX10_strayFields_0 rfl (lv_at hl 0 rfl) ?_
  refine lv_iconst (v := 0) hx hb dX10_strayFields_1 (by decide) ?_
  refine wh_put (D := (dC, dI)) (ci := 10) (C := RX10) (T := TX10) (N := 26) (ty := .int) (v := .int (0 : Int32)) (ws' := (wl_fM_strayFields cI cZ cJ cQ a_0 a_0s a_0aside a_0table a_0cells a_0owner a_0code a_0last a_0chosen a_0corner a_0wide a_0before a_0slots a_0isKept a_0buffer a_0isOver a_0isRuled a_0all a_0some a_0cuts known_0 length_0 (0 : Int32) many_0 round_0 seed_0 hash_0 s_0 aside_0 table_0 cells_0 owner_0 code_0 last_0 chosen_0 corner_0 wide_0)) hx hb hts hiX10 tyX10 tyX10_ok nmX10 hown hK hP hD hS 0 rfl rfl 7 (by decide) (hts (.fieldLink RX10 69 "PaddockFieldsModel" "thrown" "I") (List.mem_cons_of_mem _ (List.mem_append_left _ (List.mem_append_left _ (List.mem_of_getElem? (i := 0) rfl))))) (fun _ h9 => h9) rfl rfl rfl rfl (Nat.le_of_ble_eq_true rfl) rfl dX10_strayFields_2 (fun H locs hP hD hS => ?_)
  refine lv_iconst (v := 0) hx hb dX10_strayFields_5 (by decide) ?_
  refine lv_istore_n (lv' := [(1, .int (0 : Int32)), (0, .ref a_0)]) hx hb dX10_strayFields_6 rfl hl (by decide) rfl (fun ls hl => ?_)
  obtain ⟨r4, h_r4, hf⟩ := hf_bind hf
  have hE_1 : ∀ (H : Heap) (locs : List Loc) (ls : Array Slot), lv_has ls 4 [(0, .ref a_0)] → va_P (dC, dI) vwCl (wl_fM_strayFields cI cZ cJ cQ a_0 a_0s a_0aside a_0table a_0cells a_0owner a_0code a_0last a_0chosen a_0corner a_0wide a_0before a_0slots a_0isKept a_0buffer a_0isOver a_0isRuled a_0all a_0some a_0cuts known_0 length_0 (0 : Int32) many_0 round_0 seed_0 hash_0 r4.2.1 r4.2.2 table_0 cells_0 owner_0 code_0 last_0 chosen_0 corner_0 wide_0) H → va_D A (wl_fM_strayFields cI cZ cJ cQ a_0 a_0s a_0aside a_0table a_0cells a_0owner a_0code a_0last a_0chosen a_0corner a_0wide a_0before a_0slots a_0isKept a_0buffer a_0isOver a_0isRuled a_0all a_0some a_0cuts known_0 length_0 (0 : Int32) many_0 round_0 seed_0 hash_0 r4.2.1 r4.2.2 table_0 cells_0 owner_0 code_0 last_0 chosen_0 corner_0 wide_0) → va_S A s.heap H locs → W p l e ({ frames := 4, cells := 0, slots := 0, locals := 115 } : Room) s m [.ref a_0].toArray below meth c H locs 0 0 QQ (F0 m 44 ls []) := by
    intro H locs ls hl hP hD hS
    refine lv_aload_n hx hb dX10_strayFields_44 rfl (lv_at hl 0 rfl) ?_
    refine lv_iconst (v := 1) hx hb dX10_strayFields_45 (by decide) ?_
    obtain ⟨s5, h_s5, hf⟩ := hf_bind hf
    refine wh_calli (D := (dC, dI)) (ws' := (wl_fM_strayFields cI cZ cJ cQ a_0 a_0s a_0aside a_0table a_0cells a_0owner a_0code a_0last a_0chosen a_0corner a_0wide a_0before a_0slots a_0isKept a_0buffer a_0isOver a_0isRuled a_0all a_0some a_0cuts known_0 length_0 (0 : Int32) s5.2.1 round_0 seed_0 hash_0 r4.2.1 r4.2.2 s5.2.2.1 s5.2.2.2.1 s5.2.2.2.2.1 s5.2.2.2.2.2.1 s5.2.2.2.2.2.2.1 s5.2.2.2.2.2.2.2.1 s5.2.2.2.2.2.2.2.2.1 s5.2.2.2.2.2.2.2.2.2)) (va_runV (As := [.int (1 : Int32)]) (rest := []) ⟨hx, hb, hml, hown, hts⟩ (c_fM_ways l dC dI cI cZ cJ cQ a_0 a_0table a_0s a_0cells a_0owner a_0code a_0last a_0chosen a_0corner a_0wide a_0before a_0slots a_0isKept a_0buffer a_0isOver a_0isRuled a_0all a_0some a_0cuts a_0aside known_0 length_0 (0 : Int32) round_0 seed_0 hash_0 _ h_s5) (cwV 1 hts gX10_strayFields_X10_ways rfl rfl rfl (by decide +kernel) ⟨Nat.le_of_ble_eq_true rfl, Nat.le_of_ble_eq_true rfl⟩) (wh_preV (C := RX10) (T := TX10) (N := 26) hK hN hP hD [0, 3, 1, 4, 5, 6, 7, 8, 9, 10] rfl rfl 10 0 rfl rfl) rfl rfl hl.1 rfl (lv_room (Nat.le_of_ble_eq_true rfl)) dX10_strayFields_46 ⟨Nat.le_refl _, Nat.le_refl _⟩) hP hD hS hA [0, 3, 1, 4, 5, 6, 7, 8, 9, 10] [2] [1, 3, 0, 2, 4, 5, 6, 7, 8, 9, 10] rfl rfl rfl rfl (fun H locs hP hD hS => ?_)
    refine lv_istore_n (lv' := [(1, .int s5.1), (0, .ref a_0)]) hx hb dX10_strayFields_49 rfl hl (by decide) rfl (fun ls hl => ?_)
    refine lv_iconst (v := 0) hx hb dX10_strayFields_50 (by decide) ?_
    refine lv_istore_n (lv' := [(2, .int (0 : Int32)), (1, .int s5.1), (0, .ref a_0)]) hx hb dX10_strayFields_51 rfl hl (by decide) rfl (fun ls hl => ?_)
    obtain ⟨r8, h_r8, hf⟩ := hf_bind hf
    have hE_2 : ∀ (H : Heap) (locs : List Loc) (ls : Array Slot), lv_has ls 4 [(0, .ref a_0), (1, .int s5.1)] → va_P (dC, dI) vwCl (wl_fM_strayFields cI cZ cJ cQ a_0 a_0s a_0aside a_0table a_0cells a_0owner a_0code a_0last a_0chosen a_0corner a_0wide a_0before a_0slots a_0isKept a_0buffer a_0isOver a_0isRuled a_0all a_0some a_0cuts known_0 length_0 (0 : Int32) s5.2.1 round_0 seed_0 hash_0 r8.2 r4.2.2 s5.2.2.1 s5.2.2.2.1 s5.2.2.2.2.1 s5.2.2.2.2.2.1 s5.2.2.2.2.2.2.1 s5.2.2.2.2.2.2.2.1 s5.2.2.2.2.2.2.2.2.1 s5.2.2.2.2.2.2.2.2.2) H → va_D A (wl_fM_strayFields cI cZ cJ cQ a_0 a_0s a_0aside a_0table a_0cells a_0owner a_0code a_0last a_0chosen a_0corner a_0wide a_0before a_0slots a_0isKept a_0buffer a_0isOver a_0isRuled a_0all a_0some a_0cuts known_0 length_0 (0 : Int32) s5.2.1 round_0 seed_0 hash_0 r8.2 r4.2.2 s5.2.2.1 s5.2.2.2.1 s5.2.2.2.2.1 s5.2.2.2.2.2.1 s5.2.2.2.2.2.2.1 s5.2.2.2.2.2.2.2.1 s5.2.2.2.2.2.2.2.2.1 s5.2.2.2.2.2.2.2.2.2) → va_S A s.heap H locs → W p l e ({ frames := 4, cells := 0, slots := 0, locals := 115 } : Room) s m [.ref a_0].toArray below meth c H locs 0 0 QQ (F0 m 79 ls []) := by
      intro H locs ls hl hP hD hS
      refine lv_iload_n hx hb dX10_strayFields_79 rfl (lv_at hl 1 rfl) ?_
      refine lv_if_ne (tgt := 89) hx hb dX10_strayFields_80 (by decide) (fun cc => ?_) (fun cc => ?_)
      · replace hf := hf_pos cc hf
        refine lv_iconst (v := 0) hx hb dX10_strayFields_89 (by decide) ?_
        refine lv_istore_n (lv' := [(2, .int (0 : Int32)), (0, .ref a_0), (1, .int s5.1)]) hx hb dX10_strayFields_90 rfl hl (by decide) rfl (fun ls hl => ?_)
        refine lv_iconst (v := 0) hx hb dX10_strayFields_91 (by decide) ?_
        refine lv_istore_n (lv' := [(3, .int (0 : Int32)), (2, .int (0 : Int32)), (0, .ref a_0), (1, .int s5.1)]) hx hb dX10_strayFields_92 rfl hl (by decide) rfl (fun ls hl => ?_)
        obtain ⟨r13, h_r13, hf⟩ := hf_bind hf
        have hE_3 : ∀ (H : Heap) (locs : List Loc) (ls : Array Slot), lv_has ls 4 [(2, .int r13.1)] → va_P (dC, dI) vwCl (wl_fM_strayFields cI cZ cJ cQ a_0 a_0s a_0aside a_0table a_0cells a_0owner a_0code a_0last a_0chosen a_0corner a_0wide a_0before a_0slots a_0isKept a_0buffer a_0isOver a_0isRuled a_0all a_0some a_0cuts known_0 length_0 (0 : Int32) s5.2.1 round_0 seed_0 hash_0 r8.2 r4.2.2 s5.2.2.1 s5.2.2.2.1 s5.2.2.2.2.1 s5.2.2.2.2.2.1 s5.2.2.2.2.2.2.1 s5.2.2.2.2.2.2.2.1 s5.2.2.2.2.2.2.2.2.1 s5.2.2.2.2.2.2.2.2.2) H → va_D A (wl_fM_strayFields cI cZ cJ cQ a_0 a_0s a_0aside a_0table a_0cells a_0owner a_0code a_0last a_0chosen a_0corner a_0wide a_0before a_0slots a_0isKept a_0buffer a_0isOver a_0isRuled a_0all a_0some a_0cuts known_0 length_0 (0 : Int32) s5.2.1 round_0 seed_0 hash_0 r8.2 r4.2.2 s5.2.2.1 s5.2.2.2.1 s5.2.2.2.2.1 s5.2.2.2.2.2.1 s5.2.2.2.2.2.2.1 s5.2.2.2.2.2.2.2.1 s5.2.2.2.2.2.2.2.2.1 s5.2.2.2.2.2.2.2.2.2) → va_S A s.heap H locs → W p l e ({ frames := 4, cells := 0, slots := 0, locals := 115 } : Room) s m [.ref a_0].toArray below meth c H locs 0 0 QQ (F0 m 146 ls []) := by
          intro H locs ls hl hP hD hS
          refine lv_iload_n hx hb dX10_strayFields_146 rfl (lv_at hl 0 rfl) ?_
          obtain rfl := Option.some.inj hf
          exact hret _ _ _ _ hP hD hS dX10_strayFields_147
        have hL_4 : ∀ (N : Nat) (l2_5 : Int32) (l3_6 : Int32), fM_strayFields_L93 F r8.2 s5.2.2.2.2.2.2.2.2.1 N l2_5 l3_6 = some r13 → ∀ (H : Heap) (locs : List Loc) (ls : Array Slot), lv_has ls 4 [(0, .ref a_0), (2, .int l2_5), (3, .int l3_6)] → va_P (dC, dI) vwCl (wl_fM_strayFields cI cZ cJ cQ a_0 a_0s a_0aside a_0table a_0cells a_0owner a_0code a_0last a_0chosen a_0corner a_0wide a_0before a_0slots a_0isKept a_0buffer a_0isOver a_0isRuled a_0all a_0some a_0cuts known_0 length_0 (0 : Int32) s5.2.1 round_0 seed_0 hash_0 r8.2 r4.2.2 s5.2.2.1 s5.2.2.2.1 s5.2.2.2.2.1 s5.2.2.2.2.2.1 s5.2.2.2.2.2.2.1 s5.2.2.2.2.2.2.2.1 s5.2.2.2.2.2.2.2.2.1 s5.2.2.2.2.2.2.2.2.2) H → va_D A (wl_fM_strayFields cI cZ cJ cQ a_0 a_0s a_0aside a_0table a_0cells a_0owner a_0code a_0last a_0chosen a_0corner a_0wide a_0before a_0slots a_0isKept a_0buffer a_0isOver a_0isRuled a_0all a_0some a_0cuts known_0 length_0 (0 : Int32) s5.2.1 round_0 seed_0 hash_0 r8.2 r4.2.2 s5.2.2.1 s5.2.2.2.1 s5.2.2.2.2.1 s5.2.2.2.2.2.1 s5.2.2.2.2.2.2.1 s5.2.2.2.2.2.2.2.1 s5.2.2.2.2.2.2.2.2.1 s5.2.2.2.2.2.2.2.2.2) → va_S A s.heap H locs → W p l e ({ frames := 4, cells := 0, slots := 0, locals := 115 } : Room) s m [.ref a_0].toArray below meth c H locs 0 0 QQ (F0 m 93 ls []) := by
          intro N
          induction N with
          | zero => intro l2_5 l3_6 hf; exact nomatch (show none = some _ from hf)
          | succ N ih =>
            intro l2_5 l3_6 hf H locs ls hl hP hD hS
            rw [fM_strayFields_L93] at hf
            refine lv_iload_n hx hb dX10_strayFields_93 rfl (lv_at hl 2 rfl) ?_
            refine lv_bipush (v := 42) hx hb dX10_strayFields_94 (by decide) ?_
            refine lv_icmp_ge (tgt := 146) hx hb dX10_strayFields_96 (by decide) (fun cc => ?_) (fun cc => ?_)
            · replace hf := hf_pos cc hf
              obtain rfl := Option.some.inj hf
              exact hE_3 _ _ _ (lv_sub hl [1] rfl) hP hD hS
            · replace hf := hf_neg cc hf
              refine lv_iload_n hx hb dX10_strayFields_99 rfl (lv_at hl 1 rfl) ?_
              refine lv_aload_n hx hb dX10_strayFields_100 rfl (lv_at hl 0 rfl) ?_
              refine va_get (D := (dC, dI)) (ci := 10) (C := RX10) (T := TX10) (N := 26) hx hb hts hiX10 hown hK hP 0 rfl rfl 0 (by decide) (hts (.fieldLink RX10 7 "PaddockFieldsModel" "s" "[I") (List.mem_cons_of_mem _ (List.mem_append_left _ (List.mem_append_left _ (List.mem_of_getElem? (i := 2) rfl))))) (fun _ h9 => h9) rfl dX10_strayFields_101 ?_
              refine lv_bipush (v := 42) hx hb dX10_strayFields_104 (by decide) ?_
              refine lv_iload_n hx hb dX10_strayFields_106 rfl (lv_at hl 2 rfl) ?_
              refine lv_iadd hx hb dX10_strayFields_107 ?_
              obtain ⟨v9, h_v9, hf⟩ := hf_bind hf
              refine wh_ldI (D := (dC, dI)) hx hb hK hP 1 0 rfl rfl h_v9 dX10_strayFields_108 ?_
              refine lv_iload_n hx hb dX10_strayFields_109 rfl (lv_at hl 2 rfl) ?_
              refine lv_iconst (v := 1) hx hb dX10_strayFields_110 (by decide) ?_
              refine lv_iadd hx hb dX10_strayFields_111 ?_
              obtain ⟨j12, h_j12, hf⟩ := hf_bind hf
              have hJ_7 : ∀ (H : Heap) (locs : List Loc) (ls : Array Slot), lv_has ls 4 [(0, .ref a_0), (3, .int l3_6)] → va_P (dC, dI) vwCl (wl_fM_strayFields cI cZ cJ cQ a_0 a_0s a_0aside a_0table a_0cells a_0owner a_0code a_0last a_0chosen a_0corner a_0wide a_0before a_0slots a_0isKept a_0buffer a_0isOver a_0isRuled a_0all a_0some a_0cuts known_0 length_0 (0 : Int32) s5.2.1 round_0 seed_0 hash_0 r8.2 r4.2.2 s5.2.2.1 s5.2.2.2.1 s5.2.2.2.2.1 s5.2.2.2.2.2.1 s5.2.2.2.2.2.2.1 s5.2.2.2.2.2.2.2.1 s5.2.2.2.2.2.2.2.2.1 s5.2.2.2.2.2.2.2.2.2) H → va_D A (wl_fM_strayFields cI cZ cJ cQ a_0 a_0s a_0aside a_0table a_0cells a_0owner a_0code a_0last a_0chosen a_0corner a_0wide a_0before a_0slots a_0isKept a_0buffer a_0isOver a_0isRuled a_0all a_0some a_0cuts known_0 length_0 (0 : Int32) s5.2.1 round_0 seed_0 hash_0 r8.2 r4.2.2 s5.2.2.1 s5.2.2.2.1 s5.2.2.2.2.1 s5.2.2.2.2.2.1 s5.2.2.2.2.2.2.1 s5.2.2.2.2.2.2.2.1 s5.2.2.2.2.2.2.2.2.1 s5.2.2.2.2.2.2.2.2.2) → va_S A s.heap H locs → W p l e ({ frames := 4, cells := 0, slots := 0, locals := 115 } : Room) s m [.ref a_0].toArray below meth c H locs 0 0 QQ (F0 m 138 ls [.int j12, .int l2_5]) := by
                intro H locs ls hl hP hD hS
                refine lv_iadd hx hb dX10_strayFields_138 ?_
                refine lv_istore_n (lv' := [(2, .int (l2_5 + j12)), (0, .ref a_0), (3, .int l3_6)]) hx hb dX10_strayFields_139 rfl hl (by decide) rfl (fun ls hl => ?_)
                refine lv_iinc (v := (l3_6 + (1 : Int32))) (lv' := [(3, .int (l3_6 + (1 : Int32))), (2, .int (l2_5 + j12)), (0, .ref a_0)]) hx hb dX10_strayFields_140 hl (k := 2) rfl rfl (by decide) rfl (fun ls hl => ?_)
                refine lv_goto (tgt := 93) hx hb dX10_strayFields_143 (by decide) ?_
                exact ih _ _ hf _ _ _ (lv_sub hl [2, 1, 0] rfl) hP hD hS
              clear hf
              have hf := h_j12
              clear h_j12
              refine lv_icmp_ne (tgt := 137) hx hb dX10_strayFields_112 (by decide) (fun cc => ?_) (fun cc => ?_)
              · replace hf := hf_pos cc hf
                refine lv_iconst (v := 0) hx hb dX10_strayFields_137 (by decide) ?_
                obtain rfl := Option.some.inj hf
                exact hJ_7 _ _ _ (lv_sub hl [0, 2] rfl) hP hD hS
              · replace hf := hf_neg (not_not_intro cc) hf
                refine lv_aload_n hx hb dX10_strayFields_115 rfl (lv_at hl 0 rfl) ?_
                refine va_get (D := (dC, dI)) (ci := 10) (C := RX10) (T := TX10) (N := 26) hx hb hts hiX10 hown hK hP 0 rfl rfl 20 (by decide) (hts (.fieldLink RX10 57 "PaddockFieldsModel" "corner" "[I") (List.mem_cons_of_mem _ (List.mem_append_left _ (List.mem_append_left _ (List.mem_of_getElem? (i := 3) rfl))))) (fun _ h9 => h9) rfl dX10_strayFields_116 ?_
                refine lv_iload_n hx hb dX10_strayFields_119 rfl (lv_at hl 2 rfl) ?_
                obtain ⟨v10, h_v10, hf⟩ := hf_bind hf
                refine wh_ldI (D := (dC, dI)) hx hb hK hP 9 0 rfl rfl h_v10 dX10_strayFields_120 ?_
                refine lv_iload_n hx hb dX10_strayFields_121 rfl (lv_at hl 2 rfl) ?_
                refine lv_icmp_ne (tgt := 133) hx hb dX10_strayFields_122 (by decide) (fun cc => ?_) (fun cc => ?_)
                · replace hf := hf_pos cc hf
                  refine lv_iconst (v := 1) hx hb dX10_strayFields_133 (by decide) ?_
                  refine lv_goto (tgt := 138) hx hb dX10_strayFields_134 (by decide) ?_
                  obtain rfl := Option.some.inj hf
                  exact hJ_7 _ _ _ (lv_sub hl [0, 2] rfl) hP hD hS
                · replace hf := hf_neg (not_not_intro cc) hf
                  refine lv_aload_n hx hb dX10_strayFields_125 rfl (lv_at hl 0 rfl) ?_
                  refine lv_iload_n hx hb dX10_strayFields_126 rfl (lv_at hl 2 rfl) ?_
                  obtain ⟨s11, h_s11, hf⟩ := hf_bind hf
                  refine wh_calli (D := (dC, dI)) (ws' := (wl_fM_strayFields cI cZ cJ cQ a_0 a_0s a_0aside a_0table a_0cells a_0owner a_0code a_0last a_0chosen a_0corner a_0wide a_0before a_0slots a_0isKept a_0buffer a_0isOver a_0isRuled a_0all a_0some a_0cuts known_0 length_0 (0 : Int32) s5.2.1 round_0 seed_0 hash_0 r8.2 r4.2.2 s5.2.2.1 s5.2.2.2.1 s5.2.2.2.2.1 s5.2.2.2.2.2.1 s5.2.2.2.2.2.2.1 s5.2.2.2.2.2.2.2.1 s5.2.2.2.2.2.2.2.2.1 s5.2.2.2.2.2.2.2.2.2)) (va_runV (As := [.int l3_6]) (rest := [.int l2_5]) ⟨hx, hb, hml, hown, hts⟩ (c_fM_isSame l dC dI cI cZ cJ cQ a_0 a_0s a_0corner a_0before a_0slots a_0isKept a_0buffer a_0cells a_0owner a_0code a_0table a_0isOver a_0isRuled a_0all a_0some a_0chosen a_0last a_0wide a_0cuts a_0aside known_0 length_0 (0 : Int32) s5.2.1 round_0 seed_0 hash_0 _ h_s11) (cwV 1 hts gX10_strayFields_X10_isSame rfl rfl rfl (by decide +kernel) ⟨Nat.le_of_ble_eq_true rfl, Nat.le_of_ble_eq_true rfl⟩) (wh_preV (C := RX10) (T := TX10) (N := 26) hK hN hP hD [0, 1, 9] rfl rfl 10 0 rfl rfl) rfl rfl hl.1 rfl (lv_room (Nat.le_of_ble_eq_true rfl)) dX10_strayFields_127 ⟨Nat.le_refl _, Nat.le_refl _⟩) hP hD hS hA [0, 1, 9] [2, 3, 4, 5, 6, 7, 8, 10] [8, 9, 0, 1, 2, 3, 4, 5, 6, 10, 7] rfl rfl rfl rfl (fun H locs hP hD hS => ?_)
                  refine lv_if_ne (tgt := 137) hx hb dX10_strayFields_130 (by decide) (fun cc => ?_) (fun cc => ?_)
                  · replace hf := hf_pos cc hf
                    refine lv_iconst (v := 0) hx hb dX10_strayFields_137 (by decide) ?_
                    obtain rfl := Option.some.inj hf
                    exact hJ_7 _ _ _ (lv_sub hl [0, 2] rfl) hP hD hS
                  · replace hf := hf_neg (not_not_intro cc) hf
                    refine lv_iconst (v := 1) hx hb dX10_strayFields_133 (by decide) ?_
                    refine lv_goto (tgt := 138) hx hb dX10_strayFields_134 (by decide) ?_
                    obtain rfl := Option.some.inj hf
                    exact hJ_7 _ _ _ (lv_sub hl [0, 2] rfl) hP hD hS
        exact hL_4 _ _ _ h_r13 _ _ _ (lv_sub hl [2, 1, 0] rfl) hP hD hS
      · replace hf := hf_neg (not_not_intro cc) hf
        refine lv_aload_n hx hb dX10_strayFields_83 rfl (lv_at hl 0 rfl) ?_
        refine lv_iconst (v := 1) hx hb dX10_strayFields_84 (by decide) ?_
        obtain ⟨s14, h_s14, hf⟩ := hf_bind hf
        refine wh_calli (D := (dC, dI)) (ws' := (wl_fM_strayFields cI cZ cJ cQ a_0 a_0s a_0aside a_0table a_0cells a_0owner a_0code a_0last a_0chosen a_0corner a_0wide a_0before a_0slots a_0isKept a_0buffer a_0isOver a_0isRuled a_0all a_0some a_0cuts known_0 length_0 s14.2 s5.2.1 round_0 seed_0 hash_0 r8.2 r4.2.2 s5.2.2.1 s5.2.2.2.1 s5.2.2.2.2.1 s5.2.2.2.2.2.1 s5.2.2.2.2.2.2.1 s5.2.2.2.2.2.2.2.1 s5.2.2.2.2.2.2.2.2.1 s5.2.2.2.2.2.2.2.2.2)) (va_runV (As := [.int (1 : Int32)]) (rest := []) ⟨hx, hb, hml, hown, hts⟩ (c_fM_throwing l dC dI cI cZ cJ cQ a_0 a_0s a_0before a_0slots a_0isKept a_0buffer a_0cells a_0owner a_0code a_0table a_0isOver a_0isRuled a_0all a_0some a_0chosen a_0last a_0corner a_0wide a_0cuts a_0aside known_0 length_0 s5.2.1 round_0 seed_0 hash_0 _ h_s14) (cwV 1 hts gX10_strayFields_X10_throwing rfl rfl rfl (by decide +kernel) ⟨Nat.le_of_ble_eq_true rfl, Nat.le_of_ble_eq_true rfl⟩) (wh_preV (C := RX10) (T := TX10) (N := 26) hK hN hP hD [0] rfl rfl 10 0 rfl rfl) rfl rfl hl.1 rfl (lv_room (Nat.le_of_ble_eq_true rfl)) dX10_strayFields_85 ⟨Nat.le_refl _, Nat.le_refl _⟩) hP hD hS hA [0] [1, 2, 3, 4, 5, 6, 7, 8, 9, 10] [10, 0, 1, 2, 3, 4, 5, 6, 7, 8, 9] rfl rfl rfl rfl (fun H locs hP hD hS => ?_)
        obtain rfl := Option.some.inj hf
        exact hret _ _ _ _ hP hD hS dX10_strayFields_88
    have hL_8 : ∀ (N : Nat) (l2_9 : Int32) (s_0_10 : Nat → Int32), fM_strayFields_L52 F r4.2.2 N l2_9 s_0_10 = some r8 → ∀ (H : Heap) (locs : List Loc) (ls : Array Slot), lv_has ls 4 [(0, .ref a_0), (1, .int s5.1), (2, .int l2_9)] → va_P (dC, dI) vwCl (wl_fM_strayFields cI cZ cJ cQ a_0 a_0s a_0aside a_0table a_0cells a_0owner a_0code a_0last a_0chosen a_0corner a_0wide a_0before a_0slots a_0isKept a_0buffer a_0isOver a_0isRuled a_0all a_0some a_0cuts known_0 length_0 (0 : Int32) s5.2.1 round_0 seed_0 hash_0 s_0_10 r4.2.2 s5.2.2.1 s5.2.2.2.1 s5.2.2.2.2.1 s5.2.2.2.2.2.1 s5.2.2.2.2.2.2.1 s5.2.2.2.2.2.2.2.1 s5.2.2.2.2.2.2.2.2.1 s5.2.2.2.2.2.2.2.2.2) H → va_D A (wl_fM_strayFields cI cZ cJ cQ a_0 a_0s a_0aside a_0table a_0cells a_0owner a_0code a_0last a_0chosen a_0corner a_0wide a_0before a_0slots a_0isKept a_0buffer a_0isOver a_0isRuled a_0all a_0some a_0cuts known_0 length_0 (0 : Int32) s5.2.1 round_0 seed_0 hash_0 s_0_10 r4.2.2 s5.2.2.1 s5.2.2.2.1 s5.2.2.2.2.1 s5.2.2.2.2.2.1 s5.2.2.2.2.2.2.1 s5.2.2.2.2.2.2.2.1 s5.2.2.2.2.2.2.2.2.1 s5.2.2.2.2.2.2.2.2.2) → va_S A s.heap H locs → W p l e ({ frames := 4, cells := 0, slots := 0, locals := 115 } : Room) s m [.ref a_0].toArray below meth c H locs 0 0 QQ (F0 m 52 ls []) := by
      intro N
      induction N with
      | zero => intro l2_9 s_0_10 hf; exact nomatch (show none = some _ from hf)
      | succ N ih =>
        intro l2_9 s_0_10 hf H locs ls hl hP hD hS
        rw [fM_strayFields_L52] at hf
        refine lv_iload_n hx hb dX10_strayFields_52 rfl (lv_at hl 2 rfl) ?_
        refine lv_bipush (v := 42) hx hb dX10_strayFields_53 (by decide) ?_
        refine lv_icmp_ge (tgt := 79) hx hb dX10_strayFields_55 (by decide) (fun cc => ?_) (fun cc => ?_)
        · replace hf := hf_pos cc hf
          obtain rfl := Option.some.inj hf
          exact hE_2 _ _ _ (lv_sub hl [0, 1] rfl) hP hD hS
        · replace hf := hf_neg cc hf
          refine lv_aload_n hx hb dX10_strayFields_58 rfl (lv_at hl 0 rfl) ?_
          refine va_get (D := (dC, dI)) (ci := 10) (C := RX10) (T := TX10) (N := 26) hx hb hts hiX10 hown hK hP 0 rfl rfl 0 (by decide) (hts (.fieldLink RX10 7 "PaddockFieldsModel" "s" "[I") (List.mem_cons_of_mem _ (List.mem_append_left _ (List.mem_append_left _ (List.mem_of_getElem? (i := 2) rfl))))) (fun _ h9 => h9) rfl dX10_strayFields_59 ?_
          refine lv_bipush (v := 42) hx hb dX10_strayFields_62 (by decide) ?_
          refine lv_iload_n hx hb dX10_strayFields_64 rfl (lv_at hl 2 rfl) ?_
          refine lv_iadd hx hb dX10_strayFields_65 ?_
          refine lv_aload_n hx hb dX10_strayFields_66 rfl (lv_at hl 0 rfl) ?_
          refine va_get (D := (dC, dI)) (ci := 10) (C := RX10) (T := TX10) (N := 26) hx hb hts hiX10 hown hK hP 0 rfl rfl 24 (by decide) (hts (.fieldLink RX10 66 "PaddockFieldsModel" "aside" "[I") (List.mem_cons_of_mem _ (List.mem_append_left _ (List.mem_append_left _ (List.mem_of_getElem? (i := 1) rfl))))) (fun _ h9 => h9) rfl dX10_strayFields_67 ?_
          refine lv_iload_n hx hb dX10_strayFields_70 rfl (lv_at hl 2 rfl) ?_
          obtain ⟨v6, h_v6, hf⟩ := hf_bind hf
          refine wh_ldI (D := (dC, dI)) hx hb hK hP 2 0 rfl rfl h_v6 dX10_strayFields_71 ?_
          obtain ⟨w7, h_w7, hf⟩ := hf_bind hf
          refine wh_stI (D := (dC, dI)) (ws' := (wl_fM_strayFields cI cZ cJ cQ a_0 a_0s a_0aside a_0table a_0cells a_0owner a_0code a_0last a_0chosen a_0corner a_0wide a_0before a_0slots a_0isKept a_0buffer a_0isOver a_0isRuled a_0all a_0some a_0cuts known_0 length_0 (0 : Int32) s5.2.1 round_0 seed_0 hash_0 w7 r4.2.2 s5.2.2.1 s5.2.2.2.1 s5.2.2.2.2.1 s5.2.2.2.2.2.1 s5.2.2.2.2.2.2.1 s5.2.2.2.2.2.2.2.1 s5.2.2.2.2.2.2.2.2.1 s5.2.2.2.2.2.2.2.2.2)) hx hb hK hP hD hS 1 0 rfl rfl rfl h_w7 dX10_strayFields_72 (fun H locs hP hD hS => ?_)
          refine lv_iinc (v := (l2_9 + (1 : Int32))) (lv' := [(2, .int (l2_9 + (1 : Int32))), (0, .ref a_0), (1, .int s5.1)]) hx hb dX10_strayFields_73 hl (k := 2) rfl rfl (by decide) rfl (fun ls hl => ?_)
          refine lv_goto (tgt := 52) hx hb dX10_strayFields_76 (by decide) ?_
          exact ih _ _ hf _ _ _ (lv_sub hl [1, 2, 0] rfl) hP hD hS
    exact hL_8 _ _ _ h_r8 _ _ _ (lv_sub hl [2, 1, 0] rfl) hP hD hS
  have hL_11 : ∀ (N : Nat) (l1_12 : Int32) (s_0_13 : Nat → Int32) (aside_0_14 : Nat → Int32), fM_strayFields_L7 F N l1_12 s_0_13 aside_0_14 = some r4 → ∀ (H : Heap) (locs : List Loc) (ls : Array Slot), lv_has ls 4 [(0, .ref a_0), (1, .int l1_12)] → va_P (dC, dI) vwCl (wl_fM_strayFields cI cZ cJ cQ a_0 a_0s a_0aside a_0table a_0cells a_0owner a_0code a_0last a_0chosen a_0corner a_0wide a_0before a_0slots a_0isKept a_0buffer a_0isOver a_0isRuled a_0all a_0some a_0cuts known_0 length_0 (0 : Int32) many_0 round_0 seed_0 hash_0 s_0_13 aside_0_14 table_0 cells_0 owner_0 code_0 last_0 chosen_0 corner_0 wide_0) H → va_D A (wl_fM_strayFields cI cZ cJ cQ a_0 a_0s a_0aside a_0table a_0cells a_0owner a_0code a_0last a_0chosen a_0corner a_0wide a_0before a_0slots a_0isKept a_0buffer a_0isOver a_0isRuled a_0all a_0some a_0cuts known_0 length_0 (0 : Int32) many_0 round_0 seed_0 hash_0 s_0_13 aside_0_14 table_0 cells_0 owner_0 code_0 last_0 chosen_0 corner_0 wide_0) → va_S A s.heap H locs → W p l e ({ frames := 4, cells := 0, slots := 0, locals := 115 } : Room) s m [.ref a_0].toArray below meth c H locs 0 0 QQ (F0 m 7 ls []) := by
    intro N
    induction N with
    | zero => intro l1_12 s_0_13 aside_0_14 hf; exact nomatch (show none = some _ from hf)
    | succ N ih =>
      intro l1_12 s_0_13 aside_0_14 hf H locs ls hl hP hD hS
      rw [fM_strayFields_L7] at hf
      refine lv_iload_n hx hb dX10_strayFields_7 rfl (lv_at hl 1 rfl) ?_
      refine lv_bipush (v := 42) hx hb dX10_strayFields_8 (by decide) ?_
      refine lv_icmp_ge (tgt := 44) hx hb dX10_strayFields_10 (by decide) (fun cc => ?_) (fun cc => ?_)
      · replace hf := hf_pos cc hf
        obtain rfl := Option.some.inj hf
        exact hE_1 _ _ _ (lv_sub hl [0] rfl) hP hD hS
      · replace hf := hf_neg cc hf
        refine lv_aload_n hx hb dX10_strayFields_13 rfl (lv_at hl 0 rfl) ?_
        refine va_get (D := (dC, dI)) (ci := 10) (C := RX10) (T := TX10) (N := 26) hx hb hts hiX10 hown hK hP 0 rfl rfl 24 (by decide) (hts (.fieldLink RX10 66 "PaddockFieldsModel" "aside" "[I") (List.mem_cons_of_mem _ (List.mem_append_left _ (List.mem_append_left _ (List.mem_of_getElem? (i := 1) rfl))))) (fun _ h9 => h9) rfl dX10_strayFields_14 ?_
        refine lv_iload_n hx hb dX10_strayFields_17 rfl (lv_at hl 1 rfl) ?_
        refine lv_aload_n hx hb dX10_strayFields_18 rfl (lv_at hl 0 rfl) ?_
        refine va_get (D := (dC, dI)) (ci := 10) (C := RX10) (T := TX10) (N := 26) hx hb hts hiX10 hown hK hP 0 rfl rfl 0 (by decide) (hts (.fieldLink RX10 7 "PaddockFieldsModel" "s" "[I") (List.mem_cons_of_mem _ (List.mem_append_left _ (List.mem_append_left _ (List.mem_of_getElem? (i := 2) rfl))))) (fun _ h9 => h9) rfl dX10_strayFields_19 ?_
        refine lv_bipush (v := 42) hx hb dX10_strayFields_22 (by decide) ?_
        refine lv_iload_n hx hb dX10_strayFields_24 rfl (lv_at hl 1 rfl) ?_
        refine lv_iadd hx hb dX10_strayFields_25 ?_
        obtain ⟨v1, h_v1, hf⟩ := hf_bind hf
        refine wh_ldI (D := (dC, dI)) hx hb hK hP 1 0 rfl rfl h_v1 dX10_strayFields_26 ?_
        obtain ⟨w2, h_w2, hf⟩ := hf_bind hf
        refine wh_stI (D := (dC, dI)) (ws' := (wl_fM_strayFields cI cZ cJ cQ a_0 a_0s a_0aside a_0table a_0cells a_0owner a_0code a_0last a_0chosen a_0corner a_0wide a_0before a_0slots a_0isKept a_0buffer a_0isOver a_0isRuled a_0all a_0some a_0cuts known_0 length_0 (0 : Int32) many_0 round_0 seed_0 hash_0 s_0_13 w2 table_0 cells_0 owner_0 code_0 last_0 chosen_0 corner_0 wide_0)) hx hb hK hP hD hS 2 0 rfl rfl rfl h_w2 dX10_strayFields_27 (fun H locs hP hD hS => ?_)
        refine lv_aload_n hx hb dX10_strayFields_28 rfl (lv_at hl 0 rfl) ?_
        refine va_get (D := (dC, dI)) (ci := 10) (C := RX10) (T := TX10) (N := 26) hx hb hts hiX10 hown hK hP 0 rfl rfl 0 (by decide) (hts (.fieldLink RX10 7 "PaddockFieldsModel" "s" "[I") (List.mem_cons_of_mem _ (List.mem_append_left _ (List.mem_append_left _ (List.mem_of_getElem? (i := 2) rfl))))) (fun _ h9 => h9) rfl dX10_strayFields_29 ?_
        refine lv_bipush (v := 42) hx hb dX10_strayFields_32 (by decide) ?_
        refine lv_iload_n hx hb dX10_strayFields_34 rfl (lv_at hl 1 rfl) ?_
        refine lv_iadd hx hb dX10_strayFields_35 ?_
        refine lv_iconst (v := 0) hx hb dX10_strayFields_36 (by decide) ?_
        obtain ⟨w3, h_w3, hf⟩ := hf_bind hf
        refine wh_stI (D := (dC, dI)) (ws' := (wl_fM_strayFields cI cZ cJ cQ a_0 a_0s a_0aside a_0table a_0cells a_0owner a_0code a_0last a_0chosen a_0corner a_0wide a_0before a_0slots a_0isKept a_0buffer a_0isOver a_0isRuled a_0all a_0some a_0cuts known_0 length_0 (0 : Int32) many_0 round_0 seed_0 hash_0 w3 w2 table_0 cells_0 owner_0 code_0 last_0 chosen_0 corner_0 wide_0)) hx hb hK hP hD hS 1 0 rfl rfl rfl h_w3 dX10_strayFields_37 (fun H locs hP hD hS => ?_)
        refine lv_iinc (v := (l1_12 + (1 : Int32))) (lv' := [(1, .int (l1_12 + (1 : Int32))), (0, .ref a_0)]) hx hb dX10_strayFields_38 hl (k := 1) rfl rfl (by decide) rfl (fun ls hl => ?_)
        refine lv_goto (tgt := 7) hx hb dX10_strayFields_41 (by decide) ?_
        exact ih _ _ _ hf _ _ _ (lv_sub hl [1, 0] rfl) hP hD hS
  exact hL_11 _ _ _ _ h_r4 _ _ _ (lv_sub hl [1, 0] rfl) hP hD hS
set_option maxHeartbeats 4000000 in
set_option maxRecDepth 100000 in
theorem c_fM_mean (l : Launch) (dC : Nat → ClassId) (dI : Nat → Nat → Nat) (cI cZ cJ cQ : ClassId) (a_0 a_0s a_0before a_0slots a_0isKept a_0buffer a_0cells a_0owner a_0code a_0table a_0isOver a_0isRuled a_0all a_0some a_0chosen a_0last a_0corner a_0wide a_0cuts a_0aside : Nat) (known_0 : Int32) (length_0 : Int32) (thrown_0 : Int32) (round_0 : Int32) (seed_0 : Int64) (hash_0 : Int64) (sz : Nat) {F : Nat} {s_0 : Nat → Int32} {many_0 : Int32} {out : UInt64} (hf : fM_mean F s_0 many_0 = some out) : Met l yX10_mean wsX10_mean ({ frames := 2, cells := 0, slots := 0, locals := 45 } : Room) (va_Pc [.ref a_0] (wlP (dC, dI) (wlT cI cZ cJ cQ) (wl_fM_mean cI cZ cJ cQ a_0 a_0s a_0before a_0slots a_0isKept a_0buffer a_0cells a_0owner a_0code a_0table a_0isOver a_0isRuled a_0all a_0some a_0chosen a_0last a_0corner a_0wide a_0cuts a_0aside known_0 length_0 thrown_0 many_0 round_0 seed_0 hash_0 s_0) sz)) (va_Qd (fun (v : UInt64) (_ : Unit) => v = out) (wlQ (dC, dI) (va_A (wl_fM_mean cI cZ cJ cQ a_0 a_0s a_0before a_0slots a_0isKept a_0buffer a_0cells a_0owner a_0code a_0table a_0isOver a_0isRuled a_0all a_0some a_0chosen a_0last a_0corner a_0wide a_0cuts a_0aside known_0 length_0 thrown_0 many_0 round_0 seed_0 hash_0 s_0) sz) (wl_fM_mean cI cZ cJ cQ a_0 a_0s a_0before a_0slots a_0isKept a_0buffer a_0cells a_0owner a_0code a_0table a_0isOver a_0isRuled a_0all a_0some a_0chosen a_0last a_0corner a_0wide a_0cuts a_0aside known_0 length_0 thrown_0 many_0 round_0 seed_0 hash_0 s_0)) (va_A (wl_fM_mean cI cZ cJ cQ a_0 a_0s a_0before a_0slots a_0isKept a_0buffer a_0cells a_0owner a_0code a_0table a_0isOver a_0isRuled a_0all a_0some a_0chosen a_0last a_0corner a_0wide a_0cuts a_0aside known_0 length_0 thrown_0 many_0 round_0 seed_0 hash_0 s_0) sz)) 0 0 (va_A (wl_fM_mean cI cZ cJ cQ a_0 a_0s a_0before a_0slots a_0isKept a_0buffer a_0cells a_0owner a_0code a_0table a_0isOver a_0isRuled a_0all a_0some a_0chosen a_0last a_0corner a_0wide a_0cuts a_0aside known_0 length_0 thrown_0 many_0 round_0 seed_0 hash_0 s_0) sz) := by
  refine wh_ofWd (lv := [(0, .ref a_0)]) RX10 (by decide) rfl rfl (Nat.le_of_ble_eq_true rfl) rfl ?_
  intro p e s m below meth c A QQ hx hb hml hown hts hP hK hN hD hA hret ls hl
  have hS : va_S A s.heap s.heap [] := va_S.rf
  have hiX10 : ∀ w ∈ wsX100, w ∈ wsX10_mean := (fun _ h => List.mem_cons_of_mem _ (List.mem_append_right _ (h)))
  unfold fM_mean at hf
  refine lv_aload_n hx hb dX10_mean_0 rfl (lv_at hl 0 rfl) ?_
  obtain ⟨s1, h_s1, hf⟩ := hf_bind hf
  refine wh_calll (D := (dC, dI)) (ws' := (wl_fM_mean cI cZ cJ cQ a_0 a_0s a_0before a_0slots a_0isKept a_0buffer a_0cells a_0owner a_0code a_0table a_0isOver a_0isRuled a_0all a_0some a_0chosen a_0last a_0corner a_0wide a_0cuts a_0aside known_0 length_0 thrown_0 many_0 round_0 seed_0 hash_0 s_0)) (va_runV (As := []) (rest := []) ⟨hx, hb, hml, hown, hts⟩ (c_fM_numbered l dC dI cI cZ cJ cQ a_0 a_0s a_0before a_0slots a_0isKept a_0buffer a_0cells a_0owner a_0code a_0table a_0isOver a_0isRuled a_0all a_0some a_0chosen a_0last a_0corner a_0wide a_0cuts a_0aside known_0 length_0 thrown_0 many_0 round_0 seed_0 hash_0 _ h_s1) (cwV 0 hts gX10_mean_X10_numbered rfl rfl rfl (by decide +kernel) ⟨Nat.le_of_ble_eq_true rfl, Nat.le_of_ble_eq_true rfl⟩) (wh_preV (C := RX10) (T := TX10) (N := 26) hK hN hP hD [0, 1] rfl rfl 10 0 rfl rfl) rfl rfl hl.1 rfl (lv_room (Nat.le_of_ble_eq_true rfl)) dX10_mean_1 ⟨Nat.le_refl _, Nat.le_refl _⟩) hP hD hS hA [0, 1] [] [0, 1] rfl rfl rfl rfl (fun H locs hP hD hS => ?_)
  refine lv_aload_n hx hb dX10_mean_4 rfl (lv_at hl 0 rfl) ?_
  obtain ⟨s2, h_s2, hf⟩ := hf_bind hf
  refine wh_calll (D := (dC, dI)) (ws' := (wl_fM_mean cI cZ cJ cQ a_0 a_0s a_0before a_0slots a_0isKept a_0buffer a_0cells a_0owner a_0code a_0table a_0isOver a_0isRuled a_0all a_0some a_0chosen a_0last a_0corner a_0wide a_0cuts a_0aside known_0 length_0 thrown_0 many_0 round_0 seed_0 hash_0 s_0)) (va_runV (As := []) (rest := [.long s1]) ⟨hx, hb, hml, hown, hts⟩ (c_fM_taken l dC dI cI cZ cJ cQ a_0 a_0s a_0before a_0slots a_0isKept a_0buffer a_0cells a_0owner a_0code a_0table a_0isOver a_0isRuled a_0all a_0some a_0chosen a_0last a_0corner a_0wide a_0cuts a_0aside known_0 length_0 thrown_0 many_0 round_0 seed_0 hash_0 _ h_s2) (cwV 0 hts gX10_mean_X10_taken rfl rfl rfl (by decide +kernel) ⟨Nat.le_of_ble_eq_true rfl, Nat.le_of_ble_eq_true rfl⟩) (wh_preV (C := RX10) (T := TX10) (N := 26) hK hN hP hD [0, 1] rfl rfl 10 0 rfl rfl) rfl rfl hl.1 rfl (lv_room (Nat.le_of_ble_eq_true rfl)) dX10_mean_5 ⟨Nat.le_refl _, Nat.le_refl _⟩) hP hD hS hA [0, 1] [] [0, 1] rfl rfl rfl rfl (fun H locs hP hD hS => ?_)
  refine lv_ldc2 hx hb hown (hts (.constantLong RX10 111 (-1)) (List.mem_cons_of_mem _ (List.mem_append_left _ (List.mem_of_getElem? (i := 0) rfl)))) dX10_mean_8 ?_
  refine lv_lxor hx hb dX10_mean_11 ?_
  refine lv_land hx hb dX10_mean_12 ?_
  obtain ⟨s3, h_s3, hf⟩ := hf_bind hf
  refine wh_calli (D := (dC, dI)) (ws' := (wl_fM_mean cI cZ cJ cQ a_0 a_0s a_0before a_0slots a_0isKept a_0buffer a_0cells a_0owner a_0code a_0table a_0isOver a_0isRuled a_0all a_0some a_0chosen a_0last a_0corner a_0wide a_0cuts a_0aside known_0 length_0 thrown_0 many_0 round_0 seed_0 hash_0 s_0)) (va_runS (As := [.long (s1 &&& (s2 ^^^ (-1 : Int64)))]) (rest := []) ⟨hx, hb, hml, hown, hts⟩ (c_fM_bits l dC dI cI cZ cJ cQ _ h_s3) (va_cwS 1 hts gX10_mean_X10_bits rfl rfl rfl (by decide +kernel) ⟨Nat.le_of_ble_eq_true rfl, Nat.le_of_ble_eq_true rfl⟩) (wh_preS hK hN hP hD [] rfl rfl) rfl rfl hl.1 rfl (lv_room (Nat.le_of_ble_eq_true rfl)) dX10_mean_13 ⟨Nat.le_refl _, Nat.le_refl _⟩) hP hD hS hA [] [0, 1] [0, 1] rfl rfl rfl rfl (fun H locs hP hD hS => ?_)
  refine lv_istore_n (lv' := [(1, .int s3), (0, .ref a_0)]) hx hb dX10_mean_16 rfl hl (by decide) rfl (fun ls hl => ?_)
  refine lv_iload_n hx hb dX10_mean_17 rfl (lv_at hl 0 rfl) ?_
  refine lv_if_ne (tgt := 25) hx hb dX10_mean_18 (by decide) (fun cc => ?_) (fun cc => ?_)
  · replace hf := hf_pos cc hf
    refine lv_aload_n hx hb dX10_mean_25 rfl (lv_at hl 1 rfl) ?_
    refine va_get (D := (dC, dI)) (ci := 10) (C := RX10) (T := TX10) (N := 26) hx hb hts hiX10 hown hK hP 0 rfl rfl 11 (by decide) (hts (.fieldLink RX10 102 "PaddockFieldsModel" "many" "I") (List.mem_cons_of_mem _ (List.mem_append_left _ (List.mem_of_getElem? (i := 1) rfl)))) (fun _ h9 => h9) rfl dX10_mean_26 ?_
    refine lv_i2d hx hb dX10_mean_29 ?_
    refine lv_iload_n hx hb dX10_mean_30 rfl (lv_at hl 0 rfl) ?_
    refine lv_i2d hx hb dX10_mean_31 ?_
    obtain ⟨v4, h_v4, hf⟩ := hf_bind hf
    refine wh_ddiv hx hb h_v4 dX10_mean_32 ?_
    obtain rfl := Option.some.inj hf
    exact hret _ _ _ _ hP hD hS dX10_mean_33
  · replace hf := hf_neg (not_not_intro cc) hf
    refine lv_dconst0 hx hb dX10_mean_21 ?_
    refine lv_goto (tgt := 33) hx hb dX10_mean_22 (by decide) ?_
    obtain rfl := Option.some.inj hf
    exact hret _ _ _ _ hP hD hS dX10_mean_33
set_option maxHeartbeats 4000000 in
set_option maxRecDepth 100000 in
theorem c_fM_meanPossible (l : Launch) (dC : Nat → ClassId) (dI : Nat → Nat → Nat) (cI cZ cJ cQ : ClassId) (a_0 a_0table a_0s a_0cells a_0owner a_0code a_0before a_0slots a_0isKept a_0buffer a_0isOver a_0isRuled a_0all a_0some a_0chosen a_0last a_0corner a_0wide a_0cuts a_0aside : Nat) (known_0 : Int32) (length_0 : Int32) (round_0 : Int32) (seed_0 : Int64) (hash_0 : Int64) (sz : Nat) {F : Nat} {thrown_0 : Int32} {many_0 : Int32} {table_0 : Nat → Int32} {s_0 : Nat → Int32} {cells_0 : Nat → Int64} {owner_0 : Nat → Int32} {code_0 : Nat → Int32} {out : UInt64 × Int32 × Int32 × (Nat → Int32) × (Nat → Int64) × (Nat → Int32) × (Nat → Int32)} (hf : fM_meanPossible F thrown_0 many_0 table_0 s_0 cells_0 owner_0 code_0 = some out) : Met l yX10_meanPossible wsX10_meanPossible ({ frames := 3, cells := 0, slots := 0, locals := 87 } : Room) (va_Pc [.ref a_0] (wlP (dC, dI) (wlT cI cZ cJ cQ) (wl_fM_meanPossible cI cZ cJ cQ a_0 a_0table a_0s a_0cells a_0owner a_0code a_0before a_0slots a_0isKept a_0buffer a_0isOver a_0isRuled a_0all a_0some a_0chosen a_0last a_0corner a_0wide a_0cuts a_0aside known_0 length_0 thrown_0 many_0 round_0 seed_0 hash_0 table_0 s_0 cells_0 owner_0 code_0) sz)) (va_Qd (fun (v : UInt64) (_ : Unit) => v = out.1) (wlQ (dC, dI) (va_A (wl_fM_meanPossible cI cZ cJ cQ a_0 a_0table a_0s a_0cells a_0owner a_0code a_0before a_0slots a_0isKept a_0buffer a_0isOver a_0isRuled a_0all a_0some a_0chosen a_0last a_0corner a_0wide a_0cuts a_0aside known_0 length_0 thrown_0 many_0 round_0 seed_0 hash_0 table_0 s_0 cells_0 owner_0 code_0) sz) (wl_fM_meanPossible cI cZ cJ cQ a_0 a_0table a_0s a_0cells a_0owner a_0code a_0before a_0slots a_0isKept a_0buffer a_0isOver a_0isRuled a_0all a_0some a_0chosen a_0last a_0corner a_0wide a_0cuts a_0aside known_0 length_0 out.2.1 out.2.2.1 round_0 seed_0 hash_0 out.2.2.2.1 s_0 out.2.2.2.2.1 out.2.2.2.2.2.1 out.2.2.2.2.2.2)) (va_A (wl_fM_meanPossible cI cZ cJ cQ a_0 a_0table a_0s a_0cells a_0owner a_0code a_0before a_0slots a_0isKept a_0buffer a_0isOver a_0isRuled a_0all a_0some a_0chosen a_0last a_0corner a_0wide a_0cuts a_0aside known_0 length_0 thrown_0 many_0 round_0 seed_0 hash_0 table_0 s_0 cells_0 owner_0 code_0) sz)) 0 0 (va_A (wl_fM_meanPossible cI cZ cJ cQ a_0 a_0table a_0s a_0cells a_0owner a_0code a_0before a_0slots a_0isKept a_0buffer a_0isOver a_0isRuled a_0all a_0some a_0chosen a_0last a_0corner a_0wide a_0cuts a_0aside known_0 length_0 thrown_0 many_0 round_0 seed_0 hash_0 table_0 s_0 cells_0 owner_0 code_0) sz) := by
  refine wh_ofWd (lv := [(0, .ref a_0)]) RX10 (by decide) rfl rfl (Nat.le_of_ble_eq_true rfl) rfl ?_
  intro p e s m below meth c A QQ hx hb hml hown hts hP hK hN hD hA hret ls hl
  have hS : va_S A s.heap s.heap [] := va_S.rf
  have hiX10 : ∀ w ∈ wsX100, w ∈ wsX10_meanPossible := (fun _ h => List.mem_cons_of_mem _ (List.mem_append_right _ (h)))
  unfold fM_meanPossible at hf
  refine lv_aload_n hx hb dX10_meanPossible_0 rfl (lv_at hl 0 rfl) ?_
  refine lv_iconst (v := 0) hx hb dX10_meanPossible_1 (by decide) ?_
  refine wh_put (D := (dC, dI)) (ci := 10) (C := RX10) (T := TX10) (N := 26) (ty := .int) (v := .int (0 : Int32)) (ws' := (wl_fM_meanPossible cI cZ cJ cQ a_0 a_0table a_0s a_0cells a_0owner a_0code a_0before a_0slots a_0isKept a_0buffer a_0isOver a_0isRuled a_0all a_0some a_0chosen a_0last a_0corner a_0wide a_0cuts a_0aside known_0 length_0 (0 : Int32) many_0 round_0 seed_0 hash_0 table_0 s_0 cells_0 owner_0 code_0)) hx hb hts hiX10 tyX10 tyX10_ok nmX10 hown hK hP hD hS 0 rfl rfl 7 (by decide) (hts (.fieldLink RX10 69 "PaddockFieldsModel" "thrown" "I") (List.mem_cons_of_mem _ (List.mem_append_left _ (List.mem_append_left _ (List.mem_of_getElem? (i := 0) rfl))))) (fun _ h9 => h9) rfl rfl rfl rfl (Nat.le_of_ble_eq_true rfl) rfl dX10_meanPossible_2 (fun H locs hP hD hS => ?_)
  refine lv_aload_n hx hb dX10_meanPossible_5 rfl (lv_at hl 0 rfl) ?_
  obtain ⟨s1, h_s1, hf⟩ := hf_bind hf
  refine wh_callv (D := (dC, dI)) (ws' := (wl_fM_meanPossible cI cZ cJ cQ a_0 a_0table a_0s a_0cells a_0owner a_0code a_0before a_0slots a_0isKept a_0buffer a_0isOver a_0isRuled a_0all a_0some a_0chosen a_0last a_0corner a_0wide a_0cuts a_0aside known_0 length_0 (0 : Int32) s1.1 round_0 seed_0 hash_0 s1.2.1 s_0 s1.2.2.1 s1.2.2.2.1 s1.2.2.2.2)) (va_runV (As := []) (rest := []) ⟨hx, hb, hml, hown, hts⟩ (c_fM_finds l dC dI cI cZ cJ cQ a_0 a_0table a_0s a_0cells a_0owner a_0code a_0before a_0slots a_0isKept a_0buffer a_0isOver a_0isRuled a_0all a_0some a_0chosen a_0last a_0corner a_0wide a_0cuts a_0aside known_0 length_0 (0 : Int32) round_0 seed_0 hash_0 _ h_s1) (cwV 0 hts gX10_meanPossible_X10_finds rfl rfl rfl (by decide +kernel) ⟨Nat.le_of_ble_eq_true rfl, Nat.le_of_ble_eq_true rfl⟩) (wh_preV (C := RX10) (T := TX10) (N := 26) hK hN hP hD [0, 1, 2, 3, 4, 5] rfl rfl 10 0 rfl rfl) rfl rfl hl.1 rfl (lv_room (Nat.le_of_ble_eq_true rfl)) dX10_meanPossible_6 ⟨Nat.le_refl _, Nat.le_refl _⟩) hP hD hS hA [0, 1, 2, 3, 4, 5] [] [0, 1, 2, 3, 4, 5] rfl rfl rfl rfl (fun H locs hP hD hS => ?_)
  refine lv_aload_n hx hb dX10_meanPossible_9 rfl (lv_at hl 0 rfl) ?_
  obtain ⟨s2, h_s2, hf⟩ := hf_bind hf
  refine wh_calld (D := (dC, dI)) (ws' := (wl_fM_meanPossible cI cZ cJ cQ a_0 a_0table a_0s a_0cells a_0owner a_0code a_0before a_0slots a_0isKept a_0buffer a_0isOver a_0isRuled a_0all a_0some a_0chosen a_0last a_0corner a_0wide a_0cuts a_0aside known_0 length_0 (0 : Int32) s1.1 round_0 seed_0 hash_0 s1.2.1 s_0 s1.2.2.1 s1.2.2.2.1 s1.2.2.2.2)) (va_runV (As := []) (rest := []) ⟨hx, hb, hml, hown, hts⟩ (c_fM_mean l dC dI cI cZ cJ cQ a_0 a_0s a_0before a_0slots a_0isKept a_0buffer a_0cells a_0owner a_0code a_0table a_0isOver a_0isRuled a_0all a_0some a_0chosen a_0last a_0corner a_0wide a_0cuts a_0aside known_0 length_0 (0 : Int32) round_0 seed_0 hash_0 _ h_s2) (cwV 0 hts gX10_meanPossible_X10_mean rfl rfl rfl (by decide +kernel) ⟨Nat.le_of_ble_eq_true rfl, Nat.le_of_ble_eq_true rfl⟩) (wh_preV (C := RX10) (T := TX10) (N := 26) hK hN hP hD [0, 2] rfl rfl 10 0 rfl rfl) rfl rfl hl.1 rfl (lv_room (Nat.le_of_ble_eq_true rfl)) dX10_meanPossible_10 ⟨Nat.le_refl _, Nat.le_refl _⟩) hP hD hS hA [0, 2] [1, 3, 4, 5] [4, 0, 5, 1, 2, 3] rfl rfl rfl rfl (fun H locs hP hD hS => ?_)
  obtain rfl := Option.some.inj hf
  exact hret _ _ _ _ hP hD hS dX10_meanPossible_13
set_option maxHeartbeats 4000000 in
set_option maxRecDepth 100000 in
theorem c_fM_bitsOf (l : Launch) (dC : Nat → ClassId) (dI : Nat → Nat → Nat) (cI cZ cJ cQ : ClassId) (sz : Nat) {F : Nat} {x0 : UInt64} {x1 : Int32} {x2 : Int32} {out : Int64} (hf : fM_bitsOf F x0 x1 x2 = some out) : Met l yX10_bitsOf wsX10_bitsOf ({ frames := 0, cells := 0, slots := 0, locals := 0 } : Room) (va_Pc [.double x0, .int x1, .int x2] (wlP (dC, dI) (wlT cI cZ cJ cQ) (wl_fM_bitsOf cI cZ cJ cQ) sz)) (va_Ql (fun (v : Int64) (_ : Unit) => v = out) (wlQ (dC, dI) (va_A (wl_fM_bitsOf cI cZ cJ cQ) sz) (wl_fM_bitsOf cI cZ cJ cQ)) (va_A (wl_fM_bitsOf cI cZ cJ cQ) sz)) 0 0 (va_A (wl_fM_bitsOf cI cZ cJ cQ) sz) := by
  refine wh_ofWl (lv := [(0, .double x0), (2, .int x1), (3, .int x2)]) RX10 (by decide) rfl rfl (Nat.le_of_ble_eq_true rfl) rfl ?_
  intro p e s m below meth c A QQ hx hb hml hown hts hP hK hN hD hA hret ls hl
  have hS : va_S A s.heap s.heap [] := va_S.rf
  unfold fM_bitsOf at hf
  refine lv_dload_n hx hb dX10_bitsOf_0 rfl (lv_at hl 0 rfl) ?_
  refine lv_dconst0 hx hb dX10_bitsOf_1 ?_
  refine lv_dcmp hx hb dX10_bitsOf_2 ?_
  refine lv_if_ne (tgt := 8) hx hb dX10_bitsOf_3 (by decide) (fun cc => ?_) (fun cc => ?_)
  · replace hf := hf_pos cc hf
    refine lv_dload_n hx hb dX10_bitsOf_8 rfl (lv_at hl 0 rfl) ?_
    refine lv_dstore (lv' := [(4, .double x0), (0, .double x0), (2, .int x1), (3, .int x2)]) hx hb dX10_bitsOf_9 hl (by decide) rfl (fun ls hl => ?_)
    refine lv_iload_n hx hb dX10_bitsOf_11 rfl (lv_at hl 3 rfl) ?_
    refine lv_istore (lv' := [(6, .int x2), (4, .double x0), (0, .double x0), (2, .int x1), (3, .int x2)]) hx hb dX10_bitsOf_12 hl (by decide) rfl (fun ls hl => ?_)
    obtain ⟨r2, h_r2, hf⟩ := hf_bind hf
    have hE_1 : ∀ (H : Heap) (locs : List Loc) (ls : Array Slot), lv_has ls 14 [(2, .int x1), (4, .double r2.1), (6, .int r2.2)] → va_P (dC, dI) vwCl (wl_fM_bitsOf cI cZ cJ cQ) H → va_D A (wl_fM_bitsOf cI cZ cJ cQ) → va_S A s.heap H locs → W p l e ({ frames := 0, cells := 0, slots := 0, locals := 0 } : Room) s m [.double x0, .int x1, .int x2].toArray below meth c H locs 0 0 QQ (F0 m 37 ls []) := by
      intro H locs ls hl hP hD hS
      obtain ⟨r4, h_r4, hf⟩ := hf_bind hf
      have hE_2 : ∀ (H : Heap) (locs : List Loc) (ls : Array Slot), lv_has ls 14 [(2, .int x1), (4, .double r4.1), (6, .int r4.2)] → va_P (dC, dI) vwCl (wl_fM_bitsOf cI cZ cJ cQ) H → va_D A (wl_fM_bitsOf cI cZ cJ cQ) → va_S A s.heap H locs → W p l e ({ frames := 0, cells := 0, slots := 0, locals := 0 } : Room) s m [.double x0, .int x1, .int x2].toArray below meth c H locs 0 0 QQ (F0 m 58 ls []) := by
        intro H locs ls hl hP hD hS
        refine lv_dload hx hb dX10_bitsOf_58 (lv_at hl 1 rfl) ?_
        refine lv_dconst1 hx hb dX10_bitsOf_60 ?_
        obtain ⟨v5, h_v5, hf⟩ := hf_bind hf
        refine wh_dsub hx hb h_v5 dX10_bitsOf_61 ?_
        refine lv_dstore (lv' := [(7, .double v5), (2, .int x1), (4, .double r4.1), (6, .int r4.2)]) hx hb dX10_bitsOf_62 hl (by decide) rfl (fun ls hl => ?_)
        refine lv_iload hx hb dX10_bitsOf_64 (lv_at hl 3 rfl) ?_
        refine lv_i2l hx hb dX10_bitsOf_66 rfl ?_
        refine lv_lstore (lv' := [(9, .long r4.2.toInt64), (7, .double v5), (2, .int x1), (4, .double r4.1), (6, .int r4.2)]) hx hb dX10_bitsOf_67 hl (by decide) rfl (fun ls hl => ?_)
        refine lv_iconst (v := 0) hx hb dX10_bitsOf_69 (by decide) ?_
        refine lv_istore (lv' := [(11, .int (0 : Int32)), (9, .long r4.2.toInt64), (7, .double v5), (2, .int x1), (4, .double r4.1), (6, .int r4.2)]) hx hb dX10_bitsOf_70 hl (by decide) rfl (fun ls hl => ?_)
        obtain ⟨r9, h_r9, hf⟩ := hf_bind hf
        have hE_3 : ∀ (H : Heap) (locs : List Loc) (ls : Array Slot), lv_has ls 14 [(9, .long r9.2.1)] → va_P (dC, dI) vwCl (wl_fM_bitsOf cI cZ cJ cQ) H → va_D A (wl_fM_bitsOf cI cZ cJ cQ) → va_S A s.heap H locs → W p l e ({ frames := 0, cells := 0, slots := 0, locals := 0 } : Room) s m [.double x0, .int x1, .int x2].toArray below meth c H locs 0 0 QQ (F0 m 125 ls []) := by
          intro H locs ls hl hP hD hS
          refine lv_lload hx hb dX10_bitsOf_125 (lv_at hl 0 rfl) ?_
          obtain rfl := Option.some.inj hf
          exact hret _ _ _ _ hP hD hS dX10_bitsOf_127
        have hL_4 : ∀ (N : Nat) (l7_5 : UInt64) (l9_6 : Int64) (l11_7 : Int32), fM_bitsOf_L72 F x1 N l7_5 l9_6 l11_7 = some r9 → ∀ (H : Heap) (locs : List Loc) (ls : Array Slot), lv_has ls 14 [(2, .int x1), (7, .double l7_5), (9, .long l9_6), (11, .int l11_7)] → va_P (dC, dI) vwCl (wl_fM_bitsOf cI cZ cJ cQ) H → va_D A (wl_fM_bitsOf cI cZ cJ cQ) → va_S A s.heap H locs → W p l e ({ frames := 0, cells := 0, slots := 0, locals := 0 } : Room) s m [.double x0, .int x1, .int x2].toArray below meth c H locs 0 0 QQ (F0 m 72 ls []) := by
          intro N
          induction N with
          | zero => intro l7_5 l9_6 l11_7 hf; exact nomatch (show none = some _ from hf)
          | succ N ih =>
            intro l7_5 l9_6 l11_7 hf H locs ls hl hP hD hS
            rw [fM_bitsOf_L72] at hf
            refine lv_iload hx hb dX10_bitsOf_72 (lv_at hl 3 rfl) ?_
            refine lv_iload_n hx hb dX10_bitsOf_74 rfl (lv_at hl 0 rfl) ?_
            refine lv_icmp_ge (tgt := 125) hx hb dX10_bitsOf_75 (by decide) (fun cc => ?_) (fun cc => ?_)
            · replace hf := hf_pos cc hf
              obtain rfl := Option.some.inj hf
              exact hE_3 _ _ _ (lv_sub hl [2] rfl) hP hD hS
            · replace hf := hf_neg cc hf
              refine lv_dload hx hb dX10_bitsOf_78 (lv_at hl 1 rfl) ?_
              refine lv_ldc2d hx hb hown (hts (.constantDouble RX10 240 (4611686018427387904)) (List.mem_cons_of_mem _ (List.mem_of_getElem? (i := 0) rfl))) dX10_bitsOf_80 ?_
              obtain ⟨v6, h_v6, hf⟩ := hf_bind hf
              refine wh_dmul hx hb h_v6 dX10_bitsOf_83 ?_
              refine lv_dstore (lv' := [(7, .double v6), (2, .int x1), (9, .long l9_6), (11, .int l11_7)]) hx hb dX10_bitsOf_84 hl (by decide) rfl (fun ls hl => ?_)
              refine lv_dload hx hb dX10_bitsOf_86 (lv_at hl 0 rfl) ?_
              refine lv_dconst1 hx hb dX10_bitsOf_88 ?_
              refine lv_dcmp hx hb dX10_bitsOf_89 ?_
              obtain ⟨j7, h_j7, hf⟩ := hf_bind hf
              have hJ_8 : ∀ (H : Heap) (locs : List Loc) (ls : Array Slot), lv_has ls 14 [(2, .int x1), (7, .double v6), (9, .long l9_6), (11, .int l11_7)] → va_P (dC, dI) vwCl (wl_fM_bitsOf cI cZ cJ cQ) H → va_D A (wl_fM_bitsOf cI cZ cJ cQ) → va_S A s.heap H locs → W p l e ({ frames := 0, cells := 0, slots := 0, locals := 0 } : Room) s m [.double x0, .int x1, .int x2].toArray below meth c H locs 0 0 QQ (F0 m 98 ls [.long j7]) := by
                intro H locs ls hl hP hD hS
                refine lv_lstore (lv' := [(12, .long j7), (2, .int x1), (7, .double v6), (9, .long l9_6), (11, .int l11_7)]) hx hb dX10_bitsOf_98 hl (by decide) rfl (fun ls hl => ?_)
                refine lv_dload hx hb dX10_bitsOf_100 (lv_at hl 2 rfl) ?_
                refine lv_lload hx hb dX10_bitsOf_102 (lv_at hl 0 rfl) ?_
                refine lv_l2d hx hb dX10_bitsOf_104 ?_
                obtain ⟨v8, h_v8, hf⟩ := hf_bind hf
                refine wh_dsub hx hb h_v8 dX10_bitsOf_105 ?_
                refine lv_dstore (lv' := [(7, .double v8), (12, .long j7), (2, .int x1), (9, .long l9_6), (11, .int l11_7)]) hx hb dX10_bitsOf_106 hl (by decide) rfl (fun ls hl => ?_)
                refine lv_ldc2 hx hb hown (hts (.constantLong RX10 242 (2)) (List.mem_cons_of_mem _ (List.mem_of_getElem? (i := 1) rfl))) dX10_bitsOf_108 ?_
                refine lv_lload hx hb dX10_bitsOf_111 (lv_at hl 3 rfl) ?_
                refine lv_lmul hx hb dX10_bitsOf_113 ?_
                refine lv_lload hx hb dX10_bitsOf_114 (lv_at hl 1 rfl) ?_
                refine lv_ladd hx hb dX10_bitsOf_116 ?_
                refine lv_lstore (lv' := [(9, .long (((2 : Int64) * l9_6) + j7)), (7, .double v8), (12, .long j7), (2, .int x1), (11, .int l11_7)]) hx hb dX10_bitsOf_117 hl (by decide) rfl (fun ls hl => ?_)
                refine lv_iinc (v := (l11_7 + (1 : Int32))) (lv' := [(11, .int (l11_7 + (1 : Int32))), (9, .long (((2 : Int64) * l9_6) + j7)), (7, .double v8), (12, .long j7), (2, .int x1)]) hx hb dX10_bitsOf_119 hl (k := 4) rfl rfl (by decide) rfl (fun ls hl => ?_)
                refine lv_goto (tgt := 72) hx hb dX10_bitsOf_122 (by decide) ?_
                exact ih _ _ _ hf _ _ _ (lv_sub hl [4, 2, 1, 0] rfl) hP hD hS
              clear hf
              have hf := h_j7
              clear h_j7
              refine lv_if_lt (tgt := 97) hx hb dX10_bitsOf_90 (by decide) (fun cc => ?_) (fun cc => ?_)
              · replace hf := hf_pos cc hf
                refine lv_lconst (v := 0) hx hb dX10_bitsOf_97 (by decide) ?_
                obtain rfl := Option.some.inj hf
                exact hJ_8 _ _ _ (lv_sub hl [1, 0, 2, 3] rfl) hP hD hS
              · replace hf := hf_neg cc hf
                refine lv_lconst (v := 1) hx hb dX10_bitsOf_93 (by decide) ?_
                refine lv_goto (tgt := 98) hx hb dX10_bitsOf_94 (by decide) ?_
                obtain rfl := Option.some.inj hf
                exact hJ_8 _ _ _ (lv_sub hl [1, 0, 2, 3] rfl) hP hD hS
        exact hL_4 _ _ _ _ h_r9 _ _ _ (lv_sub hl [3, 2, 1, 0] rfl) hP hD hS
      have hL_9 : ∀ (N : Nat) (l4_10 : UInt64) (l6_11 : Int32), fM_bitsOf_L37 F N l4_10 l6_11 = some r4 → ∀ (H : Heap) (locs : List Loc) (ls : Array Slot), lv_has ls 14 [(2, .int x1), (4, .double l4_10), (6, .int l6_11)] → va_P (dC, dI) vwCl (wl_fM_bitsOf cI cZ cJ cQ) H → va_D A (wl_fM_bitsOf cI cZ cJ cQ) → va_S A s.heap H locs → W p l e ({ frames := 0, cells := 0, slots := 0, locals := 0 } : Room) s m [.double x0, .int x1, .int x2].toArray below meth c H locs 0 0 QQ (F0 m 37 ls []) := by
        intro N
        induction N with
        | zero => intro l4_10 l6_11 hf; exact nomatch (show none = some _ from hf)
        | succ N ih =>
          intro l4_10 l6_11 hf H locs ls hl hP hD hS
          rw [fM_bitsOf_L37] at hf
          refine lv_dload hx hb dX10_bitsOf_37 (lv_at hl 1 rfl) ?_
          refine lv_dconst1 hx hb dX10_bitsOf_39 ?_
          refine lv_dcmp hx hb dX10_bitsOf_40 ?_
          refine lv_if_ge (tgt := 58) hx hb dX10_bitsOf_41 (by decide) (fun cc => ?_) (fun cc => ?_)
          · replace hf := hf_pos cc hf
            obtain rfl := Option.some.inj hf
            exact hE_2 _ _ _ (lv_sub hl [0, 1, 2] rfl) hP hD hS
          · replace hf := hf_neg cc hf
            refine lv_dload hx hb dX10_bitsOf_44 (lv_at hl 1 rfl) ?_
            refine lv_ldc2d hx hb hown (hts (.constantDouble RX10 240 (4611686018427387904)) (List.mem_cons_of_mem _ (List.mem_of_getElem? (i := 0) rfl))) dX10_bitsOf_46 ?_
            obtain ⟨v3, h_v3, hf⟩ := hf_bind hf
            refine wh_dmul hx hb h_v3 dX10_bitsOf_49 ?_
            refine lv_dstore (lv' := [(4, .double v3), (2, .int x1), (6, .int l6_11)]) hx hb dX10_bitsOf_50 hl (by decide) rfl (fun ls hl => ?_)
            refine lv_iinc (v := (l6_11 + (-1 : Int32))) (lv' := [(6, .int (l6_11 + (-1 : Int32))), (4, .double v3), (2, .int x1)]) hx hb dX10_bitsOf_52 hl (k := 2) rfl rfl (by decide) rfl (fun ls hl => ?_)
            refine lv_goto (tgt := 37) hx hb dX10_bitsOf_55 (by decide) ?_
            exact ih _ _ hf _ _ _ (lv_sub hl [2, 1, 0] rfl) hP hD hS
      exact hL_9 _ _ _ h_r4 _ _ _ (lv_sub hl [0, 1, 2] rfl) hP hD hS
    have hL_12 : ∀ (N : Nat) (l4_13 : UInt64) (l6_14 : Int32), fM_bitsOf_L14 F N l4_13 l6_14 = some r2 → ∀ (H : Heap) (locs : List Loc) (ls : Array Slot), lv_has ls 14 [(2, .int x1), (4, .double l4_13), (6, .int l6_14)] → va_P (dC, dI) vwCl (wl_fM_bitsOf cI cZ cJ cQ) H → va_D A (wl_fM_bitsOf cI cZ cJ cQ) → va_S A s.heap H locs → W p l e ({ frames := 0, cells := 0, slots := 0, locals := 0 } : Room) s m [.double x0, .int x1, .int x2].toArray below meth c H locs 0 0 QQ (F0 m 14 ls []) := by
      intro N
      induction N with
      | zero => intro l4_13 l6_14 hf; exact nomatch (show none = some _ from hf)
      | succ N ih =>
        intro l4_13 l6_14 hf H locs ls hl hP hD hS
        rw [fM_bitsOf_L14] at hf
        refine lv_dload hx hb dX10_bitsOf_14 (lv_at hl 1 rfl) ?_
        refine lv_ldc2d hx hb hown (hts (.constantDouble RX10 240 (4611686018427387904)) (List.mem_cons_of_mem _ (List.mem_of_getElem? (i := 0) rfl))) dX10_bitsOf_16 ?_
        refine lv_dcmp hx hb dX10_bitsOf_19 ?_
        refine lv_if_lt (tgt := 37) hx hb dX10_bitsOf_20 (by decide) (fun cc => ?_) (fun cc => ?_)
        · replace hf := hf_pos cc hf
          obtain rfl := Option.some.inj hf
          exact hE_1 _ _ _ (lv_sub hl [0, 1, 2] rfl) hP hD hS
        · replace hf := hf_neg cc hf
          refine lv_dload hx hb dX10_bitsOf_23 (lv_at hl 1 rfl) ?_
          refine lv_ldc2d hx hb hown (hts (.constantDouble RX10 240 (4611686018427387904)) (List.mem_cons_of_mem _ (List.mem_of_getElem? (i := 0) rfl))) dX10_bitsOf_25 ?_
          obtain ⟨v1, h_v1, hf⟩ := hf_bind hf
          refine wh_ddiv hx hb h_v1 dX10_bitsOf_28 ?_
          refine lv_dstore (lv' := [(4, .double v1), (2, .int x1), (6, .int l6_14)]) hx hb dX10_bitsOf_29 hl (by decide) rfl (fun ls hl => ?_)
          refine lv_iinc (v := (l6_14 + (1 : Int32))) (lv' := [(6, .int (l6_14 + (1 : Int32))), (4, .double v1), (2, .int x1)]) hx hb dX10_bitsOf_31 hl (k := 2) rfl rfl (by decide) rfl (fun ls hl => ?_)
          refine lv_goto (tgt := 14) hx hb dX10_bitsOf_34 (by decide) ?_
          exact ih _ _ hf _ _ _ (lv_sub hl [2, 1, 0] rfl) hP hD hS
    exact hL_12 _ _ _ h_r2 _ _ _ (lv_sub hl [3, 1, 0] rfl) hP hD hS
  · replace hf := hf_neg (not_not_intro cc) hf
    refine lv_lconst (v := 0) hx hb dX10_bitsOf_6 (by decide) ?_
    obtain rfl := Option.some.inj hf
    exact hret _ _ _ _ hP hD hS dX10_bitsOf_7
set_option maxHeartbeats 4000000 in
set_option maxRecDepth 100000 in
theorem c_fM_mix (l : Launch) (dC : Nat → ClassId) (dI : Nat → Nat → Nat) (cI cZ cJ cQ : ClassId) (a_0 a_0s a_0before a_0slots a_0isKept a_0buffer a_0cells a_0owner a_0code a_0table a_0isOver a_0isRuled a_0all a_0some a_0chosen a_0last a_0corner a_0wide a_0cuts a_0aside : Nat) (known_0 : Int32) (length_0 : Int32) (thrown_0 : Int32) (many_0 : Int32) (round_0 : Int32) (seed_0 : Int64) (sz : Nat) {x1 : Int64} {hash_0 : Int64} {out : Int64} (hf : fM_mix x1 hash_0 = some out) : Met l yX10_mix wsX10_mix ({ frames := 0, cells := 0, slots := 0, locals := 0 } : Room) (va_Pc [.ref a_0, .long x1] (wlP (dC, dI) (wlT cI cZ cJ cQ) (wl_fM_mix cI cZ cJ cQ a_0 a_0s a_0before a_0slots a_0isKept a_0buffer a_0cells a_0owner a_0code a_0table a_0isOver a_0isRuled a_0all a_0some a_0chosen a_0last a_0corner a_0wide a_0cuts a_0aside known_0 length_0 thrown_0 many_0 round_0 seed_0 hash_0) sz)) (va_Qv (fun (_ : Unit) => True) (wlQ (dC, dI) (va_A (wl_fM_mix cI cZ cJ cQ a_0 a_0s a_0before a_0slots a_0isKept a_0buffer a_0cells a_0owner a_0code a_0table a_0isOver a_0isRuled a_0all a_0some a_0chosen a_0last a_0corner a_0wide a_0cuts a_0aside known_0 length_0 thrown_0 many_0 round_0 seed_0 hash_0) sz) (wl_fM_mix cI cZ cJ cQ a_0 a_0s a_0before a_0slots a_0isKept a_0buffer a_0cells a_0owner a_0code a_0table a_0isOver a_0isRuled a_0all a_0some a_0chosen a_0last a_0corner a_0wide a_0cuts a_0aside known_0 length_0 thrown_0 many_0 round_0 seed_0 out)) (va_A (wl_fM_mix cI cZ cJ cQ a_0 a_0s a_0before a_0slots a_0isKept a_0buffer a_0cells a_0owner a_0code a_0table a_0isOver a_0isRuled a_0all a_0some a_0chosen a_0last a_0corner a_0wide a_0cuts a_0aside known_0 length_0 thrown_0 many_0 round_0 seed_0 hash_0) sz)) 0 0 (va_A (wl_fM_mix cI cZ cJ cQ a_0 a_0s a_0before a_0slots a_0isKept a_0buffer a_0cells a_0owner a_0code a_0table a_0isOver a_0isRuled a_0all a_0some a_0chosen a_0last a_0corner a_0wide a_0cuts a_0aside known_0 length_0 thrown_0 many_0 round_0 seed_0 hash_0) sz) := by
  refine wh_ofWv (lv := [(0, .ref a_0), (1, .long x1)]) RX10 (by decide) rfl rfl (Nat.le_of_ble_eq_true rfl) rfl ?_
  intro p e s m below meth c A QQ hx hb hml hown hts hP hK hN hD hA hret ls hl
  have hS : va_S A s.heap s.heap [] := va_S.rf
  have hiX10 : ∀ w ∈ wsX100, w ∈ wsX10_mix := (fun _ h => List.mem_cons_of_mem _ (List.mem_append_right _ (h)))
  unfold fM_mix at hf
  refine lv_aload_n hx hb dX10_mix_0 rfl (lv_at hl 0 rfl) ?_
  refine lv_ldc2 hx hb hown (hts (.constantLong RX10 244 (31)) (List.mem_cons_of_mem _ (List.mem_append_left _ (List.mem_of_getElem? (i := 0) rfl)))) dX10_mix_1 ?_
  refine lv_aload_n hx hb dX10_mix_4 rfl (lv_at hl 0 rfl) ?_
  refine va_get (D := (dC, dI)) (ci := 10) (C := RX10) (T := TX10) (N := 26) hx hb hts hiX10 hown hK hP 0 rfl rfl 25 (by decide) (hts (.fieldLink RX10 246 "PaddockFieldsModel" "hash" "J") (List.mem_cons_of_mem _ (List.mem_append_left _ (List.mem_of_getElem? (i := 1) rfl)))) (fun _ h9 => h9) rfl dX10_mix_5 ?_
  refine lv_lmul hx hb dX10_mix_8 ?_
  refine lv_lload_n hx hb dX10_mix_9 rfl (lv_at hl 1 rfl) ?_
  refine lv_ladd hx hb dX10_mix_10 ?_
  refine wh_put (D := (dC, dI)) (ci := 10) (C := RX10) (T := TX10) (N := 26) (ty := .long) (v := .long (((31 : Int64) * hash_0) + x1)) (ws' := (wl_fM_mix cI cZ cJ cQ a_0 a_0s a_0before a_0slots a_0isKept a_0buffer a_0cells a_0owner a_0code a_0table a_0isOver a_0isRuled a_0all a_0some a_0chosen a_0last a_0corner a_0wide a_0cuts a_0aside known_0 length_0 thrown_0 many_0 round_0 seed_0 (((31 : Int64) * hash_0) + x1))) hx hb hts hiX10 tyX10 tyX10_ok nmX10 hown hK hP hD hS 0 rfl rfl 25 (by decide) (hts (.fieldLink RX10 246 "PaddockFieldsModel" "hash" "J") (List.mem_cons_of_mem _ (List.mem_append_left _ (List.mem_of_getElem? (i := 1) rfl)))) (fun _ h9 => h9) rfl rfl rfl rfl (Nat.le_of_ble_eq_true rfl) rfl dX10_mix_11 (fun H locs hP hD hS => ?_)
  obtain rfl := Option.some.inj hf
  exact hret _ _ _ _ hP hD hS dX10_mix_14
set_option maxHeartbeats 4000000 in
set_option maxRecDepth 100000 in
theorem c_fM_digest (l : Launch) (dC : Nat → ClassId) (dI : Nat → Nat → Nat) (cI cZ cJ cQ : ClassId) (a_0 a_0table a_0s a_0cells a_0owner a_0code a_0isOver a_0all a_0some a_0isRuled a_0last a_0chosen a_0corner a_0wide a_0isKept a_0buffer a_0before a_0slots a_0cuts a_0aside : Nat) (seed_0 : Int64) (sz : Nat) {F : Nat} {thrown_0 : Int32} {hash_0 : Int64} {many_0 : Int32} {table_0 : Nat → Int32} {s_0 : Nat → Int32} {cells_0 : Nat → Int64} {owner_0 : Nat → Int32} {code_0 : Nat → Int32} {isOver_0 : Nat → Int32} {round_0 : Int32} {all_0 : Nat → Int64} {some_0 : Nat → Int64} {isRuled_0 : Nat → Int32} {last_0 : Nat → Int32} {chosen_0 : Nat → Int32} {corner_0 : Nat → Int32} {wide_0 : Nat → Int32} {known_0 : Int32} {isKept_0 : Nat → Int32} {length_0 : Int32} {buffer_0 : Nat → Int32} {out : Int64 × Int32 × Int64 × Int32 × (Nat → Int32) × (Nat → Int64) × (Nat → Int32) × (Nat → Int32) × (Nat → Int32) × Int32 × (Nat → Int64) × (Nat → Int64) × (Nat → Int32) × (Nat → Int32) × (Nat → Int32) × (Nat → Int32) × (Nat → Int32)} (hf : fM_digest F thrown_0 hash_0 many_0 table_0 s_0 cells_0 owner_0 code_0 isOver_0 round_0 all_0 some_0 isRuled_0 last_0 chosen_0 corner_0 wide_0 known_0 isKept_0 length_0 buffer_0 = some out) : Met l yX10_digest wsX10_digest ({ frames := 4, cells := 0, slots := 0, locals := 115 } : Room) (va_Pc [.ref a_0] (wlP (dC, dI) (wlT cI cZ cJ cQ) (wl_fM_digest cI cZ cJ cQ a_0 a_0table a_0s a_0cells a_0owner a_0code a_0isOver a_0all a_0some a_0isRuled a_0last a_0chosen a_0corner a_0wide a_0isKept a_0buffer a_0before a_0slots a_0cuts a_0aside known_0 length_0 thrown_0 many_0 round_0 seed_0 hash_0 table_0 s_0 cells_0 owner_0 code_0 isOver_0 all_0 some_0 isRuled_0 last_0 chosen_0 corner_0 wide_0 isKept_0 buffer_0) sz)) (va_Ql (fun (v : Int64) (_ : Unit) => v = out.1) (wlQ (dC, dI) (va_A (wl_fM_digest cI cZ cJ cQ a_0 a_0table a_0s a_0cells a_0owner a_0code a_0isOver a_0all a_0some a_0isRuled a_0last a_0chosen a_0corner a_0wide a_0isKept a_0buffer a_0before a_0slots a_0cuts a_0aside known_0 length_0 thrown_0 many_0 round_0 seed_0 hash_0 table_0 s_0 cells_0 owner_0 code_0 isOver_0 all_0 some_0 isRuled_0 last_0 chosen_0 corner_0 wide_0 isKept_0 buffer_0) sz) (wl_fM_digest cI cZ cJ cQ a_0 a_0table a_0s a_0cells a_0owner a_0code a_0isOver a_0all a_0some a_0isRuled a_0last a_0chosen a_0corner a_0wide a_0isKept a_0buffer a_0before a_0slots a_0cuts a_0aside known_0 length_0 out.2.1 out.2.2.2.1 out.2.2.2.2.2.2.2.2.2.1 seed_0 out.2.2.1 out.2.2.2.2.1 s_0 out.2.2.2.2.2.1 out.2.2.2.2.2.2.1 out.2.2.2.2.2.2.2.1 out.2.2.2.2.2.2.2.2.1 out.2.2.2.2.2.2.2.2.2.2.1 out.2.2.2.2.2.2.2.2.2.2.2.1 out.2.2.2.2.2.2.2.2.2.2.2.2.1 out.2.2.2.2.2.2.2.2.2.2.2.2.2.1 out.2.2.2.2.2.2.2.2.2.2.2.2.2.2.1 out.2.2.2.2.2.2.2.2.2.2.2.2.2.2.2.1 out.2.2.2.2.2.2.2.2.2.2.2.2.2.2.2.2 isKept_0 buffer_0)) (va_A (wl_fM_digest cI cZ cJ cQ a_0 a_0table a_0s a_0cells a_0owner a_0code a_0isOver a_0all a_0some a_0isRuled a_0last a_0chosen a_0corner a_0wide a_0isKept a_0buffer a_0before a_0slots a_0cuts a_0aside known_0 length_0 thrown_0 many_0 round_0 seed_0 hash_0 table_0 s_0 cells_0 owner_0 code_0 isOver_0 all_0 some_0 isRuled_0 last_0 chosen_0 corner_0 wide_0 isKept_0 buffer_0) sz)) 0 0 (va_A (wl_fM_digest cI cZ cJ cQ a_0 a_0table a_0s a_0cells a_0owner a_0code a_0isOver a_0all a_0some a_0isRuled a_0last a_0chosen a_0corner a_0wide a_0isKept a_0buffer a_0before a_0slots a_0cuts a_0aside known_0 length_0 thrown_0 many_0 round_0 seed_0 hash_0 table_0 s_0 cells_0 owner_0 code_0 isOver_0 all_0 some_0 isRuled_0 last_0 chosen_0 corner_0 wide_0 isKept_0 buffer_0) sz) := by
  refine wh_ofWl (lv := [(0, .ref a_0)]) RX10 (by decide) rfl rfl (Nat.le_of_ble_eq_true rfl) rfl ?_
  intro p e s m below meth c A QQ hx hb hml hown hts hP hK hN hD hA hret ls hl
  have hS : va_S A s.heap s.heap [] := va_S.rf
  have hiX10 : ∀ w ∈ wsX100, w ∈ wsX10_digest := (fun _ h => List.mem_cons_of_mem _ (List.mem_append_right _ (h)))
  unfold fM_digest at hf
  refine lv_aload_n hx hb dX10_digest_0 rfl (lv_at hl 0 rfl) ?_
  refine lv_iconst (v := 0) hx hb dX10_digest_1 (by decide) ?_
  refine wh_put (D := (dC, dI)) (ci := 10) (C := RX10) (T := TX10) (N := 26) (ty := .int) (v := .int (0 : Int32)) (ws' := (wl_fM_digest cI cZ cJ cQ a_0 a_0table a_0s a_0cells a_0owner a_0code a_0isOver a_0all a_0some a_0isRuled a_0last a_0chosen a_0corner a_0wide a_0isKept a_0buffer a_0before a_0slots a_0cuts a_0aside known_0 length_0 (0 : Int32) many_0 round_0 seed_0 hash_0 table_0 s_0 cells_0 owner_0 code_0 isOver_0 all_0 some_0 isRuled_0 last_0 chosen_0 corner_0 wide_0 isKept_0 buffer_0)) hx hb hts hiX10 tyX10 tyX10_ok nmX10 hown hK hP hD hS 0 rfl rfl 7 (by decide) (hts (.fieldLink RX10 69 "PaddockFieldsModel" "thrown" "I") (List.mem_cons_of_mem _ (List.mem_append_left _ (List.mem_append_left _ (List.mem_of_getElem? (i := 0) rfl))))) (fun _ h9 => h9) rfl rfl rfl rfl (Nat.le_of_ble_eq_true rfl) rfl dX10_digest_2 (fun H locs hP hD hS => ?_)
  refine lv_aload_n hx hb dX10_digest_5 rfl (lv_at hl 0 rfl) ?_
  refine lv_ldc2 hx hb hown (hts (.constantLong RX10 249 (4421)) (List.mem_cons_of_mem _ (List.mem_append_left _ (List.mem_append_left _ (List.mem_of_getElem? (i := 1) rfl))))) dX10_digest_6 ?_
  refine wh_put (D := (dC, dI)) (ci := 10) (C := RX10) (T := TX10) (N := 26) (ty := .long) (v := .long (4421 : Int64)) (ws' := (wl_fM_digest cI cZ cJ cQ a_0 a_0table a_0s a_0cells a_0owner a_0code a_0isOver a_0all a_0some a_0isRuled a_0last a_0chosen a_0corner a_0wide a_0isKept a_0buffer a_0before a_0slots a_0cuts a_0aside known_0 length_0 (0 : Int32) many_0 round_0 seed_0 (4421 : Int64) table_0 s_0 cells_0 owner_0 code_0 isOver_0 all_0 some_0 isRuled_0 last_0 chosen_0 corner_0 wide_0 isKept_0 buffer_0)) hx hb hts hiX10 tyX10 tyX10_ok nmX10 hown hK hP hD hS 0 rfl rfl 25 (by decide) (hts (.fieldLink RX10 246 "PaddockFieldsModel" "hash" "J") (List.mem_cons_of_mem _ (List.mem_append_left _ (List.mem_append_left _ (List.mem_of_getElem? (i := 2) rfl))))) (fun _ h9 => h9) rfl rfl rfl rfl (Nat.le_of_ble_eq_true rfl) rfl dX10_digest_9 (fun H locs hP hD hS => ?_)
  refine lv_aload_n hx hb dX10_digest_12 rfl (lv_at hl 0 rfl) ?_
  obtain ⟨s1, h_s1, hf⟩ := hf_bind hf
  refine wh_callv (D := (dC, dI)) (ws' := (wl_fM_digest cI cZ cJ cQ a_0 a_0table a_0s a_0cells a_0owner a_0code a_0isOver a_0all a_0some a_0isRuled a_0last a_0chosen a_0corner a_0wide a_0isKept a_0buffer a_0before a_0slots a_0cuts a_0aside known_0 length_0 (0 : Int32) s1.1 s1.2.2.2.2.2.2.1 seed_0 (4421 : Int64) s1.2.1 s_0 s1.2.2.1 s1.2.2.2.1 s1.2.2.2.2.1 s1.2.2.2.2.2.1 s1.2.2.2.2.2.2.2.1 s1.2.2.2.2.2.2.2.2.1 s1.2.2.2.2.2.2.2.2.2 last_0 chosen_0 corner_0 wide_0 isKept_0 buffer_0)) (va_runV (As := []) (rest := []) ⟨hx, hb, hml, hown, hts⟩ (c_fM_rules l dC dI cI cZ cJ cQ a_0 a_0table a_0s a_0cells a_0owner a_0code a_0isOver a_0all a_0some a_0isRuled a_0before a_0slots a_0isKept a_0buffer a_0chosen a_0last a_0corner a_0wide a_0cuts a_0aside known_0 length_0 (0 : Int32) seed_0 (4421 : Int64) _ h_s1) (cwV 0 hts gX10_digest_X10_rules rfl rfl rfl (by decide +kernel) ⟨Nat.le_of_ble_eq_true rfl, Nat.le_of_ble_eq_true rfl⟩) (wh_preV (C := RX10) (T := TX10) (N := 26) hK hN hP hD [0, 1, 2, 3, 4, 5, 6, 7, 8, 9] rfl rfl 10 0 rfl rfl) rfl rfl hl.1 rfl (lv_room (Nat.le_of_ble_eq_true rfl)) dX10_digest_13 ⟨Nat.le_refl _, Nat.le_refl _⟩) hP hD hS hA [0, 1, 2, 3, 4, 5, 6, 7, 8, 9] [10, 11, 12, 13, 14, 15] [6, 7, 8, 9, 10, 11, 12, 13, 14, 15, 0, 1, 2, 3, 4, 5] rfl rfl rfl rfl (fun H locs hP hD hS => ?_)
  refine lv_iconst (v := 0) hx hb dX10_digest_16 (by decide) ?_
  refine lv_istore_n (lv' := [(1, .int (0 : Int32)), (0, .ref a_0)]) hx hb dX10_digest_17 rfl hl (by decide) rfl (fun ls hl => ?_)
  obtain ⟨r24, h_r24, hf⟩ := hf_bind hf
  have hE_1 : ∀ (H : Heap) (locs : List Loc) (ls : Array Slot), lv_has ls 4 [(0, .ref a_0)] → va_P (dC, dI) vwCl (wl_fM_digest cI cZ cJ cQ a_0 a_0table a_0s a_0cells a_0owner a_0code a_0isOver a_0all a_0some a_0isRuled a_0last a_0chosen a_0corner a_0wide a_0isKept a_0buffer a_0before a_0slots a_0cuts a_0aside known_0 length_0 (0 : Int32) s1.1 s1.2.2.2.2.2.2.1 seed_0 r24.2 s1.2.1 s_0 s1.2.2.1 s1.2.2.2.1 s1.2.2.2.2.1 s1.2.2.2.2.2.1 s1.2.2.2.2.2.2.2.1 s1.2.2.2.2.2.2.2.2.1 s1.2.2.2.2.2.2.2.2.2 last_0 chosen_0 corner_0 wide_0 isKept_0 buffer_0) H → va_D A (wl_fM_digest cI cZ cJ cQ a_0 a_0table a_0s a_0cells a_0owner a_0code a_0isOver a_0all a_0some a_0isRuled a_0last a_0chosen a_0corner a_0wide a_0isKept a_0buffer a_0before a_0slots a_0cuts a_0aside known_0 length_0 (0 : Int32) s1.1 s1.2.2.2.2.2.2.1 seed_0 r24.2 s1.2.1 s_0 s1.2.2.1 s1.2.2.2.1 s1.2.2.2.2.1 s1.2.2.2.2.2.1 s1.2.2.2.2.2.2.2.1 s1.2.2.2.2.2.2.2.2.1 s1.2.2.2.2.2.2.2.2.2 last_0 chosen_0 corner_0 wide_0 isKept_0 buffer_0) → va_S A s.heap H locs → W p l e ({ frames := 4, cells := 0, slots := 0, locals := 115 } : Room) s m [.ref a_0].toArray below meth c H locs 0 0 QQ (F0 m 163 ls []) := by
    intro H locs ls hl hP hD hS
    refine lv_aload_n hx hb dX10_digest_163 rfl (lv_at hl 0 rfl) ?_
    refine lv_aload_n hx hb dX10_digest_164 rfl (lv_at hl 0 rfl) ?_
    obtain ⟨s25, h_s25, hf⟩ := hf_bind hf
    refine wh_calll (D := (dC, dI)) (ws' := (wl_fM_digest cI cZ cJ cQ a_0 a_0table a_0s a_0cells a_0owner a_0code a_0isOver a_0all a_0some a_0isRuled a_0last a_0chosen a_0corner a_0wide a_0isKept a_0buffer a_0before a_0slots a_0cuts a_0aside known_0 length_0 (0 : Int32) s1.1 s1.2.2.2.2.2.2.1 seed_0 r24.2 s1.2.1 s_0 s1.2.2.1 s1.2.2.2.1 s1.2.2.2.2.1 s1.2.2.2.2.2.1 s1.2.2.2.2.2.2.2.1 s1.2.2.2.2.2.2.2.2.1 s1.2.2.2.2.2.2.2.2.2 last_0 chosen_0 corner_0 wide_0 isKept_0 buffer_0)) (va_runV (As := []) (rest := [.ref a_0]) ⟨hx, hb, hml, hown, hts⟩ (c_fM_numbered l dC dI cI cZ cJ cQ a_0 a_0s a_0before a_0slots a_0isKept a_0buffer a_0cells a_0owner a_0code a_0table a_0isOver a_0isRuled a_0all a_0some a_0chosen a_0last a_0corner a_0wide a_0cuts a_0aside known_0 length_0 (0 : Int32) s1.1 s1.2.2.2.2.2.2.1 seed_0 r24.2 _ h_s25) (cwV 0 hts gX10_digest_X10_numbered rfl rfl rfl (by decide +kernel) ⟨Nat.le_of_ble_eq_true rfl, Nat.le_of_ble_eq_true rfl⟩) (wh_preV (C := RX10) (T := TX10) (N := 26) hK hN hP hD [0, 2] rfl rfl 10 0 rfl rfl) rfl rfl hl.1 rfl (lv_room (Nat.le_of_ble_eq_true rfl)) dX10_digest_165 ⟨Nat.le_refl _, Nat.le_refl _⟩) hP hD hS hA [0, 2] [1, 3, 4, 5, 6, 7, 8, 9, 10, 11, 12, 13, 14, 15] [14, 0, 15, 1, 2, 3, 4, 5, 6, 7, 8, 9, 10, 11, 12, 13] rfl rfl rfl rfl (fun H locs hP hD hS => ?_)
    obtain ⟨s26, h_s26, hf⟩ := hf_bind hf
    refine wh_calli (D := (dC, dI)) (ws' := (wl_fM_digest cI cZ cJ cQ a_0 a_0table a_0s a_0cells a_0owner a_0code a_0isOver a_0all a_0some a_0isRuled a_0last a_0chosen a_0corner a_0wide a_0isKept a_0buffer a_0before a_0slots a_0cuts a_0aside known_0 length_0 (0 : Int32) s1.1 s1.2.2.2.2.2.2.1 seed_0 r24.2 s1.2.1 s_0 s1.2.2.1 s1.2.2.2.1 s1.2.2.2.2.1 s1.2.2.2.2.2.1 s1.2.2.2.2.2.2.2.1 s1.2.2.2.2.2.2.2.2.1 s1.2.2.2.2.2.2.2.2.2 last_0 chosen_0 corner_0 wide_0 isKept_0 buffer_0)) (va_runS (As := [.long s25]) (rest := [.ref a_0]) ⟨hx, hb, hml, hown, hts⟩ (c_fM_bits l dC dI cI cZ cJ cQ _ h_s26) (va_cwS 1 hts gX10_digest_X10_bits rfl rfl rfl (by decide +kernel) ⟨Nat.le_of_ble_eq_true rfl, Nat.le_of_ble_eq_true rfl⟩) (wh_preS hK hN hP hD [] rfl rfl) rfl rfl hl.1 rfl (lv_room (Nat.le_of_ble_eq_true rfl)) dX10_digest_168 ⟨Nat.le_refl _, Nat.le_refl _⟩) hP hD hS hA [] [0, 1, 2, 3, 4, 5, 6, 7, 8, 9, 10, 11, 12, 13, 14, 15] [0, 1, 2, 3, 4, 5, 6, 7, 8, 9, 10, 11, 12, 13, 14, 15] rfl rfl rfl rfl (fun H locs hP hD hS => ?_)
    refine lv_i2l hx hb dX10_digest_171 rfl ?_
    obtain ⟨s27, h_s27, hf⟩ := hf_bind hf
    refine wh_callv (D := (dC, dI)) (ws' := (wl_fM_digest cI cZ cJ cQ a_0 a_0table a_0s a_0cells a_0owner a_0code a_0isOver a_0all a_0some a_0isRuled a_0last a_0chosen a_0corner a_0wide a_0isKept a_0buffer a_0before a_0slots a_0cuts a_0aside known_0 length_0 (0 : Int32) s1.1 s1.2.2.2.2.2.2.1 seed_0 s27 s1.2.1 s_0 s1.2.2.1 s1.2.2.2.1 s1.2.2.2.2.1 s1.2.2.2.2.2.1 s1.2.2.2.2.2.2.2.1 s1.2.2.2.2.2.2.2.2.1 s1.2.2.2.2.2.2.2.2.2 last_0 chosen_0 corner_0 wide_0 isKept_0 buffer_0)) (va_runV (As := [.long s26.toInt64]) (rest := []) ⟨hx, hb, hml, hown, hts⟩ (c_fM_mix l dC dI cI cZ cJ cQ a_0 a_0s a_0before a_0slots a_0isKept a_0buffer a_0cells a_0owner a_0code a_0table a_0isOver a_0isRuled a_0all a_0some a_0chosen a_0last a_0corner a_0wide a_0cuts a_0aside known_0 length_0 (0 : Int32) s1.1 s1.2.2.2.2.2.2.1 seed_0 _ h_s27) (cwV 1 hts gX10_digest_X10_mix rfl rfl rfl (by decide +kernel) ⟨Nat.le_of_ble_eq_true rfl, Nat.le_of_ble_eq_true rfl⟩) (wh_preV (C := RX10) (T := TX10) (N := 26) hK hN hP hD [0] rfl rfl 10 0 rfl rfl) rfl rfl hl.1 rfl (lv_room (Nat.le_of_ble_eq_true rfl)) dX10_digest_172 ⟨Nat.le_refl _, Nat.le_refl _⟩) hP hD hS hA [0] [1, 2, 3, 4, 5, 6, 7, 8, 9, 10, 11, 12, 13, 14, 15] [15, 0, 1, 2, 3, 4, 5, 6, 7, 8, 9, 10, 11, 12, 13, 14] rfl rfl rfl rfl (fun H locs hP hD hS => ?_)
    refine lv_aload_n hx hb dX10_digest_175 rfl (lv_at hl 0 rfl) ?_
    refine lv_aload_n hx hb dX10_digest_176 rfl (lv_at hl 0 rfl) ?_
    obtain ⟨s28, h_s28, hf⟩ := hf_bind hf
    refine wh_calli (D := (dC, dI)) (ws' := (wl_fM_digest cI cZ cJ cQ a_0 a_0table a_0s a_0cells a_0owner a_0code a_0isOver a_0all a_0some a_0isRuled a_0last a_0chosen a_0corner a_0wide a_0isKept a_0buffer a_0before a_0slots a_0cuts a_0aside known_0 length_0 (0 : Int32) s1.1 s1.2.2.2.2.2.2.1 seed_0 s27 s1.2.1 s_0 s1.2.2.1 s1.2.2.2.1 s1.2.2.2.2.1 s1.2.2.2.2.2.1 s1.2.2.2.2.2.2.2.1 s1.2.2.2.2.2.2.2.2.1 s1.2.2.2.2.2.2.2.2.2 last_0 chosen_0 corner_0 wide_0 isKept_0 buffer_0)) (va_runV (As := []) (rest := [.ref a_0]) ⟨hx, hb, hml, hown, hts⟩ (c_fM_total l dC dI cI cZ cJ cQ a_0 a_0s a_0before a_0slots a_0isKept a_0buffer a_0cells a_0owner a_0code a_0table a_0isOver a_0isRuled a_0all a_0some a_0chosen a_0last a_0corner a_0wide a_0cuts a_0aside known_0 length_0 (0 : Int32) s1.1 s1.2.2.2.2.2.2.1 seed_0 s27 _ h_s28) (cwV 0 hts gX10_digest_X10_total rfl rfl rfl (by decide +kernel) ⟨Nat.le_of_ble_eq_true rfl, Nat.le_of_ble_eq_true rfl⟩) (wh_preV (C := RX10) (T := TX10) (N := 26) hK hN hP hD [0, 2] rfl rfl 10 0 rfl rfl) rfl rfl hl.1 rfl (lv_room (Nat.le_of_ble_eq_true rfl)) dX10_digest_177 ⟨Nat.le_refl _, Nat.le_refl _⟩) hP hD hS hA [0, 2] [1, 3, 4, 5, 6, 7, 8, 9, 10, 11, 12, 13, 14, 15] [14, 0, 15, 1, 2, 3, 4, 5, 6, 7, 8, 9, 10, 11, 12, 13] rfl rfl rfl rfl (fun H locs hP hD hS => ?_)
    refine lv_i2l hx hb dX10_digest_180 rfl ?_
    obtain ⟨s29, h_s29, hf⟩ := hf_bind hf
    refine wh_callv (D := (dC, dI)) (ws' := (wl_fM_digest cI cZ cJ cQ a_0 a_0table a_0s a_0cells a_0owner a_0code a_0isOver a_0all a_0some a_0isRuled a_0last a_0chosen a_0corner a_0wide a_0isKept a_0buffer a_0before a_0slots a_0cuts a_0aside known_0 length_0 (0 : Int32) s1.1 s1.2.2.2.2.2.2.1 seed_0 s29 s1.2.1 s_0 s1.2.2.1 s1.2.2.2.1 s1.2.2.2.2.1 s1.2.2.2.2.2.1 s1.2.2.2.2.2.2.2.1 s1.2.2.2.2.2.2.2.2.1 s1.2.2.2.2.2.2.2.2.2 last_0 chosen_0 corner_0 wide_0 isKept_0 buffer_0)) (va_runV (As := [.long s28.toInt64]) (rest := []) ⟨hx, hb, hml, hown, hts⟩ (c_fM_mix l dC dI cI cZ cJ cQ a_0 a_0s a_0before a_0slots a_0isKept a_0buffer a_0cells a_0owner a_0code a_0table a_0isOver a_0isRuled a_0all a_0some a_0chosen a_0last a_0corner a_0wide a_0cuts a_0aside known_0 length_0 (0 : Int32) s1.1 s1.2.2.2.2.2.2.1 seed_0 _ h_s29) (cwV 1 hts gX10_digest_X10_mix rfl rfl rfl (by decide +kernel) ⟨Nat.le_of_ble_eq_true rfl, Nat.le_of_ble_eq_true rfl⟩) (wh_preV (C := RX10) (T := TX10) (N := 26) hK hN hP hD [0] rfl rfl 10 0 rfl rfl) rfl rfl hl.1 rfl (lv_room (Nat.le_of_ble_eq_true rfl)) dX10_digest_181 ⟨Nat.le_refl _, Nat.le_refl _⟩) hP hD hS hA [0] [1, 2, 3, 4, 5, 6, 7, 8, 9, 10, 11, 12, 13, 14, 15] [15, 0, 1, 2, 3, 4, 5, 6, 7, 8, 9, 10, 11, 12, 13, 14] rfl rfl rfl rfl (fun H locs hP hD hS => ?_)
    refine lv_aload_n hx hb dX10_digest_184 rfl (lv_at hl 0 rfl) ?_
    refine lv_aload_n hx hb dX10_digest_185 rfl (lv_at hl 0 rfl) ?_
    obtain ⟨s30, h_s30, hf⟩ := hf_bind hf
    refine wh_calli (D := (dC, dI)) (ws' := (wl_fM_digest cI cZ cJ cQ a_0 a_0table a_0s a_0cells a_0owner a_0code a_0isOver a_0all a_0some a_0isRuled a_0last a_0chosen a_0corner a_0wide a_0isKept a_0buffer a_0before a_0slots a_0cuts a_0aside known_0 length_0 (0 : Int32) s1.1 s1.2.2.2.2.2.2.1 seed_0 s29 s1.2.1 s_0 s1.2.2.1 s1.2.2.2.1 s1.2.2.2.2.1 s1.2.2.2.2.2.1 s1.2.2.2.2.2.2.2.1 s1.2.2.2.2.2.2.2.2.1 s1.2.2.2.2.2.2.2.2.2 last_0 chosen_0 corner_0 wide_0 isKept_0 buffer_0)) (va_runV (As := []) (rest := [.ref a_0]) ⟨hx, hb, hml, hown, hts⟩ (c_fM_allFields l dC dI cI cZ cJ cQ a_0 a_0s a_0before a_0slots a_0isKept a_0buffer a_0cells a_0owner a_0code a_0table a_0isOver a_0isRuled a_0all a_0some a_0chosen a_0last a_0corner a_0wide a_0cuts a_0aside known_0 length_0 (0 : Int32) s1.1 s1.2.2.2.2.2.2.1 seed_0 s29 _ h_s30) (cwV 0 hts gX10_digest_X10_allFields rfl rfl rfl (by decide +kernel) ⟨Nat.le_of_ble_eq_true rfl, Nat.le_of_ble_eq_true rfl⟩) (wh_preV (C := RX10) (T := TX10) (N := 26) hK hN hP hD [0, 2] rfl rfl 10 0 rfl rfl) rfl rfl hl.1 rfl (lv_room (Nat.le_of_ble_eq_true rfl)) dX10_digest_186 ⟨Nat.le_refl _, Nat.le_refl _⟩) hP hD hS hA [0, 2] [1, 3, 4, 5, 6, 7, 8, 9, 10, 11, 12, 13, 14, 15] [14, 0, 15, 1, 2, 3, 4, 5, 6, 7, 8, 9, 10, 11, 12, 13] rfl rfl rfl rfl (fun H locs hP hD hS => ?_)
    refine lv_i2l hx hb dX10_digest_189 rfl ?_
    obtain ⟨s31, h_s31, hf⟩ := hf_bind hf
    refine wh_callv (D := (dC, dI)) (ws' := (wl_fM_digest cI cZ cJ cQ a_0 a_0table a_0s a_0cells a_0owner a_0code a_0isOver a_0all a_0some a_0isRuled a_0last a_0chosen a_0corner a_0wide a_0isKept a_0buffer a_0before a_0slots a_0cuts a_0aside known_0 length_0 (0 : Int32) s1.1 s1.2.2.2.2.2.2.1 seed_0 s31 s1.2.1 s_0 s1.2.2.1 s1.2.2.2.1 s1.2.2.2.2.1 s1.2.2.2.2.2.1 s1.2.2.2.2.2.2.2.1 s1.2.2.2.2.2.2.2.2.1 s1.2.2.2.2.2.2.2.2.2 last_0 chosen_0 corner_0 wide_0 isKept_0 buffer_0)) (va_runV (As := [.long s30.toInt64]) (rest := []) ⟨hx, hb, hml, hown, hts⟩ (c_fM_mix l dC dI cI cZ cJ cQ a_0 a_0s a_0before a_0slots a_0isKept a_0buffer a_0cells a_0owner a_0code a_0table a_0isOver a_0isRuled a_0all a_0some a_0chosen a_0last a_0corner a_0wide a_0cuts a_0aside known_0 length_0 (0 : Int32) s1.1 s1.2.2.2.2.2.2.1 seed_0 _ h_s31) (cwV 1 hts gX10_digest_X10_mix rfl rfl rfl (by decide +kernel) ⟨Nat.le_of_ble_eq_true rfl, Nat.le_of_ble_eq_true rfl⟩) (wh_preV (C := RX10) (T := TX10) (N := 26) hK hN hP hD [0] rfl rfl 10 0 rfl rfl) rfl rfl hl.1 rfl (lv_room (Nat.le_of_ble_eq_true rfl)) dX10_digest_190 ⟨Nat.le_refl _, Nat.le_refl _⟩) hP hD hS hA [0] [1, 2, 3, 4, 5, 6, 7, 8, 9, 10, 11, 12, 13, 14, 15] [15, 0, 1, 2, 3, 4, 5, 6, 7, 8, 9, 10, 11, 12, 13, 14] rfl rfl rfl rfl (fun H locs hP hD hS => ?_)
    refine lv_aload_n hx hb dX10_digest_193 rfl (lv_at hl 0 rfl) ?_
    refine lv_bipush (v := 42) hx hb dX10_digest_194 (by decide) ?_
    refine lv_aload_n hx hb dX10_digest_196 rfl (lv_at hl 0 rfl) ?_
    obtain ⟨s32, h_s32, hf⟩ := hf_bind hf
    refine wh_calll (D := (dC, dI)) (ws' := (wl_fM_digest cI cZ cJ cQ a_0 a_0table a_0s a_0cells a_0owner a_0code a_0isOver a_0all a_0some a_0isRuled a_0last a_0chosen a_0corner a_0wide a_0isKept a_0buffer a_0before a_0slots a_0cuts a_0aside known_0 length_0 (0 : Int32) s1.1 s1.2.2.2.2.2.2.1 seed_0 s31 s1.2.1 s_0 s1.2.2.1 s1.2.2.2.1 s1.2.2.2.2.1 s1.2.2.2.2.2.1 s1.2.2.2.2.2.2.2.1 s1.2.2.2.2.2.2.2.2.1 s1.2.2.2.2.2.2.2.2.2 last_0 chosen_0 corner_0 wide_0 isKept_0 buffer_0)) (va_runV (As := []) (rest := [.int (42 : Int32), .ref a_0]) ⟨hx, hb, hml, hown, hts⟩ (c_fM_taken l dC dI cI cZ cJ cQ a_0 a_0s a_0before a_0slots a_0isKept a_0buffer a_0cells a_0owner a_0code a_0table a_0isOver a_0isRuled a_0all a_0some a_0chosen a_0last a_0corner a_0wide a_0cuts a_0aside known_0 length_0 (0 : Int32) s1.1 s1.2.2.2.2.2.2.1 seed_0 s31 _ h_s32) (cwV 0 hts gX10_digest_X10_taken rfl rfl rfl (by decide +kernel) ⟨Nat.le_of_ble_eq_true rfl, Nat.le_of_ble_eq_true rfl⟩) (wh_preV (C := RX10) (T := TX10) (N := 26) hK hN hP hD [0, 2] rfl rfl 10 0 rfl rfl) rfl rfl hl.1 rfl (lv_room (Nat.le_of_ble_eq_true rfl)) dX10_digest_197 ⟨Nat.le_refl _, Nat.le_refl _⟩) hP hD hS hA [0, 2] [1, 3, 4, 5, 6, 7, 8, 9, 10, 11, 12, 13, 14, 15] [14, 0, 15, 1, 2, 3, 4, 5, 6, 7, 8, 9, 10, 11, 12, 13] rfl rfl rfl rfl (fun H locs hP hD hS => ?_)
    obtain ⟨s33, h_s33, hf⟩ := hf_bind hf
    refine wh_calli (D := (dC, dI)) (ws' := (wl_fM_digest cI cZ cJ cQ a_0 a_0table a_0s a_0cells a_0owner a_0code a_0isOver a_0all a_0some a_0isRuled a_0last a_0chosen a_0corner a_0wide a_0isKept a_0buffer a_0before a_0slots a_0cuts a_0aside known_0 length_0 (0 : Int32) s1.1 s1.2.2.2.2.2.2.1 seed_0 s31 s1.2.1 s_0 s1.2.2.1 s1.2.2.2.1 s1.2.2.2.2.1 s1.2.2.2.2.2.1 s1.2.2.2.2.2.2.2.1 s1.2.2.2.2.2.2.2.2.1 s1.2.2.2.2.2.2.2.2.2 last_0 chosen_0 corner_0 wide_0 isKept_0 buffer_0)) (va_runS (As := [.long s32]) (rest := [.int (42 : Int32), .ref a_0]) ⟨hx, hb, hml, hown, hts⟩ (c_fM_bits l dC dI cI cZ cJ cQ _ h_s33) (va_cwS 1 hts gX10_digest_X10_bits rfl rfl rfl (by decide +kernel) ⟨Nat.le_of_ble_eq_true rfl, Nat.le_of_ble_eq_true rfl⟩) (wh_preS hK hN hP hD [] rfl rfl) rfl rfl hl.1 rfl (lv_room (Nat.le_of_ble_eq_true rfl)) dX10_digest_200 ⟨Nat.le_refl _, Nat.le_refl _⟩) hP hD hS hA [] [0, 1, 2, 3, 4, 5, 6, 7, 8, 9, 10, 11, 12, 13, 14, 15] [0, 1, 2, 3, 4, 5, 6, 7, 8, 9, 10, 11, 12, 13, 14, 15] rfl rfl rfl rfl (fun H locs hP hD hS => ?_)
    refine lv_isub hx hb dX10_digest_203 ?_
    refine lv_i2l hx hb dX10_digest_204 rfl ?_
    obtain ⟨s34, h_s34, hf⟩ := hf_bind hf
    refine wh_callv (D := (dC, dI)) (ws' := (wl_fM_digest cI cZ cJ cQ a_0 a_0table a_0s a_0cells a_0owner a_0code a_0isOver a_0all a_0some a_0isRuled a_0last a_0chosen a_0corner a_0wide a_0isKept a_0buffer a_0before a_0slots a_0cuts a_0aside known_0 length_0 (0 : Int32) s1.1 s1.2.2.2.2.2.2.1 seed_0 s34 s1.2.1 s_0 s1.2.2.1 s1.2.2.2.1 s1.2.2.2.2.1 s1.2.2.2.2.2.1 s1.2.2.2.2.2.2.2.1 s1.2.2.2.2.2.2.2.2.1 s1.2.2.2.2.2.2.2.2.2 last_0 chosen_0 corner_0 wide_0 isKept_0 buffer_0)) (va_runV (As := [.long ((42 : Int32) - s33).toInt64]) (rest := []) ⟨hx, hb, hml, hown, hts⟩ (c_fM_mix l dC dI cI cZ cJ cQ a_0 a_0s a_0before a_0slots a_0isKept a_0buffer a_0cells a_0owner a_0code a_0table a_0isOver a_0isRuled a_0all a_0some a_0chosen a_0last a_0corner a_0wide a_0cuts a_0aside known_0 length_0 (0 : Int32) s1.1 s1.2.2.2.2.2.2.1 seed_0 _ h_s34) (cwV 1 hts gX10_digest_X10_mix rfl rfl rfl (by decide +kernel) ⟨Nat.le_of_ble_eq_true rfl, Nat.le_of_ble_eq_true rfl⟩) (wh_preV (C := RX10) (T := TX10) (N := 26) hK hN hP hD [0] rfl rfl 10 0 rfl rfl) rfl rfl hl.1 rfl (lv_room (Nat.le_of_ble_eq_true rfl)) dX10_digest_205 ⟨Nat.le_refl _, Nat.le_refl _⟩) hP hD hS hA [0] [1, 2, 3, 4, 5, 6, 7, 8, 9, 10, 11, 12, 13, 14, 15] [15, 0, 1, 2, 3, 4, 5, 6, 7, 8, 9, 10, 11, 12, 13, 14] rfl rfl rfl rfl (fun H locs hP hD hS => ?_)
    refine lv_aload_n hx hb dX10_digest_208 rfl (lv_at hl 0 rfl) ?_
    refine lv_aload_n hx hb dX10_digest_209 rfl (lv_at hl 0 rfl) ?_
    refine va_get (D := (dC, dI)) (ci := 10) (C := RX10) (T := TX10) (N := 26) hx hb hts hiX10 hown hK hP 0 rfl rfl 11 (by decide) (hts (.fieldLink RX10 102 "PaddockFieldsModel" "many" "I") (List.mem_cons_of_mem _ (List.mem_append_left _ (List.mem_append_left _ (List.mem_of_getElem? (i := 4) rfl))))) (fun _ h9 => h9) rfl dX10_digest_210 ?_
    refine lv_i2l hx hb dX10_digest_213 rfl ?_
    obtain ⟨s35, h_s35, hf⟩ := hf_bind hf
    refine wh_callv (D := (dC, dI)) (ws' := (wl_fM_digest cI cZ cJ cQ a_0 a_0table a_0s a_0cells a_0owner a_0code a_0isOver a_0all a_0some a_0isRuled a_0last a_0chosen a_0corner a_0wide a_0isKept a_0buffer a_0before a_0slots a_0cuts a_0aside known_0 length_0 (0 : Int32) s1.1 s1.2.2.2.2.2.2.1 seed_0 s35 s1.2.1 s_0 s1.2.2.1 s1.2.2.2.1 s1.2.2.2.2.1 s1.2.2.2.2.2.1 s1.2.2.2.2.2.2.2.1 s1.2.2.2.2.2.2.2.2.1 s1.2.2.2.2.2.2.2.2.2 last_0 chosen_0 corner_0 wide_0 isKept_0 buffer_0)) (va_runV (As := [.long s1.1.toInt64]) (rest := []) ⟨hx, hb, hml, hown, hts⟩ (c_fM_mix l dC dI cI cZ cJ cQ a_0 a_0s a_0before a_0slots a_0isKept a_0buffer a_0cells a_0owner a_0code a_0table a_0isOver a_0isRuled a_0all a_0some a_0chosen a_0last a_0corner a_0wide a_0cuts a_0aside known_0 length_0 (0 : Int32) s1.1 s1.2.2.2.2.2.2.1 seed_0 _ h_s35) (cwV 1 hts gX10_digest_X10_mix rfl rfl rfl (by decide +kernel) ⟨Nat.le_of_ble_eq_true rfl, Nat.le_of_ble_eq_true rfl⟩) (wh_preV (C := RX10) (T := TX10) (N := 26) hK hN hP hD [0] rfl rfl 10 0 rfl rfl) rfl rfl hl.1 rfl (lv_room (Nat.le_of_ble_eq_true rfl)) dX10_digest_214 ⟨Nat.le_refl _, Nat.le_refl _⟩) hP hD hS hA [0] [1, 2, 3, 4, 5, 6, 7, 8, 9, 10, 11, 12, 13, 14, 15] [15, 0, 1, 2, 3, 4, 5, 6, 7, 8, 9, 10, 11, 12, 13, 14] rfl rfl rfl rfl (fun H locs hP hD hS => ?_)
    refine lv_aload_n hx hb dX10_digest_217 rfl (lv_at hl 0 rfl) ?_
    refine lv_aload_n hx hb dX10_digest_218 rfl (lv_at hl 0 rfl) ?_
    refine va_get (D := (dC, dI)) (ci := 10) (C := RX10) (T := TX10) (N := 26) hx hb hts hiX10 hown hK hP 0 rfl rfl 17 (by decide) (hts (.fieldLink RX10 116 "PaddockFieldsModel" "round" "I") (List.mem_cons_of_mem _ (List.mem_append_left _ (List.mem_append_left _ (List.mem_of_getElem? (i := 7) rfl))))) (fun _ h9 => h9) rfl dX10_digest_219 ?_
    refine lv_i2l hx hb dX10_digest_222 rfl ?_
    obtain ⟨s36, h_s36, hf⟩ := hf_bind hf
    refine wh_callv (D := (dC, dI)) (ws' := (wl_fM_digest cI cZ cJ cQ a_0 a_0table a_0s a_0cells a_0owner a_0code a_0isOver a_0all a_0some a_0isRuled a_0last a_0chosen a_0corner a_0wide a_0isKept a_0buffer a_0before a_0slots a_0cuts a_0aside known_0 length_0 (0 : Int32) s1.1 s1.2.2.2.2.2.2.1 seed_0 s36 s1.2.1 s_0 s1.2.2.1 s1.2.2.2.1 s1.2.2.2.2.1 s1.2.2.2.2.2.1 s1.2.2.2.2.2.2.2.1 s1.2.2.2.2.2.2.2.2.1 s1.2.2.2.2.2.2.2.2.2 last_0 chosen_0 corner_0 wide_0 isKept_0 buffer_0)) (va_runV (As := [.long s1.2.2.2.2.2.2.1.toInt64]) (rest := []) ⟨hx, hb, hml, hown, hts⟩ (c_fM_mix l dC dI cI cZ cJ cQ a_0 a_0s a_0before a_0slots a_0isKept a_0buffer a_0cells a_0owner a_0code a_0table a_0isOver a_0isRuled a_0all a_0some a_0chosen a_0last a_0corner a_0wide a_0cuts a_0aside known_0 length_0 (0 : Int32) s1.1 s1.2.2.2.2.2.2.1 seed_0 _ h_s36) (cwV 1 hts gX10_digest_X10_mix rfl rfl rfl (by decide +kernel) ⟨Nat.le_of_ble_eq_true rfl, Nat.le_of_ble_eq_true rfl⟩) (wh_preV (C := RX10) (T := TX10) (N := 26) hK hN hP hD [0] rfl rfl 10 0 rfl rfl) rfl rfl hl.1 rfl (lv_room (Nat.le_of_ble_eq_true rfl)) dX10_digest_223 ⟨Nat.le_refl _, Nat.le_refl _⟩) hP hD hS hA [0] [1, 2, 3, 4, 5, 6, 7, 8, 9, 10, 11, 12, 13, 14, 15] [15, 0, 1, 2, 3, 4, 5, 6, 7, 8, 9, 10, 11, 12, 13, 14] rfl rfl rfl rfl (fun H locs hP hD hS => ?_)
    refine lv_aload_n hx hb dX10_digest_226 rfl (lv_at hl 0 rfl) ?_
    refine lv_aload_n hx hb dX10_digest_227 rfl (lv_at hl 0 rfl) ?_
    obtain ⟨s37, h_s37, hf⟩ := hf_bind hf
    refine wh_calli (D := (dC, dI)) (ws' := (wl_fM_digest cI cZ cJ cQ a_0 a_0table a_0s a_0cells a_0owner a_0code a_0isOver a_0all a_0some a_0isRuled a_0last a_0chosen a_0corner a_0wide a_0isKept a_0buffer a_0before a_0slots a_0cuts a_0aside known_0 length_0 (0 : Int32) s1.1 s1.2.2.2.2.2.2.1 seed_0 s36 s1.2.1 s_0 s1.2.2.1 s1.2.2.2.1 s1.2.2.2.2.1 s1.2.2.2.2.2.1 s1.2.2.2.2.2.2.2.1 s1.2.2.2.2.2.2.2.2.1 s1.2.2.2.2.2.2.2.2.2 last_0 chosen_0 corner_0 wide_0 isKept_0 buffer_0)) (va_runV (As := []) (rest := [.ref a_0]) ⟨hx, hb, hml, hown, hts⟩ (c_fM_leftAll l dC dI cI cZ cJ cQ a_0 a_0isOver a_0s a_0before a_0slots a_0isKept a_0buffer a_0cells a_0owner a_0code a_0table a_0isRuled a_0all a_0some a_0chosen a_0last a_0corner a_0wide a_0cuts a_0aside known_0 length_0 (0 : Int32) s1.2.2.2.2.2.2.1 seed_0 s36 _ h_s37) (cwV 0 hts gX10_digest_X10_leftAll rfl rfl rfl (by decide +kernel) ⟨Nat.le_of_ble_eq_true rfl, Nat.le_of_ble_eq_true rfl⟩) (wh_preV (C := RX10) (T := TX10) (N := 26) hK hN hP hD [0, 6] rfl rfl 10 0 rfl rfl) rfl rfl hl.1 rfl (lv_room (Nat.le_of_ble_eq_true rfl)) dX10_digest_228 ⟨Nat.le_refl _, Nat.le_refl _⟩) hP hD hS hA [0, 6] [1, 2, 3, 4, 5, 7, 8, 9, 10, 11, 12, 13, 14, 15] [14, 0, 1, 2, 3, 4, 15, 5, 6, 7, 8, 9, 10, 11, 12, 13] rfl rfl rfl rfl (fun H locs hP hD hS => ?_)
    refine lv_i2l hx hb dX10_digest_231 rfl ?_
    obtain ⟨s38, h_s38, hf⟩ := hf_bind hf
    refine wh_callv (D := (dC, dI)) (ws' := (wl_fM_digest cI cZ cJ cQ a_0 a_0table a_0s a_0cells a_0owner a_0code a_0isOver a_0all a_0some a_0isRuled a_0last a_0chosen a_0corner a_0wide a_0isKept a_0buffer a_0before a_0slots a_0cuts a_0aside known_0 length_0 (0 : Int32) s1.1 s1.2.2.2.2.2.2.1 seed_0 s38 s1.2.1 s_0 s1.2.2.1 s1.2.2.2.1 s1.2.2.2.2.1 s1.2.2.2.2.2.1 s1.2.2.2.2.2.2.2.1 s1.2.2.2.2.2.2.2.2.1 s1.2.2.2.2.2.2.2.2.2 last_0 chosen_0 corner_0 wide_0 isKept_0 buffer_0)) (va_runV (As := [.long s37.toInt64]) (rest := []) ⟨hx, hb, hml, hown, hts⟩ (c_fM_mix l dC dI cI cZ cJ cQ a_0 a_0s a_0before a_0slots a_0isKept a_0buffer a_0cells a_0owner a_0code a_0table a_0isOver a_0isRuled a_0all a_0some a_0chosen a_0last a_0corner a_0wide a_0cuts a_0aside known_0 length_0 (0 : Int32) s1.1 s1.2.2.2.2.2.2.1 seed_0 _ h_s38) (cwV 1 hts gX10_digest_X10_mix rfl rfl rfl (by decide +kernel) ⟨Nat.le_of_ble_eq_true rfl, Nat.le_of_ble_eq_true rfl⟩) (wh_preV (C := RX10) (T := TX10) (N := 26) hK hN hP hD [0] rfl rfl 10 0 rfl rfl) rfl rfl hl.1 rfl (lv_room (Nat.le_of_ble_eq_true rfl)) dX10_digest_232 ⟨Nat.le_refl _, Nat.le_refl _⟩) hP hD hS hA [0] [1, 2, 3, 4, 5, 6, 7, 8, 9, 10, 11, 12, 13, 14, 15] [15, 0, 1, 2, 3, 4, 5, 6, 7, 8, 9, 10, 11, 12, 13, 14] rfl rfl rfl rfl (fun H locs hP hD hS => ?_)
    refine lv_aload_n hx hb dX10_digest_235 rfl (lv_at hl 0 rfl) ?_
    obtain ⟨s39, h_s39, hf⟩ := hf_bind hf
    refine wh_calli (D := (dC, dI)) (ws' := (wl_fM_digest cI cZ cJ cQ a_0 a_0table a_0s a_0cells a_0owner a_0code a_0isOver a_0all a_0some a_0isRuled a_0last a_0chosen a_0corner a_0wide a_0isKept a_0buffer a_0before a_0slots a_0cuts a_0aside known_0 length_0 (0 : Int32) s1.1 s1.2.2.2.2.2.2.1 seed_0 s38 s1.2.1 s_0 s1.2.2.1 s1.2.2.2.1 s1.2.2.2.2.1 s1.2.2.2.2.2.1 s1.2.2.2.2.2.2.2.1 s1.2.2.2.2.2.2.2.2.1 s1.2.2.2.2.2.2.2.2.2 last_0 chosen_0 corner_0 wide_0 isKept_0 buffer_0)) (va_runV (As := []) (rest := []) ⟨hx, hb, hml, hown, hts⟩ (c_fM_isAgainst l dC dI cI cZ cJ cQ a_0 a_0s a_0some a_0before a_0slots a_0isKept a_0buffer a_0cells a_0owner a_0code a_0table a_0isOver a_0isRuled a_0all a_0chosen a_0last a_0corner a_0wide a_0cuts a_0aside known_0 length_0 (0 : Int32) s1.1 s1.2.2.2.2.2.2.1 seed_0 s38 _ h_s39) (cwV 0 hts gX10_digest_X10_isAgainst rfl rfl rfl (by decide +kernel) ⟨Nat.le_of_ble_eq_true rfl, Nat.le_of_ble_eq_true rfl⟩) (wh_preV (C := RX10) (T := TX10) (N := 26) hK hN hP hD [0, 2, 8] rfl rfl 10 0 rfl rfl) rfl rfl hl.1 rfl (lv_room (Nat.le_of_ble_eq_true rfl)) dX10_digest_236 ⟨Nat.le_refl _, Nat.le_refl _⟩) hP hD hS hA [0, 2, 8] [1, 3, 4, 5, 6, 7, 9, 10, 11, 12, 13, 14, 15] [13, 0, 14, 1, 2, 3, 4, 5, 15, 6, 7, 8, 9, 10, 11, 12] rfl rfl rfl rfl (fun H locs hP hD hS => ?_)
    refine lv_istore_n (lv' := [(1, .int s39), (0, .ref a_0)]) hx hb dX10_digest_239 rfl hl (by decide) rfl (fun ls hl => ?_)
    refine lv_aload_n hx hb dX10_digest_240 rfl (lv_at hl 1 rfl) ?_
    refine lv_iload_n hx hb dX10_digest_241 rfl (lv_at hl 0 rfl) ?_
    obtain ⟨j40, h_j40, hf⟩ := hf_bind hf
    have hJ_2 : ∀ (H : Heap) (locs : List Loc) (ls : Array Slot), lv_has ls 4 [(0, .ref a_0), (1, .int s39)] → va_P (dC, dI) vwCl (wl_fM_digest cI cZ cJ cQ a_0 a_0table a_0s a_0cells a_0owner a_0code a_0isOver a_0all a_0some a_0isRuled a_0last a_0chosen a_0corner a_0wide a_0isKept a_0buffer a_0before a_0slots a_0cuts a_0aside known_0 length_0 (0 : Int32) s1.1 s1.2.2.2.2.2.2.1 seed_0 s38 s1.2.1 s_0 s1.2.2.1 s1.2.2.2.1 s1.2.2.2.2.1 s1.2.2.2.2.2.1 s1.2.2.2.2.2.2.2.1 s1.2.2.2.2.2.2.2.2.1 s1.2.2.2.2.2.2.2.2.2 last_0 chosen_0 corner_0 wide_0 isKept_0 buffer_0) H → va_D A (wl_fM_digest cI cZ cJ cQ a_0 a_0table a_0s a_0cells a_0owner a_0code a_0isOver a_0all a_0some a_0isRuled a_0last a_0chosen a_0corner a_0wide a_0isKept a_0buffer a_0before a_0slots a_0cuts a_0aside known_0 length_0 (0 : Int32) s1.1 s1.2.2.2.2.2.2.1 seed_0 s38 s1.2.1 s_0 s1.2.2.1 s1.2.2.2.1 s1.2.2.2.2.1 s1.2.2.2.2.2.1 s1.2.2.2.2.2.2.2.1 s1.2.2.2.2.2.2.2.2.1 s1.2.2.2.2.2.2.2.2.2 last_0 chosen_0 corner_0 wide_0 isKept_0 buffer_0) → va_S A s.heap H locs → W p l e ({ frames := 4, cells := 0, slots := 0, locals := 115 } : Room) s m [.ref a_0].toArray below meth c H locs 0 0 QQ (F0 m 250 ls [.long j40, .ref a_0]) := by
      intro H locs ls hl hP hD hS
      obtain ⟨s41, h_s41, hf⟩ := hf_bind hf
      refine wh_callv (D := (dC, dI)) (ws' := (wl_fM_digest cI cZ cJ cQ a_0 a_0table a_0s a_0cells a_0owner a_0code a_0isOver a_0all a_0some a_0isRuled a_0last a_0chosen a_0corner a_0wide a_0isKept a_0buffer a_0before a_0slots a_0cuts a_0aside known_0 length_0 (0 : Int32) s1.1 s1.2.2.2.2.2.2.1 seed_0 s41 s1.2.1 s_0 s1.2.2.1 s1.2.2.2.1 s1.2.2.2.2.1 s1.2.2.2.2.2.1 s1.2.2.2.2.2.2.2.1 s1.2.2.2.2.2.2.2.2.1 s1.2.2.2.2.2.2.2.2.2 last_0 chosen_0 corner_0 wide_0 isKept_0 buffer_0)) (va_runV (As := [.long j40]) (rest := []) ⟨hx, hb, hml, hown, hts⟩ (c_fM_mix l dC dI cI cZ cJ cQ a_0 a_0s a_0before a_0slots a_0isKept a_0buffer a_0cells a_0owner a_0code a_0table a_0isOver a_0isRuled a_0all a_0some a_0chosen a_0last a_0corner a_0wide a_0cuts a_0aside known_0 length_0 (0 : Int32) s1.1 s1.2.2.2.2.2.2.1 seed_0 _ h_s41) (cwV 1 hts gX10_digest_X10_mix rfl rfl rfl (by decide +kernel) ⟨Nat.le_of_ble_eq_true rfl, Nat.le_of_ble_eq_true rfl⟩) (wh_preV (C := RX10) (T := TX10) (N := 26) hK hN hP hD [0] rfl rfl 10 0 rfl rfl) rfl rfl hl.1 rfl (lv_room (Nat.le_of_ble_eq_true rfl)) dX10_digest_250 ⟨Nat.le_refl _, Nat.le_refl _⟩) hP hD hS hA [0] [1, 2, 3, 4, 5, 6, 7, 8, 9, 10, 11, 12, 13, 14, 15] [15, 0, 1, 2, 3, 4, 5, 6, 7, 8, 9, 10, 11, 12, 13, 14] rfl rfl rfl rfl (fun H locs hP hD hS => ?_)
      refine lv_aload_n hx hb dX10_digest_253 rfl (lv_at hl 0 rfl) ?_
      refine lv_iload_n hx hb dX10_digest_254 rfl (lv_at hl 1 rfl) ?_
      obtain ⟨j43, h_j43, hf⟩ := hf_bind hf
      have hJ_3 : ∀ (H : Heap) (locs : List Loc) (ls : Array Slot), lv_has ls 4 [(0, .ref a_0), (1, .int s39)] → va_P (dC, dI) vwCl (wl_fM_digest cI cZ cJ cQ a_0 a_0table a_0s a_0cells a_0owner a_0code a_0isOver a_0all a_0some a_0isRuled a_0last a_0chosen a_0corner a_0wide a_0isKept a_0buffer a_0before a_0slots a_0cuts a_0aside known_0 length_0 (0 : Int32) s1.1 s1.2.2.2.2.2.2.1 seed_0 s41 s1.2.1 s_0 s1.2.2.1 s1.2.2.2.1 s1.2.2.2.2.1 s1.2.2.2.2.2.1 s1.2.2.2.2.2.2.2.1 s1.2.2.2.2.2.2.2.2.1 s1.2.2.2.2.2.2.2.2.2 last_0 chosen_0 corner_0 wide_0 isKept_0 buffer_0) H → va_D A (wl_fM_digest cI cZ cJ cQ a_0 a_0table a_0s a_0cells a_0owner a_0code a_0isOver a_0all a_0some a_0isRuled a_0last a_0chosen a_0corner a_0wide a_0isKept a_0buffer a_0before a_0slots a_0cuts a_0aside known_0 length_0 (0 : Int32) s1.1 s1.2.2.2.2.2.2.1 seed_0 s41 s1.2.1 s_0 s1.2.2.1 s1.2.2.2.1 s1.2.2.2.2.1 s1.2.2.2.2.2.1 s1.2.2.2.2.2.2.2.1 s1.2.2.2.2.2.2.2.2.1 s1.2.2.2.2.2.2.2.2.2 last_0 chosen_0 corner_0 wide_0 isKept_0 buffer_0) → va_S A s.heap H locs → W p l e ({ frames := 4, cells := 0, slots := 0, locals := 115 } : Room) s m [.ref a_0].toArray below meth c H locs 0 0 QQ (F0 m 269 ls [.long j43, .ref a_0]) := by
        intro H locs ls hl hP hD hS
        obtain ⟨s44, h_s44, hf⟩ := hf_bind hf
        refine wh_callv (D := (dC, dI)) (ws' := (wl_fM_digest cI cZ cJ cQ a_0 a_0table a_0s a_0cells a_0owner a_0code a_0isOver a_0all a_0some a_0isRuled a_0last a_0chosen a_0corner a_0wide a_0isKept a_0buffer a_0before a_0slots a_0cuts a_0aside known_0 length_0 (0 : Int32) s1.1 s1.2.2.2.2.2.2.1 seed_0 s44 s1.2.1 s_0 s1.2.2.1 s1.2.2.2.1 s1.2.2.2.2.1 s1.2.2.2.2.2.1 s1.2.2.2.2.2.2.2.1 s1.2.2.2.2.2.2.2.2.1 s1.2.2.2.2.2.2.2.2.2 last_0 chosen_0 corner_0 wide_0 isKept_0 buffer_0)) (va_runV (As := [.long j43]) (rest := []) ⟨hx, hb, hml, hown, hts⟩ (c_fM_mix l dC dI cI cZ cJ cQ a_0 a_0s a_0before a_0slots a_0isKept a_0buffer a_0cells a_0owner a_0code a_0table a_0isOver a_0isRuled a_0all a_0some a_0chosen a_0last a_0corner a_0wide a_0cuts a_0aside known_0 length_0 (0 : Int32) s1.1 s1.2.2.2.2.2.2.1 seed_0 _ h_s44) (cwV 1 hts gX10_digest_X10_mix rfl rfl rfl (by decide +kernel) ⟨Nat.le_of_ble_eq_true rfl, Nat.le_of_ble_eq_true rfl⟩) (wh_preV (C := RX10) (T := TX10) (N := 26) hK hN hP hD [0] rfl rfl 10 0 rfl rfl) rfl rfl hl.1 rfl (lv_room (Nat.le_of_ble_eq_true rfl)) dX10_digest_269 ⟨Nat.le_refl _, Nat.le_refl _⟩) hP hD hS hA [0] [1, 2, 3, 4, 5, 6, 7, 8, 9, 10, 11, 12, 13, 14, 15] [15, 0, 1, 2, 3, 4, 5, 6, 7, 8, 9, 10, 11, 12, 13, 14] rfl rfl rfl rfl (fun H locs hP hD hS => ?_)
        refine lv_aload_n hx hb dX10_digest_272 rfl (lv_at hl 0 rfl) ?_
        refine lv_iload_n hx hb dX10_digest_273 rfl (lv_at hl 1 rfl) ?_
        obtain ⟨j46, h_j46, hf⟩ := hf_bind hf
        have hJ_4 : ∀ (H : Heap) (locs : List Loc) (ls : Array Slot), lv_has ls 4 [(0, .ref a_0)] → va_P (dC, dI) vwCl (wl_fM_digest cI cZ cJ cQ a_0 a_0table a_0s a_0cells a_0owner a_0code a_0isOver a_0all a_0some a_0isRuled a_0last a_0chosen a_0corner a_0wide a_0isKept a_0buffer a_0before a_0slots a_0cuts a_0aside known_0 length_0 (0 : Int32) s1.1 s1.2.2.2.2.2.2.1 seed_0 s44 s1.2.1 s_0 s1.2.2.1 s1.2.2.2.1 s1.2.2.2.2.1 s1.2.2.2.2.2.1 s1.2.2.2.2.2.2.2.1 s1.2.2.2.2.2.2.2.2.1 s1.2.2.2.2.2.2.2.2.2 last_0 chosen_0 corner_0 wide_0 isKept_0 buffer_0) H → va_D A (wl_fM_digest cI cZ cJ cQ a_0 a_0table a_0s a_0cells a_0owner a_0code a_0isOver a_0all a_0some a_0isRuled a_0last a_0chosen a_0corner a_0wide a_0isKept a_0buffer a_0before a_0slots a_0cuts a_0aside known_0 length_0 (0 : Int32) s1.1 s1.2.2.2.2.2.2.1 seed_0 s44 s1.2.1 s_0 s1.2.2.1 s1.2.2.2.1 s1.2.2.2.2.1 s1.2.2.2.2.2.1 s1.2.2.2.2.2.2.2.1 s1.2.2.2.2.2.2.2.2.1 s1.2.2.2.2.2.2.2.2.2 last_0 chosen_0 corner_0 wide_0 isKept_0 buffer_0) → va_S A s.heap H locs → W p l e ({ frames := 4, cells := 0, slots := 0, locals := 115 } : Room) s m [.ref a_0].toArray below meth c H locs 0 0 QQ (F0 m 288 ls [.long j46, .ref a_0]) := by
          intro H locs ls hl hP hD hS
          obtain ⟨s47, h_s47, hf⟩ := hf_bind hf
          refine wh_callv (D := (dC, dI)) (ws' := (wl_fM_digest cI cZ cJ cQ a_0 a_0table a_0s a_0cells a_0owner a_0code a_0isOver a_0all a_0some a_0isRuled a_0last a_0chosen a_0corner a_0wide a_0isKept a_0buffer a_0before a_0slots a_0cuts a_0aside known_0 length_0 (0 : Int32) s1.1 s1.2.2.2.2.2.2.1 seed_0 s47 s1.2.1 s_0 s1.2.2.1 s1.2.2.2.1 s1.2.2.2.2.1 s1.2.2.2.2.2.1 s1.2.2.2.2.2.2.2.1 s1.2.2.2.2.2.2.2.2.1 s1.2.2.2.2.2.2.2.2.2 last_0 chosen_0 corner_0 wide_0 isKept_0 buffer_0)) (va_runV (As := [.long j46]) (rest := []) ⟨hx, hb, hml, hown, hts⟩ (c_fM_mix l dC dI cI cZ cJ cQ a_0 a_0s a_0before a_0slots a_0isKept a_0buffer a_0cells a_0owner a_0code a_0table a_0isOver a_0isRuled a_0all a_0some a_0chosen a_0last a_0corner a_0wide a_0cuts a_0aside known_0 length_0 (0 : Int32) s1.1 s1.2.2.2.2.2.2.1 seed_0 _ h_s47) (cwV 1 hts gX10_digest_X10_mix rfl rfl rfl (by decide +kernel) ⟨Nat.le_of_ble_eq_true rfl, Nat.le_of_ble_eq_true rfl⟩) (wh_preV (C := RX10) (T := TX10) (N := 26) hK hN hP hD [0] rfl rfl 10 0 rfl rfl) rfl rfl hl.1 rfl (lv_room (Nat.le_of_ble_eq_true rfl)) dX10_digest_288 ⟨Nat.le_refl _, Nat.le_refl _⟩) hP hD hS hA [0] [1, 2, 3, 4, 5, 6, 7, 8, 9, 10, 11, 12, 13, 14, 15] [15, 0, 1, 2, 3, 4, 5, 6, 7, 8, 9, 10, 11, 12, 13, 14] rfl rfl rfl rfl (fun H locs hP hD hS => ?_)
          refine lv_aload_n hx hb dX10_digest_291 rfl (lv_at hl 0 rfl) ?_
          refine lv_bipush (v := 50) hx hb dX10_digest_292 (by decide) ?_
          obtain ⟨s48, h_s48, hf⟩ := hf_bind hf
          refine wh_calli (D := (dC, dI)) (ws' := (wl_fM_digest cI cZ cJ cQ a_0 a_0table a_0s a_0cells a_0owner a_0code a_0isOver a_0all a_0some a_0isRuled a_0last a_0chosen a_0corner a_0wide a_0isKept a_0buffer a_0before a_0slots a_0cuts a_0aside known_0 length_0 (0 : Int32) s48.2.1 s1.2.2.2.2.2.2.1 seed_0 s47 s48.2.2.1 s_0 s48.2.2.2.1 s48.2.2.2.2.1 s48.2.2.2.2.2.1 s1.2.2.2.2.2.1 s1.2.2.2.2.2.2.2.1 s1.2.2.2.2.2.2.2.2.1 s1.2.2.2.2.2.2.2.2.2 s48.2.2.2.2.2.2.1 s48.2.2.2.2.2.2.2.1 s48.2.2.2.2.2.2.2.2.1 s48.2.2.2.2.2.2.2.2.2 isKept_0 buffer_0)) (va_runV (As := [.int (50 : Int32)]) (rest := []) ⟨hx, hb, hml, hown, hts⟩ (c_fM_ways l dC dI cI cZ cJ cQ a_0 a_0table a_0s a_0cells a_0owner a_0code a_0last a_0chosen a_0corner a_0wide a_0before a_0slots a_0isKept a_0buffer a_0isOver a_0isRuled a_0all a_0some a_0cuts a_0aside known_0 length_0 (0 : Int32) s1.2.2.2.2.2.2.1 seed_0 s47 _ h_s48) (cwV 1 hts gX10_digest_X10_ways rfl rfl rfl (by decide +kernel) ⟨Nat.le_of_ble_eq_true rfl, Nat.le_of_ble_eq_true rfl⟩) (wh_preV (C := RX10) (T := TX10) (N := 26) hK hN hP hD [0, 1, 2, 3, 4, 5, 10, 11, 12, 13] rfl rfl 10 0 rfl rfl) rfl rfl hl.1 rfl (lv_room (Nat.le_of_ble_eq_true rfl)) dX10_digest_294 ⟨Nat.le_refl _, Nat.le_refl _⟩) hP hD hS hA [0, 1, 2, 3, 4, 5, 10, 11, 12, 13] [6, 7, 8, 9, 14, 15] [6, 7, 8, 9, 10, 11, 0, 1, 2, 3, 12, 13, 14, 15, 4, 5] rfl rfl rfl rfl (fun H locs hP hD hS => ?_)
          refine lv_istore_n (lv' := [(2, .int s48.1), (0, .ref a_0)]) hx hb dX10_digest_297 rfl hl (by decide) rfl (fun ls hl => ?_)
          refine lv_aload_n hx hb dX10_digest_298 rfl (lv_at hl 1 rfl) ?_
          refine lv_iload_n hx hb dX10_digest_299 rfl (lv_at hl 0 rfl) ?_
          refine lv_i2l hx hb dX10_digest_300 rfl ?_
          obtain ⟨s49, h_s49, hf⟩ := hf_bind hf
          refine wh_callv (D := (dC, dI)) (ws' := (wl_fM_digest cI cZ cJ cQ a_0 a_0table a_0s a_0cells a_0owner a_0code a_0isOver a_0all a_0some a_0isRuled a_0last a_0chosen a_0corner a_0wide a_0isKept a_0buffer a_0before a_0slots a_0cuts a_0aside known_0 length_0 (0 : Int32) s48.2.1 s1.2.2.2.2.2.2.1 seed_0 s49 s48.2.2.1 s_0 s48.2.2.2.1 s48.2.2.2.2.1 s48.2.2.2.2.2.1 s1.2.2.2.2.2.1 s1.2.2.2.2.2.2.2.1 s1.2.2.2.2.2.2.2.2.1 s1.2.2.2.2.2.2.2.2.2 s48.2.2.2.2.2.2.1 s48.2.2.2.2.2.2.2.1 s48.2.2.2.2.2.2.2.2.1 s48.2.2.2.2.2.2.2.2.2 isKept_0 buffer_0)) (va_runV (As := [.long s48.1.toInt64]) (rest := []) ⟨hx, hb, hml, hown, hts⟩ (c_fM_mix l dC dI cI cZ cJ cQ a_0 a_0s a_0before a_0slots a_0isKept a_0buffer a_0cells a_0owner a_0code a_0table a_0isOver a_0isRuled a_0all a_0some a_0chosen a_0last a_0corner a_0wide a_0cuts a_0aside known_0 length_0 (0 : Int32) s48.2.1 s1.2.2.2.2.2.2.1 seed_0 _ h_s49) (cwV 1 hts gX10_digest_X10_mix rfl rfl rfl (by decide +kernel) ⟨Nat.le_of_ble_eq_true rfl, Nat.le_of_ble_eq_true rfl⟩) (wh_preV (C := RX10) (T := TX10) (N := 26) hK hN hP hD [0] rfl rfl 10 0 rfl rfl) rfl rfl hl.1 rfl (lv_room (Nat.le_of_ble_eq_true rfl)) dX10_digest_301 ⟨Nat.le_refl _, Nat.le_refl _⟩) hP hD hS hA [0] [1, 2, 3, 4, 5, 6, 7, 8, 9, 10, 11, 12, 13, 14, 15] [15, 0, 1, 2, 3, 4, 5, 6, 7, 8, 9, 10, 11, 12, 13, 14] rfl rfl rfl rfl (fun H locs hP hD hS => ?_)
          refine lv_aload_n hx hb dX10_digest_304 rfl (lv_at hl 1 rfl) ?_
          refine lv_iload_n hx hb dX10_digest_305 rfl (lv_at hl 0 rfl) ?_
          refine lv_i2l hx hb dX10_digest_306 rfl ?_
          obtain ⟨s50, h_s50, hf⟩ := hf_bind hf
          refine wh_callv (D := (dC, dI)) (ws' := (wl_fM_digest cI cZ cJ cQ a_0 a_0table a_0s a_0cells a_0owner a_0code a_0isOver a_0all a_0some a_0isRuled a_0last a_0chosen a_0corner a_0wide a_0isKept a_0buffer a_0before a_0slots a_0cuts a_0aside known_0 length_0 (0 : Int32) s48.2.1 s1.2.2.2.2.2.2.1 seed_0 s50 s48.2.2.1 s_0 s48.2.2.2.1 s48.2.2.2.2.1 s48.2.2.2.2.2.1 s1.2.2.2.2.2.1 s1.2.2.2.2.2.2.2.1 s1.2.2.2.2.2.2.2.2.1 s1.2.2.2.2.2.2.2.2.2 s48.2.2.2.2.2.2.1 s48.2.2.2.2.2.2.2.1 s48.2.2.2.2.2.2.2.2.1 s48.2.2.2.2.2.2.2.2.2 isKept_0 buffer_0)) (va_runV (As := [.long s48.1.toInt64]) (rest := []) ⟨hx, hb, hml, hown, hts⟩ (c_fM_mix l dC dI cI cZ cJ cQ a_0 a_0s a_0before a_0slots a_0isKept a_0buffer a_0cells a_0owner a_0code a_0table a_0isOver a_0isRuled a_0all a_0some a_0chosen a_0last a_0corner a_0wide a_0cuts a_0aside known_0 length_0 (0 : Int32) s48.2.1 s1.2.2.2.2.2.2.1 seed_0 _ h_s50) (cwV 1 hts gX10_digest_X10_mix rfl rfl rfl (by decide +kernel) ⟨Nat.le_of_ble_eq_true rfl, Nat.le_of_ble_eq_true rfl⟩) (wh_preV (C := RX10) (T := TX10) (N := 26) hK hN hP hD [0] rfl rfl 10 0 rfl rfl) rfl rfl hl.1 rfl (lv_room (Nat.le_of_ble_eq_true rfl)) dX10_digest_307 ⟨Nat.le_refl _, Nat.le_refl _⟩) hP hD hS hA [0] [1, 2, 3, 4, 5, 6, 7, 8, 9, 10, 11, 12, 13, 14, 15] [15, 0, 1, 2, 3, 4, 5, 6, 7, 8, 9, 10, 11, 12, 13, 14] rfl rfl rfl rfl (fun H locs hP hD hS => ?_)
          refine lv_iconst (v := 0) hx hb dX10_digest_310 (by decide) ?_
          refine lv_istore_n (lv' := [(3, .int (0 : Int32)), (2, .int s48.1), (0, .ref a_0)]) hx hb dX10_digest_311 rfl hl (by decide) rfl (fun ls hl => ?_)
          obtain ⟨r55, h_r55, hf⟩ := hf_bind hf
          have hE_5 : ∀ (H : Heap) (locs : List Loc) (ls : Array Slot), lv_has ls 4 [(0, .ref a_0)] → va_P (dC, dI) vwCl (wl_fM_digest cI cZ cJ cQ a_0 a_0table a_0s a_0cells a_0owner a_0code a_0isOver a_0all a_0some a_0isRuled a_0last a_0chosen a_0corner a_0wide a_0isKept a_0buffer a_0before a_0slots a_0cuts a_0aside known_0 length_0 (0 : Int32) s48.2.1 s1.2.2.2.2.2.2.1 seed_0 r55.2 s48.2.2.1 s_0 s48.2.2.2.1 s48.2.2.2.2.1 s48.2.2.2.2.2.1 s1.2.2.2.2.2.1 s1.2.2.2.2.2.2.2.1 s1.2.2.2.2.2.2.2.2.1 s1.2.2.2.2.2.2.2.2.2 s48.2.2.2.2.2.2.1 s48.2.2.2.2.2.2.2.1 s48.2.2.2.2.2.2.2.2.1 s48.2.2.2.2.2.2.2.2.2 isKept_0 buffer_0) H → va_D A (wl_fM_digest cI cZ cJ cQ a_0 a_0table a_0s a_0cells a_0owner a_0code a_0isOver a_0all a_0some a_0isRuled a_0last a_0chosen a_0corner a_0wide a_0isKept a_0buffer a_0before a_0slots a_0cuts a_0aside known_0 length_0 (0 : Int32) s48.2.1 s1.2.2.2.2.2.2.1 seed_0 r55.2 s48.2.2.1 s_0 s48.2.2.2.1 s48.2.2.2.2.1 s48.2.2.2.2.2.1 s1.2.2.2.2.2.1 s1.2.2.2.2.2.2.2.1 s1.2.2.2.2.2.2.2.2.1 s1.2.2.2.2.2.2.2.2.2 s48.2.2.2.2.2.2.1 s48.2.2.2.2.2.2.2.1 s48.2.2.2.2.2.2.2.2.1 s48.2.2.2.2.2.2.2.2.2 isKept_0 buffer_0) → va_S A s.heap H locs → W p l e ({ frames := 4, cells := 0, slots := 0, locals := 115 } : Room) s m [.ref a_0].toArray below meth c H locs 0 0 QQ (F0 m 350 ls []) := by
            intro H locs ls hl hP hD hS
            refine lv_aload_n hx hb dX10_digest_350 rfl (lv_at hl 0 rfl) ?_
            refine lv_aload_n hx hb dX10_digest_351 rfl (lv_at hl 0 rfl) ?_
            refine va_get (D := (dC, dI)) (ci := 10) (C := RX10) (T := TX10) (N := 26) hx hb hts hiX10 hown hK hP 0 rfl rfl 2 (by decide) (hts (.fieldLink RX10 77 "PaddockFieldsModel" "known" "I") (List.mem_cons_of_mem _ (List.mem_append_left _ (List.mem_append_left _ (List.mem_of_getElem? (i := 10) rfl))))) (fun _ h9 => h9) rfl dX10_digest_352 ?_
            refine lv_i2l hx hb dX10_digest_355 rfl ?_
            obtain ⟨s56, h_s56, hf⟩ := hf_bind hf
            refine wh_callv (D := (dC, dI)) (ws' := (wl_fM_digest cI cZ cJ cQ a_0 a_0table a_0s a_0cells a_0owner a_0code a_0isOver a_0all a_0some a_0isRuled a_0last a_0chosen a_0corner a_0wide a_0isKept a_0buffer a_0before a_0slots a_0cuts a_0aside known_0 length_0 (0 : Int32) s48.2.1 s1.2.2.2.2.2.2.1 seed_0 s56 s48.2.2.1 s_0 s48.2.2.2.1 s48.2.2.2.2.1 s48.2.2.2.2.2.1 s1.2.2.2.2.2.1 s1.2.2.2.2.2.2.2.1 s1.2.2.2.2.2.2.2.2.1 s1.2.2.2.2.2.2.2.2.2 s48.2.2.2.2.2.2.1 s48.2.2.2.2.2.2.2.1 s48.2.2.2.2.2.2.2.2.1 s48.2.2.2.2.2.2.2.2.2 isKept_0 buffer_0)) (va_runV (As := [.long known_0.toInt64]) (rest := []) ⟨hx, hb, hml, hown, hts⟩ (c_fM_mix l dC dI cI cZ cJ cQ a_0 a_0s a_0before a_0slots a_0isKept a_0buffer a_0cells a_0owner a_0code a_0table a_0isOver a_0isRuled a_0all a_0some a_0chosen a_0last a_0corner a_0wide a_0cuts a_0aside known_0 length_0 (0 : Int32) s48.2.1 s1.2.2.2.2.2.2.1 seed_0 _ h_s56) (cwV 1 hts gX10_digest_X10_mix rfl rfl rfl (by decide +kernel) ⟨Nat.le_of_ble_eq_true rfl, Nat.le_of_ble_eq_true rfl⟩) (wh_preV (C := RX10) (T := TX10) (N := 26) hK hN hP hD [0] rfl rfl 10 0 rfl rfl) rfl rfl hl.1 rfl (lv_room (Nat.le_of_ble_eq_true rfl)) dX10_digest_356 ⟨Nat.le_refl _, Nat.le_refl _⟩) hP hD hS hA [0] [1, 2, 3, 4, 5, 6, 7, 8, 9, 10, 11, 12, 13, 14, 15] [15, 0, 1, 2, 3, 4, 5, 6, 7, 8, 9, 10, 11, 12, 13, 14] rfl rfl rfl rfl (fun H locs hP hD hS => ?_)
            refine lv_aload_n hx hb dX10_digest_359 rfl (lv_at hl 0 rfl) ?_
            refine lv_aload_n hx hb dX10_digest_360 rfl (lv_at hl 0 rfl) ?_
            obtain ⟨s57, h_s57, hf⟩ := hf_bind hf
            refine wh_calld (D := (dC, dI)) (ws' := (wl_fM_digest cI cZ cJ cQ a_0 a_0table a_0s a_0cells a_0owner a_0code a_0isOver a_0all a_0some a_0isRuled a_0last a_0chosen a_0corner a_0wide a_0isKept a_0buffer a_0before a_0slots a_0cuts a_0aside known_0 length_0 (0 : Int32) s48.2.1 s1.2.2.2.2.2.2.1 seed_0 s56 s48.2.2.1 s_0 s48.2.2.2.1 s48.2.2.2.2.1 s48.2.2.2.2.2.1 s1.2.2.2.2.2.1 s1.2.2.2.2.2.2.2.1 s1.2.2.2.2.2.2.2.2.1 s1.2.2.2.2.2.2.2.2.2 s48.2.2.2.2.2.2.1 s48.2.2.2.2.2.2.2.1 s48.2.2.2.2.2.2.2.2.1 s48.2.2.2.2.2.2.2.2.2 isKept_0 buffer_0)) (va_runV (As := []) (rest := [.ref a_0]) ⟨hx, hb, hml, hown, hts⟩ (c_fM_mean l dC dI cI cZ cJ cQ a_0 a_0s a_0before a_0slots a_0isKept a_0buffer a_0cells a_0owner a_0code a_0table a_0isOver a_0isRuled a_0all a_0some a_0chosen a_0last a_0corner a_0wide a_0cuts a_0aside known_0 length_0 (0 : Int32) s1.2.2.2.2.2.2.1 seed_0 s56 _ h_s57) (cwV 0 hts gX10_digest_X10_mean rfl rfl rfl (by decide +kernel) ⟨Nat.le_of_ble_eq_true rfl, Nat.le_of_ble_eq_true rfl⟩) (wh_preV (C := RX10) (T := TX10) (N := 26) hK hN hP hD [0, 2] rfl rfl 10 0 rfl rfl) rfl rfl hl.1 rfl (lv_room (Nat.le_of_ble_eq_true rfl)) dX10_digest_361 ⟨Nat.le_refl _, Nat.le_refl _⟩) hP hD hS hA [0, 2] [1, 3, 4, 5, 6, 7, 8, 9, 10, 11, 12, 13, 14, 15] [14, 0, 15, 1, 2, 3, 4, 5, 6, 7, 8, 9, 10, 11, 12, 13] rfl rfl rfl rfl (fun H locs hP hD hS => ?_)
            refine lv_bipush (v := 52) hx hb dX10_digest_364 (by decide) ?_
            refine lv_sipush (v := 1023) hx hb dX10_digest_366 (by decide) ?_
            obtain ⟨s58, h_s58, hf⟩ := hf_bind hf
            refine wh_calll (D := (dC, dI)) (ws' := (wl_fM_digest cI cZ cJ cQ a_0 a_0table a_0s a_0cells a_0owner a_0code a_0isOver a_0all a_0some a_0isRuled a_0last a_0chosen a_0corner a_0wide a_0isKept a_0buffer a_0before a_0slots a_0cuts a_0aside known_0 length_0 (0 : Int32) s48.2.1 s1.2.2.2.2.2.2.1 seed_0 s56 s48.2.2.1 s_0 s48.2.2.2.1 s48.2.2.2.2.1 s48.2.2.2.2.2.1 s1.2.2.2.2.2.1 s1.2.2.2.2.2.2.2.1 s1.2.2.2.2.2.2.2.2.1 s1.2.2.2.2.2.2.2.2.2 s48.2.2.2.2.2.2.1 s48.2.2.2.2.2.2.2.1 s48.2.2.2.2.2.2.2.2.1 s48.2.2.2.2.2.2.2.2.2 isKept_0 buffer_0)) (va_runS (As := [.double s57, .int (52 : Int32), .int (1023 : Int32)]) (rest := [.ref a_0]) ⟨hx, hb, hml, hown, hts⟩ (c_fM_bitsOf l dC dI cI cZ cJ cQ _ h_s58) (va_cwS 3 hts gX10_digest_X10_bitsOf rfl rfl rfl (by decide +kernel) ⟨Nat.le_of_ble_eq_true rfl, Nat.le_of_ble_eq_true rfl⟩) (wh_preS hK hN hP hD [] rfl rfl) rfl rfl hl.1 rfl (lv_room (Nat.le_of_ble_eq_true rfl)) dX10_digest_369 ⟨Nat.le_refl _, Nat.le_refl _⟩) hP hD hS hA [] [0, 1, 2, 3, 4, 5, 6, 7, 8, 9, 10, 11, 12, 13, 14, 15] [0, 1, 2, 3, 4, 5, 6, 7, 8, 9, 10, 11, 12, 13, 14, 15] rfl rfl rfl rfl (fun H locs hP hD hS => ?_)
            obtain ⟨s59, h_s59, hf⟩ := hf_bind hf
            refine wh_callv (D := (dC, dI)) (ws' := (wl_fM_digest cI cZ cJ cQ a_0 a_0table a_0s a_0cells a_0owner a_0code a_0isOver a_0all a_0some a_0isRuled a_0last a_0chosen a_0corner a_0wide a_0isKept a_0buffer a_0before a_0slots a_0cuts a_0aside known_0 length_0 (0 : Int32) s48.2.1 s1.2.2.2.2.2.2.1 seed_0 s59 s48.2.2.1 s_0 s48.2.2.2.1 s48.2.2.2.2.1 s48.2.2.2.2.2.1 s1.2.2.2.2.2.1 s1.2.2.2.2.2.2.2.1 s1.2.2.2.2.2.2.2.2.1 s1.2.2.2.2.2.2.2.2.2 s48.2.2.2.2.2.2.1 s48.2.2.2.2.2.2.2.1 s48.2.2.2.2.2.2.2.2.1 s48.2.2.2.2.2.2.2.2.2 isKept_0 buffer_0)) (va_runV (As := [.long s58]) (rest := []) ⟨hx, hb, hml, hown, hts⟩ (c_fM_mix l dC dI cI cZ cJ cQ a_0 a_0s a_0before a_0slots a_0isKept a_0buffer a_0cells a_0owner a_0code a_0table a_0isOver a_0isRuled a_0all a_0some a_0chosen a_0last a_0corner a_0wide a_0cuts a_0aside known_0 length_0 (0 : Int32) s48.2.1 s1.2.2.2.2.2.2.1 seed_0 _ h_s59) (cwV 1 hts gX10_digest_X10_mix rfl rfl rfl (by decide +kernel) ⟨Nat.le_of_ble_eq_true rfl, Nat.le_of_ble_eq_true rfl⟩) (wh_preV (C := RX10) (T := TX10) (N := 26) hK hN hP hD [0] rfl rfl 10 0 rfl rfl) rfl rfl hl.1 rfl (lv_room (Nat.le_of_ble_eq_true rfl)) dX10_digest_372 ⟨Nat.le_refl _, Nat.le_refl _⟩) hP hD hS hA [0] [1, 2, 3, 4, 5, 6, 7, 8, 9, 10, 11, 12, 13, 14, 15] [15, 0, 1, 2, 3, 4, 5, 6, 7, 8, 9, 10, 11, 12, 13, 14] rfl rfl rfl rfl (fun H locs hP hD hS => ?_)
            refine lv_aload_n hx hb dX10_digest_375 rfl (lv_at hl 0 rfl) ?_
            refine lv_aload_n hx hb dX10_digest_376 rfl (lv_at hl 0 rfl) ?_
            refine va_get (D := (dC, dI)) (ci := 10) (C := RX10) (T := TX10) (N := 26) hx hb hts hiX10 hown hK hP 0 rfl rfl 4 (by decide) (hts (.fieldLink RX10 19 "PaddockFieldsModel" "isKept" "[Z") (List.mem_cons_of_mem _ (List.mem_append_left _ (List.mem_append_left _ (List.mem_of_getElem? (i := 11) rfl))))) (fun _ h9 => h9) rfl dX10_digest_377 ?_
            refine lv_iconst (v := 0) hx hb dX10_digest_380 (by decide) ?_
            obtain ⟨v60, h_v60, hf⟩ := hf_bind hf
            refine wh_ldZ (D := (dC, dI)) hx hb hK hP 14 1 rfl rfl h_v60 dX10_digest_381 ?_
            obtain ⟨j61, h_j61, hf⟩ := hf_bind hf
            have hJ_6 : ∀ (H : Heap) (locs : List Loc) (ls : Array Slot), lv_has ls 4 [(0, .ref a_0)] → va_P (dC, dI) vwCl (wl_fM_digest cI cZ cJ cQ a_0 a_0table a_0s a_0cells a_0owner a_0code a_0isOver a_0all a_0some a_0isRuled a_0last a_0chosen a_0corner a_0wide a_0isKept a_0buffer a_0before a_0slots a_0cuts a_0aside known_0 length_0 (0 : Int32) s48.2.1 s1.2.2.2.2.2.2.1 seed_0 s59 s48.2.2.1 s_0 s48.2.2.2.1 s48.2.2.2.2.1 s48.2.2.2.2.2.1 s1.2.2.2.2.2.1 s1.2.2.2.2.2.2.2.1 s1.2.2.2.2.2.2.2.2.1 s1.2.2.2.2.2.2.2.2.2 s48.2.2.2.2.2.2.1 s48.2.2.2.2.2.2.2.1 s48.2.2.2.2.2.2.2.2.1 s48.2.2.2.2.2.2.2.2.2 isKept_0 buffer_0) H → va_D A (wl_fM_digest cI cZ cJ cQ a_0 a_0table a_0s a_0cells a_0owner a_0code a_0isOver a_0all a_0some a_0isRuled a_0last a_0chosen a_0corner a_0wide a_0isKept a_0buffer a_0before a_0slots a_0cuts a_0aside known_0 length_0 (0 : Int32) s48.2.1 s1.2.2.2.2.2.2.1 seed_0 s59 s48.2.2.1 s_0 s48.2.2.2.1 s48.2.2.2.2.1 s48.2.2.2.2.2.1 s1.2.2.2.2.2.1 s1.2.2.2.2.2.2.2.1 s1.2.2.2.2.2.2.2.2.1 s1.2.2.2.2.2.2.2.2.2 s48.2.2.2.2.2.2.1 s48.2.2.2.2.2.2.2.1 s48.2.2.2.2.2.2.2.2.1 s48.2.2.2.2.2.2.2.2.2 isKept_0 buffer_0) → va_S A s.heap H locs → W p l e ({ frames := 4, cells := 0, slots := 0, locals := 115 } : Room) s m [.ref a_0].toArray below meth c H locs 0 0 QQ (F0 m 390 ls [.long j61, .ref a_0]) := by
              intro H locs ls hl hP hD hS
              obtain ⟨s62, h_s62, hf⟩ := hf_bind hf
              refine wh_callv (D := (dC, dI)) (ws' := (wl_fM_digest cI cZ cJ cQ a_0 a_0table a_0s a_0cells a_0owner a_0code a_0isOver a_0all a_0some a_0isRuled a_0last a_0chosen a_0corner a_0wide a_0isKept a_0buffer a_0before a_0slots a_0cuts a_0aside known_0 length_0 (0 : Int32) s48.2.1 s1.2.2.2.2.2.2.1 seed_0 s62 s48.2.2.1 s_0 s48.2.2.2.1 s48.2.2.2.2.1 s48.2.2.2.2.2.1 s1.2.2.2.2.2.1 s1.2.2.2.2.2.2.2.1 s1.2.2.2.2.2.2.2.2.1 s1.2.2.2.2.2.2.2.2.2 s48.2.2.2.2.2.2.1 s48.2.2.2.2.2.2.2.1 s48.2.2.2.2.2.2.2.2.1 s48.2.2.2.2.2.2.2.2.2 isKept_0 buffer_0)) (va_runV (As := [.long j61]) (rest := []) ⟨hx, hb, hml, hown, hts⟩ (c_fM_mix l dC dI cI cZ cJ cQ a_0 a_0s a_0before a_0slots a_0isKept a_0buffer a_0cells a_0owner a_0code a_0table a_0isOver a_0isRuled a_0all a_0some a_0chosen a_0last a_0corner a_0wide a_0cuts a_0aside known_0 length_0 (0 : Int32) s48.2.1 s1.2.2.2.2.2.2.1 seed_0 _ h_s62) (cwV 1 hts gX10_digest_X10_mix rfl rfl rfl (by decide +kernel) ⟨Nat.le_of_ble_eq_true rfl, Nat.le_of_ble_eq_true rfl⟩) (wh_preV (C := RX10) (T := TX10) (N := 26) hK hN hP hD [0] rfl rfl 10 0 rfl rfl) rfl rfl hl.1 rfl (lv_room (Nat.le_of_ble_eq_true rfl)) dX10_digest_390 ⟨Nat.le_refl _, Nat.le_refl _⟩) hP hD hS hA [0] [1, 2, 3, 4, 5, 6, 7, 8, 9, 10, 11, 12, 13, 14, 15] [15, 0, 1, 2, 3, 4, 5, 6, 7, 8, 9, 10, 11, 12, 13, 14] rfl rfl rfl rfl (fun H locs hP hD hS => ?_)
              refine lv_aload_n hx hb dX10_digest_393 rfl (lv_at hl 0 rfl) ?_
              refine lv_aload_n hx hb dX10_digest_394 rfl (lv_at hl 0 rfl) ?_
              refine va_get (D := (dC, dI)) (ci := 10) (C := RX10) (T := TX10) (N := 26) hx hb hts hiX10 hown hK hP 0 rfl rfl 4 (by decide) (hts (.fieldLink RX10 19 "PaddockFieldsModel" "isKept" "[Z") (List.mem_cons_of_mem _ (List.mem_append_left _ (List.mem_append_left _ (List.mem_of_getElem? (i := 11) rfl))))) (fun _ h9 => h9) rfl dX10_digest_395 ?_
              refine lv_iconst (v := 1) hx hb dX10_digest_398 (by decide) ?_
              obtain ⟨v63, h_v63, hf⟩ := hf_bind hf
              refine wh_ldZ (D := (dC, dI)) hx hb hK hP 14 1 rfl rfl h_v63 dX10_digest_399 ?_
              obtain ⟨j64, h_j64, hf⟩ := hf_bind hf
              have hJ_7 : ∀ (H : Heap) (locs : List Loc) (ls : Array Slot), lv_has ls 4 [(0, .ref a_0)] → va_P (dC, dI) vwCl (wl_fM_digest cI cZ cJ cQ a_0 a_0table a_0s a_0cells a_0owner a_0code a_0isOver a_0all a_0some a_0isRuled a_0last a_0chosen a_0corner a_0wide a_0isKept a_0buffer a_0before a_0slots a_0cuts a_0aside known_0 length_0 (0 : Int32) s48.2.1 s1.2.2.2.2.2.2.1 seed_0 s62 s48.2.2.1 s_0 s48.2.2.2.1 s48.2.2.2.2.1 s48.2.2.2.2.2.1 s1.2.2.2.2.2.1 s1.2.2.2.2.2.2.2.1 s1.2.2.2.2.2.2.2.2.1 s1.2.2.2.2.2.2.2.2.2 s48.2.2.2.2.2.2.1 s48.2.2.2.2.2.2.2.1 s48.2.2.2.2.2.2.2.2.1 s48.2.2.2.2.2.2.2.2.2 isKept_0 buffer_0) H → va_D A (wl_fM_digest cI cZ cJ cQ a_0 a_0table a_0s a_0cells a_0owner a_0code a_0isOver a_0all a_0some a_0isRuled a_0last a_0chosen a_0corner a_0wide a_0isKept a_0buffer a_0before a_0slots a_0cuts a_0aside known_0 length_0 (0 : Int32) s48.2.1 s1.2.2.2.2.2.2.1 seed_0 s62 s48.2.2.1 s_0 s48.2.2.2.1 s48.2.2.2.2.1 s48.2.2.2.2.2.1 s1.2.2.2.2.2.1 s1.2.2.2.2.2.2.2.1 s1.2.2.2.2.2.2.2.2.1 s1.2.2.2.2.2.2.2.2.2 s48.2.2.2.2.2.2.1 s48.2.2.2.2.2.2.2.1 s48.2.2.2.2.2.2.2.2.1 s48.2.2.2.2.2.2.2.2.2 isKept_0 buffer_0) → va_S A s.heap H locs → W p l e ({ frames := 4, cells := 0, slots := 0, locals := 115 } : Room) s m [.ref a_0].toArray below meth c H locs 0 0 QQ (F0 m 408 ls [.long j64, .ref a_0]) := by
                intro H locs ls hl hP hD hS
                obtain ⟨s65, h_s65, hf⟩ := hf_bind hf
                refine wh_callv (D := (dC, dI)) (ws' := (wl_fM_digest cI cZ cJ cQ a_0 a_0table a_0s a_0cells a_0owner a_0code a_0isOver a_0all a_0some a_0isRuled a_0last a_0chosen a_0corner a_0wide a_0isKept a_0buffer a_0before a_0slots a_0cuts a_0aside known_0 length_0 (0 : Int32) s48.2.1 s1.2.2.2.2.2.2.1 seed_0 s65 s48.2.2.1 s_0 s48.2.2.2.1 s48.2.2.2.2.1 s48.2.2.2.2.2.1 s1.2.2.2.2.2.1 s1.2.2.2.2.2.2.2.1 s1.2.2.2.2.2.2.2.2.1 s1.2.2.2.2.2.2.2.2.2 s48.2.2.2.2.2.2.1 s48.2.2.2.2.2.2.2.1 s48.2.2.2.2.2.2.2.2.1 s48.2.2.2.2.2.2.2.2.2 isKept_0 buffer_0)) (va_runV (As := [.long j64]) (rest := []) ⟨hx, hb, hml, hown, hts⟩ (c_fM_mix l dC dI cI cZ cJ cQ a_0 a_0s a_0before a_0slots a_0isKept a_0buffer a_0cells a_0owner a_0code a_0table a_0isOver a_0isRuled a_0all a_0some a_0chosen a_0last a_0corner a_0wide a_0cuts a_0aside known_0 length_0 (0 : Int32) s48.2.1 s1.2.2.2.2.2.2.1 seed_0 _ h_s65) (cwV 1 hts gX10_digest_X10_mix rfl rfl rfl (by decide +kernel) ⟨Nat.le_of_ble_eq_true rfl, Nat.le_of_ble_eq_true rfl⟩) (wh_preV (C := RX10) (T := TX10) (N := 26) hK hN hP hD [0] rfl rfl 10 0 rfl rfl) rfl rfl hl.1 rfl (lv_room (Nat.le_of_ble_eq_true rfl)) dX10_digest_408 ⟨Nat.le_refl _, Nat.le_refl _⟩) hP hD hS hA [0] [1, 2, 3, 4, 5, 6, 7, 8, 9, 10, 11, 12, 13, 14, 15] [15, 0, 1, 2, 3, 4, 5, 6, 7, 8, 9, 10, 11, 12, 13, 14] rfl rfl rfl rfl (fun H locs hP hD hS => ?_)
                refine lv_aload_n hx hb dX10_digest_411 rfl (lv_at hl 0 rfl) ?_
                refine lv_aload_n hx hb dX10_digest_412 rfl (lv_at hl 0 rfl) ?_
                refine va_get (D := (dC, dI)) (ci := 10) (C := RX10) (T := TX10) (N := 26) hx hb hts hiX10 hown hK hP 0 rfl rfl 6 (by decide) (hts (.fieldLink RX10 205 "PaddockFieldsModel" "length" "I") (List.mem_cons_of_mem _ (List.mem_append_left _ (List.mem_append_left _ (List.mem_of_getElem? (i := 12) rfl))))) (fun _ h9 => h9) rfl dX10_digest_413 ?_
                refine lv_i2l hx hb dX10_digest_416 rfl ?_
                obtain ⟨s66, h_s66, hf⟩ := hf_bind hf
                refine wh_callv (D := (dC, dI)) (ws' := (wl_fM_digest cI cZ cJ cQ a_0 a_0table a_0s a_0cells a_0owner a_0code a_0isOver a_0all a_0some a_0isRuled a_0last a_0chosen a_0corner a_0wide a_0isKept a_0buffer a_0before a_0slots a_0cuts a_0aside known_0 length_0 (0 : Int32) s48.2.1 s1.2.2.2.2.2.2.1 seed_0 s66 s48.2.2.1 s_0 s48.2.2.2.1 s48.2.2.2.2.1 s48.2.2.2.2.2.1 s1.2.2.2.2.2.1 s1.2.2.2.2.2.2.2.1 s1.2.2.2.2.2.2.2.2.1 s1.2.2.2.2.2.2.2.2.2 s48.2.2.2.2.2.2.1 s48.2.2.2.2.2.2.2.1 s48.2.2.2.2.2.2.2.2.1 s48.2.2.2.2.2.2.2.2.2 isKept_0 buffer_0)) (va_runV (As := [.long length_0.toInt64]) (rest := []) ⟨hx, hb, hml, hown, hts⟩ (c_fM_mix l dC dI cI cZ cJ cQ a_0 a_0s a_0before a_0slots a_0isKept a_0buffer a_0cells a_0owner a_0code a_0table a_0isOver a_0isRuled a_0all a_0some a_0chosen a_0last a_0corner a_0wide a_0cuts a_0aside known_0 length_0 (0 : Int32) s48.2.1 s1.2.2.2.2.2.2.1 seed_0 _ h_s66) (cwV 1 hts gX10_digest_X10_mix rfl rfl rfl (by decide +kernel) ⟨Nat.le_of_ble_eq_true rfl, Nat.le_of_ble_eq_true rfl⟩) (wh_preV (C := RX10) (T := TX10) (N := 26) hK hN hP hD [0] rfl rfl 10 0 rfl rfl) rfl rfl hl.1 rfl (lv_room (Nat.le_of_ble_eq_true rfl)) dX10_digest_417 ⟨Nat.le_refl _, Nat.le_refl _⟩) hP hD hS hA [0] [1, 2, 3, 4, 5, 6, 7, 8, 9, 10, 11, 12, 13, 14, 15] [15, 0, 1, 2, 3, 4, 5, 6, 7, 8, 9, 10, 11, 12, 13, 14] rfl rfl rfl rfl (fun H locs hP hD hS => ?_)
                refine lv_iconst (v := 0) hx hb dX10_digest_420 (by decide) ?_
                refine lv_istore_n (lv' := [(3, .int (0 : Int32)), (0, .ref a_0)]) hx hb dX10_digest_421 rfl hl (by decide) rfl (fun ls hl => ?_)
                obtain ⟨r69, h_r69, hf⟩ := hf_bind hf
                have hE_8 : ∀ (H : Heap) (locs : List Loc) (ls : Array Slot), lv_has ls 4 [(0, .ref a_0)] → va_P (dC, dI) vwCl (wl_fM_digest cI cZ cJ cQ a_0 a_0table a_0s a_0cells a_0owner a_0code a_0isOver a_0all a_0some a_0isRuled a_0last a_0chosen a_0corner a_0wide a_0isKept a_0buffer a_0before a_0slots a_0cuts a_0aside known_0 length_0 (0 : Int32) s48.2.1 s1.2.2.2.2.2.2.1 seed_0 r69.2 s48.2.2.1 s_0 s48.2.2.2.1 s48.2.2.2.2.1 s48.2.2.2.2.2.1 s1.2.2.2.2.2.1 s1.2.2.2.2.2.2.2.1 s1.2.2.2.2.2.2.2.2.1 s1.2.2.2.2.2.2.2.2.2 s48.2.2.2.2.2.2.1 s48.2.2.2.2.2.2.2.1 s48.2.2.2.2.2.2.2.2.1 s48.2.2.2.2.2.2.2.2.2 isKept_0 buffer_0) H → va_D A (wl_fM_digest cI cZ cJ cQ a_0 a_0table a_0s a_0cells a_0owner a_0code a_0isOver a_0all a_0some a_0isRuled a_0last a_0chosen a_0corner a_0wide a_0isKept a_0buffer a_0before a_0slots a_0cuts a_0aside known_0 length_0 (0 : Int32) s48.2.1 s1.2.2.2.2.2.2.1 seed_0 r69.2 s48.2.2.1 s_0 s48.2.2.2.1 s48.2.2.2.2.1 s48.2.2.2.2.2.1 s1.2.2.2.2.2.1 s1.2.2.2.2.2.2.2.1 s1.2.2.2.2.2.2.2.2.1 s1.2.2.2.2.2.2.2.2.2 s48.2.2.2.2.2.2.1 s48.2.2.2.2.2.2.2.1 s48.2.2.2.2.2.2.2.2.1 s48.2.2.2.2.2.2.2.2.2 isKept_0 buffer_0) → va_S A s.heap H locs → W p l e ({ frames := 4, cells := 0, slots := 0, locals := 115 } : Room) s m [.ref a_0].toArray below meth c H locs 0 0 QQ (F0 m 447 ls []) := by
                  intro H locs ls hl hP hD hS
                  refine lv_aload_n hx hb dX10_digest_447 rfl (lv_at hl 0 rfl) ?_
                  refine va_get (D := (dC, dI)) (ci := 10) (C := RX10) (T := TX10) (N := 26) hx hb hts hiX10 hown hK hP 0 rfl rfl 25 (by decide) (hts (.fieldLink RX10 246 "PaddockFieldsModel" "hash" "J") (List.mem_cons_of_mem _ (List.mem_append_left _ (List.mem_append_left _ (List.mem_of_getElem? (i := 2) rfl))))) (fun _ h9 => h9) rfl dX10_digest_448 ?_
                  obtain rfl := Option.some.inj hf
                  exact hret _ _ _ _ hP hD hS dX10_digest_451
                have hL_9 : ∀ (N : Nat) (l3_10 : Int32) (hash_0_11 : Int64), fM_digest_L422 F length_0 buffer_0 N l3_10 hash_0_11 = some r69 → ∀ (H : Heap) (locs : List Loc) (ls : Array Slot), lv_has ls 4 [(0, .ref a_0), (3, .int l3_10)] → va_P (dC, dI) vwCl (wl_fM_digest cI cZ cJ cQ a_0 a_0table a_0s a_0cells a_0owner a_0code a_0isOver a_0all a_0some a_0isRuled a_0last a_0chosen a_0corner a_0wide a_0isKept a_0buffer a_0before a_0slots a_0cuts a_0aside known_0 length_0 (0 : Int32) s48.2.1 s1.2.2.2.2.2.2.1 seed_0 hash_0_11 s48.2.2.1 s_0 s48.2.2.2.1 s48.2.2.2.2.1 s48.2.2.2.2.2.1 s1.2.2.2.2.2.1 s1.2.2.2.2.2.2.2.1 s1.2.2.2.2.2.2.2.2.1 s1.2.2.2.2.2.2.2.2.2 s48.2.2.2.2.2.2.1 s48.2.2.2.2.2.2.2.1 s48.2.2.2.2.2.2.2.2.1 s48.2.2.2.2.2.2.2.2.2 isKept_0 buffer_0) H → va_D A (wl_fM_digest cI cZ cJ cQ a_0 a_0table a_0s a_0cells a_0owner a_0code a_0isOver a_0all a_0some a_0isRuled a_0last a_0chosen a_0corner a_0wide a_0isKept a_0buffer a_0before a_0slots a_0cuts a_0aside known_0 length_0 (0 : Int32) s48.2.1 s1.2.2.2.2.2.2.1 seed_0 hash_0_11 s48.2.2.1 s_0 s48.2.2.2.1 s48.2.2.2.2.1 s48.2.2.2.2.2.1 s1.2.2.2.2.2.1 s1.2.2.2.2.2.2.2.1 s1.2.2.2.2.2.2.2.2.1 s1.2.2.2.2.2.2.2.2.2 s48.2.2.2.2.2.2.1 s48.2.2.2.2.2.2.2.1 s48.2.2.2.2.2.2.2.2.1 s48.2.2.2.2.2.2.2.2.2 isKept_0 buffer_0) → va_S A s.heap H locs → W p l e ({ frames := 4, cells := 0, slots := 0, locals := 115 } : Room) s m [.ref a_0].toArray below meth c H locs 0 0 QQ (F0 m 422 ls []) := by
                  intro N
                  induction N with
                  | zero => intro l3_10 hash_0_11 hf; exact nomatch (show none = some _ from hf)
                  | succ N ih =>
                    intro l3_10 hash_0_11 hf H locs ls hl hP hD hS
                    rw [fM_digest_L422] at hf
                    refine lv_iload_n hx hb dX10_digest_422 rfl (lv_at hl 1 rfl) ?_
                    refine lv_aload_n hx hb dX10_digest_423 rfl (lv_at hl 0 rfl) ?_
                    refine va_get (D := (dC, dI)) (ci := 10) (C := RX10) (T := TX10) (N := 26) hx hb hts hiX10 hown hK hP 0 rfl rfl 6 (by decide) (hts (.fieldLink RX10 205 "PaddockFieldsModel" "length" "I") (List.mem_cons_of_mem _ (List.mem_append_left _ (List.mem_append_left _ (List.mem_of_getElem? (i := 12) rfl))))) (fun _ h9 => h9) rfl dX10_digest_424 ?_
                    refine lv_icmp_ge (tgt := 447) hx hb dX10_digest_427 (by decide) (fun cc => ?_) (fun cc => ?_)
                    · replace hf := hf_pos cc hf
                      obtain rfl := Option.some.inj hf
                      exact hE_8 _ _ _ (lv_sub hl [0] rfl) hP hD hS
                    · replace hf := hf_neg cc hf
                      refine lv_aload_n hx hb dX10_digest_430 rfl (lv_at hl 0 rfl) ?_
                      refine lv_aload_n hx hb dX10_digest_431 rfl (lv_at hl 0 rfl) ?_
                      refine va_get (D := (dC, dI)) (ci := 10) (C := RX10) (T := TX10) (N := 26) hx hb hts hiX10 hown hK hP 0 rfl rfl 5 (by decide) (hts (.fieldLink RX10 23 "PaddockFieldsModel" "buffer" "[I") (List.mem_cons_of_mem _ (List.mem_append_left _ (List.mem_append_left _ (List.mem_of_getElem? (i := 13) rfl))))) (fun _ h9 => h9) rfl dX10_digest_432 ?_
                      refine lv_iload_n hx hb dX10_digest_435 rfl (lv_at hl 1 rfl) ?_
                      obtain ⟨v67, h_v67, hf⟩ := hf_bind hf
                      refine wh_ldI (D := (dC, dI)) hx hb hK hP 15 0 rfl rfl h_v67 dX10_digest_436 ?_
                      refine lv_i2l hx hb dX10_digest_437 rfl ?_
                      obtain ⟨s68, h_s68, hf⟩ := hf_bind hf
                      refine wh_callv (D := (dC, dI)) (ws' := (wl_fM_digest cI cZ cJ cQ a_0 a_0table a_0s a_0cells a_0owner a_0code a_0isOver a_0all a_0some a_0isRuled a_0last a_0chosen a_0corner a_0wide a_0isKept a_0buffer a_0before a_0slots a_0cuts a_0aside known_0 length_0 (0 : Int32) s48.2.1 s1.2.2.2.2.2.2.1 seed_0 s68 s48.2.2.1 s_0 s48.2.2.2.1 s48.2.2.2.2.1 s48.2.2.2.2.2.1 s1.2.2.2.2.2.1 s1.2.2.2.2.2.2.2.1 s1.2.2.2.2.2.2.2.2.1 s1.2.2.2.2.2.2.2.2.2 s48.2.2.2.2.2.2.1 s48.2.2.2.2.2.2.2.1 s48.2.2.2.2.2.2.2.2.1 s48.2.2.2.2.2.2.2.2.2 isKept_0 buffer_0)) (va_runV (As := [.long v67.toInt64]) (rest := []) ⟨hx, hb, hml, hown, hts⟩ (c_fM_mix l dC dI cI cZ cJ cQ a_0 a_0s a_0before a_0slots a_0isKept a_0buffer a_0cells a_0owner a_0code a_0table a_0isOver a_0isRuled a_0all a_0some a_0chosen a_0last a_0corner a_0wide a_0cuts a_0aside known_0 length_0 (0 : Int32) s48.2.1 s1.2.2.2.2.2.2.1 seed_0 _ h_s68) (cwV 1 hts gX10_digest_X10_mix rfl rfl rfl (by decide +kernel) ⟨Nat.le_of_ble_eq_true rfl, Nat.le_of_ble_eq_true rfl⟩) (wh_preV (C := RX10) (T := TX10) (N := 26) hK hN hP hD [0] rfl rfl 10 0 rfl rfl) rfl rfl hl.1 rfl (lv_room (Nat.le_of_ble_eq_true rfl)) dX10_digest_438 ⟨Nat.le_refl _, Nat.le_refl _⟩) hP hD hS hA [0] [1, 2, 3, 4, 5, 6, 7, 8, 9, 10, 11, 12, 13, 14, 15] [15, 0, 1, 2, 3, 4, 5, 6, 7, 8, 9, 10, 11, 12, 13, 14] rfl rfl rfl rfl (fun H locs hP hD hS => ?_)
                      refine lv_iinc (v := (l3_10 + (1 : Int32))) (lv' := [(3, .int (l3_10 + (1 : Int32))), (0, .ref a_0)]) hx hb dX10_digest_441 hl (k := 1) rfl rfl (by decide) rfl (fun ls hl => ?_)
                      refine lv_goto (tgt := 422) hx hb dX10_digest_444 (by decide) ?_
                      exact ih _ _ hf _ _ _ (lv_sub hl [1, 0] rfl) hP hD hS
                exact hL_9 _ _ _ h_r69 _ _ _ (lv_sub hl [1, 0] rfl) hP hD hS
              clear hf
              have hf := h_j64
              clear h_j64
              refine lv_if_eq (tgt := 407) hx hb dX10_digest_400 (by decide) (fun cc => ?_) (fun cc => ?_)
              · replace hf := hf_pos cc hf
                refine lv_lconst (v := 0) hx hb dX10_digest_407 (by decide) ?_
                obtain rfl := Option.some.inj hf
                exact hJ_7 _ _ _ (lv_sub hl [0] rfl) hP hD hS
              · replace hf := hf_neg cc hf
                refine lv_lconst (v := 1) hx hb dX10_digest_403 (by decide) ?_
                refine lv_goto (tgt := 408) hx hb dX10_digest_404 (by decide) ?_
                obtain rfl := Option.some.inj hf
                exact hJ_7 _ _ _ (lv_sub hl [0] rfl) hP hD hS
            clear hf
            have hf := h_j61
            clear h_j61
            refine lv_if_eq (tgt := 389) hx hb dX10_digest_382 (by decide) (fun cc => ?_) (fun cc => ?_)
            · replace hf := hf_pos cc hf
              refine lv_lconst (v := 0) hx hb dX10_digest_389 (by decide) ?_
              obtain rfl := Option.some.inj hf
              exact hJ_6 _ _ _ (lv_sub hl [0] rfl) hP hD hS
            · replace hf := hf_neg cc hf
              refine lv_lconst (v := 1) hx hb dX10_digest_385 (by decide) ?_
              refine lv_goto (tgt := 390) hx hb dX10_digest_386 (by decide) ?_
              obtain rfl := Option.some.inj hf
              exact hJ_6 _ _ _ (lv_sub hl [0] rfl) hP hD hS
          have hL_12 : ∀ (N : Nat) (l3_13 : Int32) (hash_0_14 : Int64), fM_digest_L312 F s48.1 s48.2.2.2.2.2.2.2.2.1 s48.2.2.2.2.2.2.2.2.2 N l3_13 hash_0_14 = some r55 → ∀ (H : Heap) (locs : List Loc) (ls : Array Slot), lv_has ls 4 [(0, .ref a_0), (2, .int s48.1), (3, .int l3_13)] → va_P (dC, dI) vwCl (wl_fM_digest cI cZ cJ cQ a_0 a_0table a_0s a_0cells a_0owner a_0code a_0isOver a_0all a_0some a_0isRuled a_0last a_0chosen a_0corner a_0wide a_0isKept a_0buffer a_0before a_0slots a_0cuts a_0aside known_0 length_0 (0 : Int32) s48.2.1 s1.2.2.2.2.2.2.1 seed_0 hash_0_14 s48.2.2.1 s_0 s48.2.2.2.1 s48.2.2.2.2.1 s48.2.2.2.2.2.1 s1.2.2.2.2.2.1 s1.2.2.2.2.2.2.2.1 s1.2.2.2.2.2.2.2.2.1 s1.2.2.2.2.2.2.2.2.2 s48.2.2.2.2.2.2.1 s48.2.2.2.2.2.2.2.1 s48.2.2.2.2.2.2.2.2.1 s48.2.2.2.2.2.2.2.2.2 isKept_0 buffer_0) H → va_D A (wl_fM_digest cI cZ cJ cQ a_0 a_0table a_0s a_0cells a_0owner a_0code a_0isOver a_0all a_0some a_0isRuled a_0last a_0chosen a_0corner a_0wide a_0isKept a_0buffer a_0before a_0slots a_0cuts a_0aside known_0 length_0 (0 : Int32) s48.2.1 s1.2.2.2.2.2.2.1 seed_0 hash_0_14 s48.2.2.1 s_0 s48.2.2.2.1 s48.2.2.2.2.1 s48.2.2.2.2.2.1 s1.2.2.2.2.2.1 s1.2.2.2.2.2.2.2.1 s1.2.2.2.2.2.2.2.2.1 s1.2.2.2.2.2.2.2.2.2 s48.2.2.2.2.2.2.1 s48.2.2.2.2.2.2.2.1 s48.2.2.2.2.2.2.2.2.1 s48.2.2.2.2.2.2.2.2.2 isKept_0 buffer_0) → va_S A s.heap H locs → W p l e ({ frames := 4, cells := 0, slots := 0, locals := 115 } : Room) s m [.ref a_0].toArray below meth c H locs 0 0 QQ (F0 m 312 ls []) := by
            intro N
            induction N with
            | zero => intro l3_13 hash_0_14 hf; exact nomatch (show none = some _ from hf)
            | succ N ih =>
              intro l3_13 hash_0_14 hf H locs ls hl hP hD hS
              rw [fM_digest_L312] at hf
              refine lv_iload_n hx hb dX10_digest_312 rfl (lv_at hl 2 rfl) ?_
              refine lv_bipush (v := 42) hx hb dX10_digest_313 (by decide) ?_
              refine lv_icmp_ge (tgt := 350) hx hb dX10_digest_315 (by decide) (fun cc => ?_) (fun cc => ?_)
              · replace hf := hf_pos cc hf
                obtain rfl := Option.some.inj hf
                exact hE_5 _ _ _ (lv_sub hl [0] rfl) hP hD hS
              · replace hf := hf_neg cc hf
                refine lv_iload_n hx hb dX10_digest_318 rfl (lv_at hl 1 rfl) ?_
                refine lv_if_le (tgt := 350) hx hb dX10_digest_319 (by decide) (fun cc => ?_) (fun cc => ?_)
                · replace hf := hf_pos cc hf
                  obtain rfl := Option.some.inj hf
                  exact hE_5 _ _ _ (lv_sub hl [0] rfl) hP hD hS
                · replace hf := hf_neg cc hf
                  refine lv_aload_n hx hb dX10_digest_322 rfl (lv_at hl 0 rfl) ?_
                  refine lv_aload_n hx hb dX10_digest_323 rfl (lv_at hl 0 rfl) ?_
                  refine va_get (D := (dC, dI)) (ci := 10) (C := RX10) (T := TX10) (N := 26) hx hb hts hiX10 hown hK hP 0 rfl rfl 21 (by decide) (hts (.fieldLink RX10 60 "PaddockFieldsModel" "wide" "[I") (List.mem_cons_of_mem _ (List.mem_append_left _ (List.mem_append_left _ (List.mem_of_getElem? (i := 8) rfl))))) (fun _ h9 => h9) rfl dX10_digest_324 ?_
                  refine lv_iload_n hx hb dX10_digest_327 rfl (lv_at hl 2 rfl) ?_
                  obtain ⟨v51, h_v51, hf⟩ := hf_bind hf
                  refine wh_ldI (D := (dC, dI)) hx hb hK hP 13 0 rfl rfl h_v51 dX10_digest_328 ?_
                  refine lv_i2l hx hb dX10_digest_329 rfl ?_
                  obtain ⟨s52, h_s52, hf⟩ := hf_bind hf
                  refine wh_callv (D := (dC, dI)) (ws' := (wl_fM_digest cI cZ cJ cQ a_0 a_0table a_0s a_0cells a_0owner a_0code a_0isOver a_0all a_0some a_0isRuled a_0last a_0chosen a_0corner a_0wide a_0isKept a_0buffer a_0before a_0slots a_0cuts a_0aside known_0 length_0 (0 : Int32) s48.2.1 s1.2.2.2.2.2.2.1 seed_0 s52 s48.2.2.1 s_0 s48.2.2.2.1 s48.2.2.2.2.1 s48.2.2.2.2.2.1 s1.2.2.2.2.2.1 s1.2.2.2.2.2.2.2.1 s1.2.2.2.2.2.2.2.2.1 s1.2.2.2.2.2.2.2.2.2 s48.2.2.2.2.2.2.1 s48.2.2.2.2.2.2.2.1 s48.2.2.2.2.2.2.2.2.1 s48.2.2.2.2.2.2.2.2.2 isKept_0 buffer_0)) (va_runV (As := [.long v51.toInt64]) (rest := []) ⟨hx, hb, hml, hown, hts⟩ (c_fM_mix l dC dI cI cZ cJ cQ a_0 a_0s a_0before a_0slots a_0isKept a_0buffer a_0cells a_0owner a_0code a_0table a_0isOver a_0isRuled a_0all a_0some a_0chosen a_0last a_0corner a_0wide a_0cuts a_0aside known_0 length_0 (0 : Int32) s48.2.1 s1.2.2.2.2.2.2.1 seed_0 _ h_s52) (cwV 1 hts gX10_digest_X10_mix rfl rfl rfl (by decide +kernel) ⟨Nat.le_of_ble_eq_true rfl, Nat.le_of_ble_eq_true rfl⟩) (wh_preV (C := RX10) (T := TX10) (N := 26) hK hN hP hD [0] rfl rfl 10 0 rfl rfl) rfl rfl hl.1 rfl (lv_room (Nat.le_of_ble_eq_true rfl)) dX10_digest_330 ⟨Nat.le_refl _, Nat.le_refl _⟩) hP hD hS hA [0] [1, 2, 3, 4, 5, 6, 7, 8, 9, 10, 11, 12, 13, 14, 15] [15, 0, 1, 2, 3, 4, 5, 6, 7, 8, 9, 10, 11, 12, 13, 14] rfl rfl rfl rfl (fun H locs hP hD hS => ?_)
                  refine lv_aload_n hx hb dX10_digest_333 rfl (lv_at hl 0 rfl) ?_
                  refine lv_aload_n hx hb dX10_digest_334 rfl (lv_at hl 0 rfl) ?_
                  refine va_get (D := (dC, dI)) (ci := 10) (C := RX10) (T := TX10) (N := 26) hx hb hts hiX10 hown hK hP 0 rfl rfl 20 (by decide) (hts (.fieldLink RX10 57 "PaddockFieldsModel" "corner" "[I") (List.mem_cons_of_mem _ (List.mem_append_left _ (List.mem_append_left _ (List.mem_of_getElem? (i := 9) rfl))))) (fun _ h9 => h9) rfl dX10_digest_335 ?_
                  refine lv_iload_n hx hb dX10_digest_338 rfl (lv_at hl 2 rfl) ?_
                  obtain ⟨v53, h_v53, hf⟩ := hf_bind hf
                  refine wh_ldI (D := (dC, dI)) hx hb hK hP 12 0 rfl rfl h_v53 dX10_digest_339 ?_
                  refine lv_i2l hx hb dX10_digest_340 rfl ?_
                  obtain ⟨s54, h_s54, hf⟩ := hf_bind hf
                  refine wh_callv (D := (dC, dI)) (ws' := (wl_fM_digest cI cZ cJ cQ a_0 a_0table a_0s a_0cells a_0owner a_0code a_0isOver a_0all a_0some a_0isRuled a_0last a_0chosen a_0corner a_0wide a_0isKept a_0buffer a_0before a_0slots a_0cuts a_0aside known_0 length_0 (0 : Int32) s48.2.1 s1.2.2.2.2.2.2.1 seed_0 s54 s48.2.2.1 s_0 s48.2.2.2.1 s48.2.2.2.2.1 s48.2.2.2.2.2.1 s1.2.2.2.2.2.1 s1.2.2.2.2.2.2.2.1 s1.2.2.2.2.2.2.2.2.1 s1.2.2.2.2.2.2.2.2.2 s48.2.2.2.2.2.2.1 s48.2.2.2.2.2.2.2.1 s48.2.2.2.2.2.2.2.2.1 s48.2.2.2.2.2.2.2.2.2 isKept_0 buffer_0)) (va_runV (As := [.long v53.toInt64]) (rest := []) ⟨hx, hb, hml, hown, hts⟩ (c_fM_mix l dC dI cI cZ cJ cQ a_0 a_0s a_0before a_0slots a_0isKept a_0buffer a_0cells a_0owner a_0code a_0table a_0isOver a_0isRuled a_0all a_0some a_0chosen a_0last a_0corner a_0wide a_0cuts a_0aside known_0 length_0 (0 : Int32) s48.2.1 s1.2.2.2.2.2.2.1 seed_0 _ h_s54) (cwV 1 hts gX10_digest_X10_mix rfl rfl rfl (by decide +kernel) ⟨Nat.le_of_ble_eq_true rfl, Nat.le_of_ble_eq_true rfl⟩) (wh_preV (C := RX10) (T := TX10) (N := 26) hK hN hP hD [0] rfl rfl 10 0 rfl rfl) rfl rfl hl.1 rfl (lv_room (Nat.le_of_ble_eq_true rfl)) dX10_digest_341 ⟨Nat.le_refl _, Nat.le_refl _⟩) hP hD hS hA [0] [1, 2, 3, 4, 5, 6, 7, 8, 9, 10, 11, 12, 13, 14, 15] [15, 0, 1, 2, 3, 4, 5, 6, 7, 8, 9, 10, 11, 12, 13, 14] rfl rfl rfl rfl (fun H locs hP hD hS => ?_)
                  refine lv_iinc (v := (l3_13 + (1 : Int32))) (lv' := [(3, .int (l3_13 + (1 : Int32))), (0, .ref a_0), (2, .int s48.1)]) hx hb dX10_digest_344 hl (k := 2) rfl rfl (by decide) rfl (fun ls hl => ?_)
                  refine lv_goto (tgt := 312) hx hb dX10_digest_347 (by decide) ?_
                  exact ih _ _ hf _ _ _ (lv_sub hl [1, 2, 0] rfl) hP hD hS
          exact hL_12 _ _ _ h_r55 _ _ _ (lv_sub hl [2, 1, 0] rfl) hP hD hS
        clear hf
        have hf := h_j46
        clear h_j46
        refine lv_if_eq (tgt := 281) hx hb dX10_digest_274 (by decide) (fun cc => ?_) (fun cc => ?_)
        · replace hf := hf_pos cc hf
          refine lv_aload_n hx hb dX10_digest_281 rfl (lv_at hl 0 rfl) ?_
          obtain ⟨s45, h_s45, hf⟩ := hf_bind hf
          refine wh_calli (D := (dC, dI)) (ws' := (wl_fM_digest cI cZ cJ cQ a_0 a_0table a_0s a_0cells a_0owner a_0code a_0isOver a_0all a_0some a_0isRuled a_0last a_0chosen a_0corner a_0wide a_0isKept a_0buffer a_0before a_0slots a_0cuts a_0aside known_0 length_0 (0 : Int32) s1.1 s1.2.2.2.2.2.2.1 seed_0 s44 s1.2.1 s_0 s1.2.2.1 s1.2.2.2.1 s1.2.2.2.2.1 s1.2.2.2.2.2.1 s1.2.2.2.2.2.2.2.1 s1.2.2.2.2.2.2.2.2.1 s1.2.2.2.2.2.2.2.2.2 last_0 chosen_0 corner_0 wide_0 isKept_0 buffer_0)) (va_runV (As := []) (rest := [.ref a_0]) ⟨hx, hb, hml, hown, hts⟩ (c_fM_firstSure l dC dI cI cZ cJ cQ a_0 a_0s a_0owner a_0isOver a_0before a_0slots a_0isKept a_0buffer a_0cells a_0code a_0table a_0isRuled a_0all a_0some a_0chosen a_0last a_0corner a_0wide a_0cuts a_0aside known_0 length_0 (0 : Int32) s1.2.2.2.2.2.2.1 seed_0 s44 _ h_s45) (cwV 0 hts gX10_digest_X10_firstSure rfl rfl rfl (by decide +kernel) ⟨Nat.le_of_ble_eq_true rfl, Nat.le_of_ble_eq_true rfl⟩) (wh_preV (C := RX10) (T := TX10) (N := 26) hK hN hP hD [0, 2, 4, 6] rfl rfl 10 0 rfl rfl) rfl rfl hl.1 rfl (lv_room (Nat.le_of_ble_eq_true rfl)) dX10_digest_282 ⟨Nat.le_refl _, Nat.le_refl _⟩) hP hD hS hA [0, 2, 4, 6] [1, 3, 5, 7, 8, 9, 10, 11, 12, 13, 14, 15] [12, 0, 13, 1, 14, 2, 15, 3, 4, 5, 6, 7, 8, 9, 10, 11] rfl rfl rfl rfl (fun H locs hP hD hS => ?_)
          refine lv_iconst (v := 1) hx hb dX10_digest_285 (by decide) ?_
          refine lv_iadd hx hb dX10_digest_286 ?_
          refine lv_i2l hx hb dX10_digest_287 rfl ?_
          obtain rfl := Option.some.inj hf
          exact hJ_4 _ _ _ (lv_sub hl [0] rfl) hP hD hS
        · replace hf := hf_neg cc hf
          refine lv_lconst (v := 0) hx hb dX10_digest_277 (by decide) ?_
          refine lv_goto (tgt := 288) hx hb dX10_digest_278 (by decide) ?_
          obtain rfl := Option.some.inj hf
          exact hJ_4 _ _ _ (lv_sub hl [0] rfl) hP hD hS
      clear hf
      have hf := h_j43
      clear h_j43
      refine lv_if_eq (tgt := 262) hx hb dX10_digest_255 (by decide) (fun cc => ?_) (fun cc => ?_)
      · replace hf := hf_pos cc hf
        refine lv_aload_n hx hb dX10_digest_262 rfl (lv_at hl 0 rfl) ?_
        obtain ⟨s42, h_s42, hf⟩ := hf_bind hf
        refine wh_calli (D := (dC, dI)) (ws' := (wl_fM_digest cI cZ cJ cQ a_0 a_0table a_0s a_0cells a_0owner a_0code a_0isOver a_0all a_0some a_0isRuled a_0last a_0chosen a_0corner a_0wide a_0isKept a_0buffer a_0before a_0slots a_0cuts a_0aside known_0 length_0 (0 : Int32) s1.1 s1.2.2.2.2.2.2.1 seed_0 s41 s1.2.1 s_0 s1.2.2.1 s1.2.2.2.1 s1.2.2.2.2.1 s1.2.2.2.2.2.1 s1.2.2.2.2.2.2.2.1 s1.2.2.2.2.2.2.2.2.1 s1.2.2.2.2.2.2.2.2.2 last_0 chosen_0 corner_0 wide_0 isKept_0 buffer_0)) (va_runV (As := []) (rest := [.ref a_0]) ⟨hx, hb, hml, hown, hts⟩ (c_fM_sure l dC dI cI cZ cJ cQ a_0 a_0s a_0owner a_0isOver a_0before a_0slots a_0isKept a_0buffer a_0cells a_0code a_0table a_0isRuled a_0all a_0some a_0chosen a_0last a_0corner a_0wide a_0cuts a_0aside known_0 length_0 (0 : Int32) s1.2.2.2.2.2.2.1 seed_0 s41 _ h_s42) (cwV 0 hts gX10_digest_X10_sure rfl rfl rfl (by decide +kernel) ⟨Nat.le_of_ble_eq_true rfl, Nat.le_of_ble_eq_true rfl⟩) (wh_preV (C := RX10) (T := TX10) (N := 26) hK hN hP hD [0, 2, 4, 6] rfl rfl 10 0 rfl rfl) rfl rfl hl.1 rfl (lv_room (Nat.le_of_ble_eq_true rfl)) dX10_digest_263 ⟨Nat.le_refl _, Nat.le_refl _⟩) hP hD hS hA [0, 2, 4, 6] [1, 3, 5, 7, 8, 9, 10, 11, 12, 13, 14, 15] [12, 0, 13, 1, 14, 2, 15, 3, 4, 5, 6, 7, 8, 9, 10, 11] rfl rfl rfl rfl (fun H locs hP hD hS => ?_)
        refine lv_iconst (v := 1) hx hb dX10_digest_266 (by decide) ?_
        refine lv_iadd hx hb dX10_digest_267 ?_
        refine lv_i2l hx hb dX10_digest_268 rfl ?_
        obtain rfl := Option.some.inj hf
        exact hJ_3 _ _ _ (lv_sub hl [0, 1] rfl) hP hD hS
      · replace hf := hf_neg cc hf
        refine lv_lconst (v := 0) hx hb dX10_digest_258 (by decide) ?_
        refine lv_goto (tgt := 269) hx hb dX10_digest_259 (by decide) ?_
        obtain rfl := Option.some.inj hf
        exact hJ_3 _ _ _ (lv_sub hl [0, 1] rfl) hP hD hS
    clear hf
    have hf := h_j40
    clear h_j40
    refine lv_if_eq (tgt := 249) hx hb dX10_digest_242 (by decide) (fun cc => ?_) (fun cc => ?_)
    · replace hf := hf_pos cc hf
      refine lv_lconst (v := 0) hx hb dX10_digest_249 (by decide) ?_
      obtain rfl := Option.some.inj hf
      exact hJ_2 _ _ _ (lv_sub hl [1, 0] rfl) hP hD hS
    · replace hf := hf_neg cc hf
      refine lv_lconst (v := 1) hx hb dX10_digest_245 (by decide) ?_
      refine lv_goto (tgt := 250) hx hb dX10_digest_246 (by decide) ?_
      obtain rfl := Option.some.inj hf
      exact hJ_2 _ _ _ (lv_sub hl [1, 0] rfl) hP hD hS
  have hL_15 : ∀ (N : Nat) (l1_16 : Int32) (hash_0_17 : Int64), fM_digest_L18 F s1.1 s_0 s1.2.2.1 s1.2.2.2.1 s1.2.2.2.2.1 s1.2.2.2.2.2.1 N l1_16 hash_0_17 = some r24 → ∀ (H : Heap) (locs : List Loc) (ls : Array Slot), lv_has ls 4 [(0, .ref a_0), (1, .int l1_16)] → va_P (dC, dI) vwCl (wl_fM_digest cI cZ cJ cQ a_0 a_0table a_0s a_0cells a_0owner a_0code a_0isOver a_0all a_0some a_0isRuled a_0last a_0chosen a_0corner a_0wide a_0isKept a_0buffer a_0before a_0slots a_0cuts a_0aside known_0 length_0 (0 : Int32) s1.1 s1.2.2.2.2.2.2.1 seed_0 hash_0_17 s1.2.1 s_0 s1.2.2.1 s1.2.2.2.1 s1.2.2.2.2.1 s1.2.2.2.2.2.1 s1.2.2.2.2.2.2.2.1 s1.2.2.2.2.2.2.2.2.1 s1.2.2.2.2.2.2.2.2.2 last_0 chosen_0 corner_0 wide_0 isKept_0 buffer_0) H → va_D A (wl_fM_digest cI cZ cJ cQ a_0 a_0table a_0s a_0cells a_0owner a_0code a_0isOver a_0all a_0some a_0isRuled a_0last a_0chosen a_0corner a_0wide a_0isKept a_0buffer a_0before a_0slots a_0cuts a_0aside known_0 length_0 (0 : Int32) s1.1 s1.2.2.2.2.2.2.1 seed_0 hash_0_17 s1.2.1 s_0 s1.2.2.1 s1.2.2.2.1 s1.2.2.2.2.1 s1.2.2.2.2.2.1 s1.2.2.2.2.2.2.2.1 s1.2.2.2.2.2.2.2.2.1 s1.2.2.2.2.2.2.2.2.2 last_0 chosen_0 corner_0 wide_0 isKept_0 buffer_0) → va_S A s.heap H locs → W p l e ({ frames := 4, cells := 0, slots := 0, locals := 115 } : Room) s m [.ref a_0].toArray below meth c H locs 0 0 QQ (F0 m 18 ls []) := by
    intro N
    induction N with
    | zero => intro l1_16 hash_0_17 hf; exact nomatch (show none = some _ from hf)
    | succ N ih =>
      intro l1_16 hash_0_17 hf H locs ls hl hP hD hS
      rw [fM_digest_L18] at hf
      refine lv_iload_n hx hb dX10_digest_18 rfl (lv_at hl 1 rfl) ?_
      refine lv_bipush (v := 42) hx hb dX10_digest_19 (by decide) ?_
      refine lv_icmp_ge (tgt := 163) hx hb dX10_digest_21 (by decide) (fun cc => ?_) (fun cc => ?_)
      · replace hf := hf_pos cc hf
        obtain rfl := Option.some.inj hf
        exact hE_1 _ _ _ (lv_sub hl [0] rfl) hP hD hS
      · replace hf := hf_neg cc hf
        refine lv_aload_n hx hb dX10_digest_24 rfl (lv_at hl 0 rfl) ?_
        refine lv_aload_n hx hb dX10_digest_25 rfl (lv_at hl 0 rfl) ?_
        refine va_get (D := (dC, dI)) (ci := 10) (C := RX10) (T := TX10) (N := 26) hx hb hts hiX10 hown hK hP 0 rfl rfl 0 (by decide) (hts (.fieldLink RX10 7 "PaddockFieldsModel" "s" "[I") (List.mem_cons_of_mem _ (List.mem_append_left _ (List.mem_append_left _ (List.mem_of_getElem? (i := 3) rfl))))) (fun _ h9 => h9) rfl dX10_digest_26 ?_
        refine lv_iload_n hx hb dX10_digest_29 rfl (lv_at hl 1 rfl) ?_
        obtain ⟨v2, h_v2, hf⟩ := hf_bind hf
        refine wh_ldI (D := (dC, dI)) hx hb hK hP 2 0 rfl rfl h_v2 dX10_digest_30 ?_
        refine lv_i2l hx hb dX10_digest_31 rfl ?_
        obtain ⟨s3, h_s3, hf⟩ := hf_bind hf
        refine wh_callv (D := (dC, dI)) (ws' := (wl_fM_digest cI cZ cJ cQ a_0 a_0table a_0s a_0cells a_0owner a_0code a_0isOver a_0all a_0some a_0isRuled a_0last a_0chosen a_0corner a_0wide a_0isKept a_0buffer a_0before a_0slots a_0cuts a_0aside known_0 length_0 (0 : Int32) s1.1 s1.2.2.2.2.2.2.1 seed_0 s3 s1.2.1 s_0 s1.2.2.1 s1.2.2.2.1 s1.2.2.2.2.1 s1.2.2.2.2.2.1 s1.2.2.2.2.2.2.2.1 s1.2.2.2.2.2.2.2.2.1 s1.2.2.2.2.2.2.2.2.2 last_0 chosen_0 corner_0 wide_0 isKept_0 buffer_0)) (va_runV (As := [.long v2.toInt64]) (rest := []) ⟨hx, hb, hml, hown, hts⟩ (c_fM_mix l dC dI cI cZ cJ cQ a_0 a_0s a_0before a_0slots a_0isKept a_0buffer a_0cells a_0owner a_0code a_0table a_0isOver a_0isRuled a_0all a_0some a_0chosen a_0last a_0corner a_0wide a_0cuts a_0aside known_0 length_0 (0 : Int32) s1.1 s1.2.2.2.2.2.2.1 seed_0 _ h_s3) (cwV 1 hts gX10_digest_X10_mix rfl rfl rfl (by decide +kernel) ⟨Nat.le_of_ble_eq_true rfl, Nat.le_of_ble_eq_true rfl⟩) (wh_preV (C := RX10) (T := TX10) (N := 26) hK hN hP hD [0] rfl rfl 10 0 rfl rfl) rfl rfl hl.1 rfl (lv_room (Nat.le_of_ble_eq_true rfl)) dX10_digest_32 ⟨Nat.le_refl _, Nat.le_refl _⟩) hP hD hS hA [0] [1, 2, 3, 4, 5, 6, 7, 8, 9, 10, 11, 12, 13, 14, 15] [15, 0, 1, 2, 3, 4, 5, 6, 7, 8, 9, 10, 11, 12, 13, 14] rfl rfl rfl rfl (fun H locs hP hD hS => ?_)
        refine lv_aload_n hx hb dX10_digest_35 rfl (lv_at hl 0 rfl) ?_
        refine lv_aload_n hx hb dX10_digest_36 rfl (lv_at hl 0 rfl) ?_
        refine va_get (D := (dC, dI)) (ci := 10) (C := RX10) (T := TX10) (N := 26) hx hb hts hiX10 hown hK hP 0 rfl rfl 0 (by decide) (hts (.fieldLink RX10 7 "PaddockFieldsModel" "s" "[I") (List.mem_cons_of_mem _ (List.mem_append_left _ (List.mem_append_left _ (List.mem_of_getElem? (i := 3) rfl))))) (fun _ h9 => h9) rfl dX10_digest_37 ?_
        refine lv_bipush (v := 42) hx hb dX10_digest_40 (by decide) ?_
        refine lv_iload_n hx hb dX10_digest_42 rfl (lv_at hl 1 rfl) ?_
        refine lv_iadd hx hb dX10_digest_43 ?_
        obtain ⟨v4, h_v4, hf⟩ := hf_bind hf
        refine wh_ldI (D := (dC, dI)) hx hb hK hP 2 0 rfl rfl h_v4 dX10_digest_44 ?_
        obtain ⟨j7, h_j7, hf⟩ := hf_bind hf
        have hJ_18 : ∀ (H : Heap) (locs : List Loc) (ls : Array Slot), lv_has ls 4 [(0, .ref a_0), (1, .int l1_16)] → va_P (dC, dI) vwCl (wl_fM_digest cI cZ cJ cQ a_0 a_0table a_0s a_0cells a_0owner a_0code a_0isOver a_0all a_0some a_0isRuled a_0last a_0chosen a_0corner a_0wide a_0isKept a_0buffer a_0before a_0slots a_0cuts a_0aside known_0 length_0 (0 : Int32) s1.1 s1.2.2.2.2.2.2.1 seed_0 s3 s1.2.1 s_0 s1.2.2.1 s1.2.2.2.1 s1.2.2.2.2.1 s1.2.2.2.2.2.1 s1.2.2.2.2.2.2.2.1 s1.2.2.2.2.2.2.2.2.1 s1.2.2.2.2.2.2.2.2.2 last_0 chosen_0 corner_0 wide_0 isKept_0 buffer_0) H → va_D A (wl_fM_digest cI cZ cJ cQ a_0 a_0table a_0s a_0cells a_0owner a_0code a_0isOver a_0all a_0some a_0isRuled a_0last a_0chosen a_0corner a_0wide a_0isKept a_0buffer a_0before a_0slots a_0cuts a_0aside known_0 length_0 (0 : Int32) s1.1 s1.2.2.2.2.2.2.1 seed_0 s3 s1.2.1 s_0 s1.2.2.1 s1.2.2.2.1 s1.2.2.2.2.1 s1.2.2.2.2.2.1 s1.2.2.2.2.2.2.2.1 s1.2.2.2.2.2.2.2.2.1 s1.2.2.2.2.2.2.2.2.2 last_0 chosen_0 corner_0 wide_0 isKept_0 buffer_0) → va_S A s.heap H locs → W p l e ({ frames := 4, cells := 0, slots := 0, locals := 115 } : Room) s m [.ref a_0].toArray below meth c H locs 0 0 QQ (F0 m 63 ls [.long j7, .ref a_0]) := by
          intro H locs ls hl hP hD hS
          obtain ⟨s8, h_s8, hf⟩ := hf_bind hf
          refine wh_callv (D := (dC, dI)) (ws' := (wl_fM_digest cI cZ cJ cQ a_0 a_0table a_0s a_0cells a_0owner a_0code a_0isOver a_0all a_0some a_0isRuled a_0last a_0chosen a_0corner a_0wide a_0isKept a_0buffer a_0before a_0slots a_0cuts a_0aside known_0 length_0 (0 : Int32) s1.1 s1.2.2.2.2.2.2.1 seed_0 s8 s1.2.1 s_0 s1.2.2.1 s1.2.2.2.1 s1.2.2.2.2.1 s1.2.2.2.2.2.1 s1.2.2.2.2.2.2.2.1 s1.2.2.2.2.2.2.2.2.1 s1.2.2.2.2.2.2.2.2.2 last_0 chosen_0 corner_0 wide_0 isKept_0 buffer_0)) (va_runV (As := [.long j7]) (rest := []) ⟨hx, hb, hml, hown, hts⟩ (c_fM_mix l dC dI cI cZ cJ cQ a_0 a_0s a_0before a_0slots a_0isKept a_0buffer a_0cells a_0owner a_0code a_0table a_0isOver a_0isRuled a_0all a_0some a_0chosen a_0last a_0corner a_0wide a_0cuts a_0aside known_0 length_0 (0 : Int32) s1.1 s1.2.2.2.2.2.2.1 seed_0 _ h_s8) (cwV 1 hts gX10_digest_X10_mix rfl rfl rfl (by decide +kernel) ⟨Nat.le_of_ble_eq_true rfl, Nat.le_of_ble_eq_true rfl⟩) (wh_preV (C := RX10) (T := TX10) (N := 26) hK hN hP hD [0] rfl rfl 10 0 rfl rfl) rfl rfl hl.1 rfl (lv_room (Nat.le_of_ble_eq_true rfl)) dX10_digest_63 ⟨Nat.le_refl _, Nat.le_refl _⟩) hP hD hS hA [0] [1, 2, 3, 4, 5, 6, 7, 8, 9, 10, 11, 12, 13, 14, 15] [15, 0, 1, 2, 3, 4, 5, 6, 7, 8, 9, 10, 11, 12, 13, 14] rfl rfl rfl rfl (fun H locs hP hD hS => ?_)
          refine lv_aload_n hx hb dX10_digest_66 rfl (lv_at hl 0 rfl) ?_
          refine lv_aload_n hx hb dX10_digest_67 rfl (lv_at hl 0 rfl) ?_
          refine va_get (D := (dC, dI)) (ci := 10) (C := RX10) (T := TX10) (N := 26) hx hb hts hiX10 hown hK hP 0 rfl rfl 0 (by decide) (hts (.fieldLink RX10 7 "PaddockFieldsModel" "s" "[I") (List.mem_cons_of_mem _ (List.mem_append_left _ (List.mem_append_left _ (List.mem_of_getElem? (i := 3) rfl))))) (fun _ h9 => h9) rfl dX10_digest_68 ?_
          refine lv_bipush (v := 42) hx hb dX10_digest_71 (by decide) ?_
          refine lv_iload_n hx hb dX10_digest_73 rfl (lv_at hl 1 rfl) ?_
          refine lv_iadd hx hb dX10_digest_74 ?_
          obtain ⟨v9, h_v9, hf⟩ := hf_bind hf
          refine wh_ldI (D := (dC, dI)) hx hb hK hP 2 0 rfl rfl h_v9 dX10_digest_75 ?_
          refine lv_i2l hx hb dX10_digest_76 rfl ?_
          obtain ⟨s10, h_s10, hf⟩ := hf_bind hf
          refine wh_callv (D := (dC, dI)) (ws' := (wl_fM_digest cI cZ cJ cQ a_0 a_0table a_0s a_0cells a_0owner a_0code a_0isOver a_0all a_0some a_0isRuled a_0last a_0chosen a_0corner a_0wide a_0isKept a_0buffer a_0before a_0slots a_0cuts a_0aside known_0 length_0 (0 : Int32) s1.1 s1.2.2.2.2.2.2.1 seed_0 s10 s1.2.1 s_0 s1.2.2.1 s1.2.2.2.1 s1.2.2.2.2.1 s1.2.2.2.2.2.1 s1.2.2.2.2.2.2.2.1 s1.2.2.2.2.2.2.2.2.1 s1.2.2.2.2.2.2.2.2.2 last_0 chosen_0 corner_0 wide_0 isKept_0 buffer_0)) (va_runV (As := [.long v9.toInt64]) (rest := []) ⟨hx, hb, hml, hown, hts⟩ (c_fM_mix l dC dI cI cZ cJ cQ a_0 a_0s a_0before a_0slots a_0isKept a_0buffer a_0cells a_0owner a_0code a_0table a_0isOver a_0isRuled a_0all a_0some a_0chosen a_0last a_0corner a_0wide a_0cuts a_0aside known_0 length_0 (0 : Int32) s1.1 s1.2.2.2.2.2.2.1 seed_0 _ h_s10) (cwV 1 hts gX10_digest_X10_mix rfl rfl rfl (by decide +kernel) ⟨Nat.le_of_ble_eq_true rfl, Nat.le_of_ble_eq_true rfl⟩) (wh_preV (C := RX10) (T := TX10) (N := 26) hK hN hP hD [0] rfl rfl 10 0 rfl rfl) rfl rfl hl.1 rfl (lv_room (Nat.le_of_ble_eq_true rfl)) dX10_digest_77 ⟨Nat.le_refl _, Nat.le_refl _⟩) hP hD hS hA [0] [1, 2, 3, 4, 5, 6, 7, 8, 9, 10, 11, 12, 13, 14, 15] [15, 0, 1, 2, 3, 4, 5, 6, 7, 8, 9, 10, 11, 12, 13, 14] rfl rfl rfl rfl (fun H locs hP hD hS => ?_)
          refine lv_aload_n hx hb dX10_digest_80 rfl (lv_at hl 0 rfl) ?_
          refine lv_aload_n hx hb dX10_digest_81 rfl (lv_at hl 0 rfl) ?_
          refine lv_iload_n hx hb dX10_digest_82 rfl (lv_at hl 1 rfl) ?_
          obtain ⟨s11, h_s11, hf⟩ := hf_bind hf
          refine wh_calli (D := (dC, dI)) (ws' := (wl_fM_digest cI cZ cJ cQ a_0 a_0table a_0s a_0cells a_0owner a_0code a_0isOver a_0all a_0some a_0isRuled a_0last a_0chosen a_0corner a_0wide a_0isKept a_0buffer a_0before a_0slots a_0cuts a_0aside known_0 length_0 (0 : Int32) s1.1 s1.2.2.2.2.2.2.1 seed_0 s10 s1.2.1 s_0 s1.2.2.1 s1.2.2.2.1 s1.2.2.2.2.1 s1.2.2.2.2.2.1 s1.2.2.2.2.2.2.2.1 s1.2.2.2.2.2.2.2.2.1 s1.2.2.2.2.2.2.2.2.2 last_0 chosen_0 corner_0 wide_0 isKept_0 buffer_0)) (va_runV (As := [.int l1_16]) (rest := [.ref a_0]) ⟨hx, hb, hml, hown, hts⟩ (c_fM_countOf l dC dI cI cZ cJ cQ a_0 a_0owner a_0s a_0before a_0slots a_0isKept a_0buffer a_0cells a_0code a_0table a_0isOver a_0isRuled a_0all a_0some a_0chosen a_0last a_0corner a_0wide a_0cuts a_0aside known_0 length_0 (0 : Int32) s1.2.2.2.2.2.2.1 seed_0 s10 _ h_s11) (cwV 1 hts gX10_digest_X10_countOf rfl rfl rfl (by decide +kernel) ⟨Nat.le_of_ble_eq_true rfl, Nat.le_of_ble_eq_true rfl⟩) (wh_preV (C := RX10) (T := TX10) (N := 26) hK hN hP hD [0, 4] rfl rfl 10 0 rfl rfl) rfl rfl hl.1 rfl (lv_room (Nat.le_of_ble_eq_true rfl)) dX10_digest_83 ⟨Nat.le_refl _, Nat.le_refl _⟩) hP hD hS hA [0, 4] [1, 2, 3, 5, 6, 7, 8, 9, 10, 11, 12, 13, 14, 15] [14, 0, 1, 2, 15, 3, 4, 5, 6, 7, 8, 9, 10, 11, 12, 13] rfl rfl rfl rfl (fun H locs hP hD hS => ?_)
          refine lv_i2l hx hb dX10_digest_86 rfl ?_
          obtain ⟨s12, h_s12, hf⟩ := hf_bind hf
          refine wh_callv (D := (dC, dI)) (ws' := (wl_fM_digest cI cZ cJ cQ a_0 a_0table a_0s a_0cells a_0owner a_0code a_0isOver a_0all a_0some a_0isRuled a_0last a_0chosen a_0corner a_0wide a_0isKept a_0buffer a_0before a_0slots a_0cuts a_0aside known_0 length_0 (0 : Int32) s1.1 s1.2.2.2.2.2.2.1 seed_0 s12 s1.2.1 s_0 s1.2.2.1 s1.2.2.2.1 s1.2.2.2.2.1 s1.2.2.2.2.2.1 s1.2.2.2.2.2.2.2.1 s1.2.2.2.2.2.2.2.2.1 s1.2.2.2.2.2.2.2.2.2 last_0 chosen_0 corner_0 wide_0 isKept_0 buffer_0)) (va_runV (As := [.long s11.toInt64]) (rest := []) ⟨hx, hb, hml, hown, hts⟩ (c_fM_mix l dC dI cI cZ cJ cQ a_0 a_0s a_0before a_0slots a_0isKept a_0buffer a_0cells a_0owner a_0code a_0table a_0isOver a_0isRuled a_0all a_0some a_0chosen a_0last a_0corner a_0wide a_0cuts a_0aside known_0 length_0 (0 : Int32) s1.1 s1.2.2.2.2.2.2.1 seed_0 _ h_s12) (cwV 1 hts gX10_digest_X10_mix rfl rfl rfl (by decide +kernel) ⟨Nat.le_of_ble_eq_true rfl, Nat.le_of_ble_eq_true rfl⟩) (wh_preV (C := RX10) (T := TX10) (N := 26) hK hN hP hD [0] rfl rfl 10 0 rfl rfl) rfl rfl hl.1 rfl (lv_room (Nat.le_of_ble_eq_true rfl)) dX10_digest_87 ⟨Nat.le_refl _, Nat.le_refl _⟩) hP hD hS hA [0] [1, 2, 3, 4, 5, 6, 7, 8, 9, 10, 11, 12, 13, 14, 15] [15, 0, 1, 2, 3, 4, 5, 6, 7, 8, 9, 10, 11, 12, 13, 14] rfl rfl rfl rfl (fun H locs hP hD hS => ?_)
          refine lv_iconst (v := 0) hx hb dX10_digest_90 (by decide) ?_
          refine lv_istore_n (lv' := [(2, .int (0 : Int32)), (0, .ref a_0), (1, .int l1_16)]) hx hb dX10_digest_91 rfl hl (by decide) rfl (fun ls hl => ?_)
          obtain ⟨r17, h_r17, hf⟩ := hf_bind hf
          have hE_19 : ∀ (H : Heap) (locs : List Loc) (ls : Array Slot), lv_has ls 4 [(0, .ref a_0), (1, .int l1_16)] → va_P (dC, dI) vwCl (wl_fM_digest cI cZ cJ cQ a_0 a_0table a_0s a_0cells a_0owner a_0code a_0isOver a_0all a_0some a_0isRuled a_0last a_0chosen a_0corner a_0wide a_0isKept a_0buffer a_0before a_0slots a_0cuts a_0aside known_0 length_0 (0 : Int32) s1.1 s1.2.2.2.2.2.2.1 seed_0 r17.2 s1.2.1 s_0 s1.2.2.1 s1.2.2.2.1 s1.2.2.2.2.1 s1.2.2.2.2.2.1 s1.2.2.2.2.2.2.2.1 s1.2.2.2.2.2.2.2.2.1 s1.2.2.2.2.2.2.2.2.2 last_0 chosen_0 corner_0 wide_0 isKept_0 buffer_0) H → va_D A (wl_fM_digest cI cZ cJ cQ a_0 a_0table a_0s a_0cells a_0owner a_0code a_0isOver a_0all a_0some a_0isRuled a_0last a_0chosen a_0corner a_0wide a_0isKept a_0buffer a_0before a_0slots a_0cuts a_0aside known_0 length_0 (0 : Int32) s1.1 s1.2.2.2.2.2.2.1 seed_0 r17.2 s1.2.1 s_0 s1.2.2.1 s1.2.2.2.1 s1.2.2.2.2.1 s1.2.2.2.2.2.1 s1.2.2.2.2.2.2.2.1 s1.2.2.2.2.2.2.2.2.1 s1.2.2.2.2.2.2.2.2.2 last_0 chosen_0 corner_0 wide_0 isKept_0 buffer_0) → va_S A s.heap H locs → W p l e ({ frames := 4, cells := 0, slots := 0, locals := 115 } : Room) s m [.ref a_0].toArray below meth c H locs 0 0 QQ (F0 m 127 ls []) := by
            intro H locs ls hl hP hD hS
            refine lv_aload_n hx hb dX10_digest_127 rfl (lv_at hl 0 rfl) ?_
            refine lv_aload_n hx hb dX10_digest_128 rfl (lv_at hl 0 rfl) ?_
            refine lv_iload_n hx hb dX10_digest_129 rfl (lv_at hl 1 rfl) ?_
            obtain ⟨s18, h_s18, hf⟩ := hf_bind hf
            refine wh_calli (D := (dC, dI)) (ws' := (wl_fM_digest cI cZ cJ cQ a_0 a_0table a_0s a_0cells a_0owner a_0code a_0isOver a_0all a_0some a_0isRuled a_0last a_0chosen a_0corner a_0wide a_0isKept a_0buffer a_0before a_0slots a_0cuts a_0aside known_0 length_0 (0 : Int32) s1.1 s1.2.2.2.2.2.2.1 seed_0 r17.2 s1.2.1 s_0 s1.2.2.1 s1.2.2.2.1 s1.2.2.2.2.1 s1.2.2.2.2.2.1 s1.2.2.2.2.2.2.2.1 s1.2.2.2.2.2.2.2.2.1 s1.2.2.2.2.2.2.2.2.2 last_0 chosen_0 corner_0 wide_0 isKept_0 buffer_0)) (va_runV (As := [.int l1_16]) (rest := [.ref a_0]) ⟨hx, hb, hml, hown, hts⟩ (c_fM_covering l dC dI cI cZ cJ cQ a_0 a_0cells a_0s a_0before a_0slots a_0isKept a_0buffer a_0owner a_0code a_0table a_0isOver a_0isRuled a_0all a_0some a_0chosen a_0last a_0corner a_0wide a_0cuts a_0aside known_0 length_0 (0 : Int32) s1.2.2.2.2.2.2.1 seed_0 r17.2 _ h_s18) (cwV 1 hts gX10_digest_X10_covering rfl rfl rfl (by decide +kernel) ⟨Nat.le_of_ble_eq_true rfl, Nat.le_of_ble_eq_true rfl⟩) (wh_preV (C := RX10) (T := TX10) (N := 26) hK hN hP hD [0, 3] rfl rfl 10 0 rfl rfl) rfl rfl hl.1 rfl (lv_room (Nat.le_of_ble_eq_true rfl)) dX10_digest_130 ⟨Nat.le_refl _, Nat.le_refl _⟩) hP hD hS hA [0, 3] [1, 2, 4, 5, 6, 7, 8, 9, 10, 11, 12, 13, 14, 15] [14, 0, 1, 15, 2, 3, 4, 5, 6, 7, 8, 9, 10, 11, 12, 13] rfl rfl rfl rfl (fun H locs hP hD hS => ?_)
            refine lv_i2l hx hb dX10_digest_133 rfl ?_
            obtain ⟨s19, h_s19, hf⟩ := hf_bind hf
            refine wh_callv (D := (dC, dI)) (ws' := (wl_fM_digest cI cZ cJ cQ a_0 a_0table a_0s a_0cells a_0owner a_0code a_0isOver a_0all a_0some a_0isRuled a_0last a_0chosen a_0corner a_0wide a_0isKept a_0buffer a_0before a_0slots a_0cuts a_0aside known_0 length_0 (0 : Int32) s1.1 s1.2.2.2.2.2.2.1 seed_0 s19 s1.2.1 s_0 s1.2.2.1 s1.2.2.2.1 s1.2.2.2.2.1 s1.2.2.2.2.2.1 s1.2.2.2.2.2.2.2.1 s1.2.2.2.2.2.2.2.2.1 s1.2.2.2.2.2.2.2.2.2 last_0 chosen_0 corner_0 wide_0 isKept_0 buffer_0)) (va_runV (As := [.long s18.toInt64]) (rest := []) ⟨hx, hb, hml, hown, hts⟩ (c_fM_mix l dC dI cI cZ cJ cQ a_0 a_0s a_0before a_0slots a_0isKept a_0buffer a_0cells a_0owner a_0code a_0table a_0isOver a_0isRuled a_0all a_0some a_0chosen a_0last a_0corner a_0wide a_0cuts a_0aside known_0 length_0 (0 : Int32) s1.1 s1.2.2.2.2.2.2.1 seed_0 _ h_s19) (cwV 1 hts gX10_digest_X10_mix rfl rfl rfl (by decide +kernel) ⟨Nat.le_of_ble_eq_true rfl, Nat.le_of_ble_eq_true rfl⟩) (wh_preV (C := RX10) (T := TX10) (N := 26) hK hN hP hD [0] rfl rfl 10 0 rfl rfl) rfl rfl hl.1 rfl (lv_room (Nat.le_of_ble_eq_true rfl)) dX10_digest_134 ⟨Nat.le_refl _, Nat.le_refl _⟩) hP hD hS hA [0] [1, 2, 3, 4, 5, 6, 7, 8, 9, 10, 11, 12, 13, 14, 15] [15, 0, 1, 2, 3, 4, 5, 6, 7, 8, 9, 10, 11, 12, 13, 14] rfl rfl rfl rfl (fun H locs hP hD hS => ?_)
            refine lv_aload_n hx hb dX10_digest_137 rfl (lv_at hl 0 rfl) ?_
            refine lv_aload_n hx hb dX10_digest_138 rfl (lv_at hl 0 rfl) ?_
            refine lv_iload_n hx hb dX10_digest_139 rfl (lv_at hl 1 rfl) ?_
            obtain ⟨s20, h_s20, hf⟩ := hf_bind hf
            refine wh_calli (D := (dC, dI)) (ws' := (wl_fM_digest cI cZ cJ cQ a_0 a_0table a_0s a_0cells a_0owner a_0code a_0isOver a_0all a_0some a_0isRuled a_0last a_0chosen a_0corner a_0wide a_0isKept a_0buffer a_0before a_0slots a_0cuts a_0aside known_0 length_0 (0 : Int32) s1.1 s1.2.2.2.2.2.2.1 seed_0 s19 s1.2.1 s_0 s1.2.2.1 s1.2.2.2.1 s1.2.2.2.2.1 s1.2.2.2.2.2.1 s1.2.2.2.2.2.2.2.1 s1.2.2.2.2.2.2.2.2.1 s1.2.2.2.2.2.2.2.2.2 last_0 chosen_0 corner_0 wide_0 isKept_0 buffer_0)) (va_runV (As := [.int l1_16]) (rest := [.ref a_0]) ⟨hx, hb, hml, hown, hts⟩ (c_fM_claiming l dC dI cI cZ cJ cQ a_0 a_0cells a_0owner a_0s a_0before a_0slots a_0isKept a_0buffer a_0code a_0table a_0isOver a_0isRuled a_0all a_0some a_0chosen a_0last a_0corner a_0wide a_0cuts a_0aside known_0 length_0 (0 : Int32) s1.2.2.2.2.2.2.1 seed_0 s19 _ h_s20) (cwV 1 hts gX10_digest_X10_claiming rfl rfl rfl (by decide +kernel) ⟨Nat.le_of_ble_eq_true rfl, Nat.le_of_ble_eq_true rfl⟩) (wh_preV (C := RX10) (T := TX10) (N := 26) hK hN hP hD [0, 3, 4] rfl rfl 10 0 rfl rfl) rfl rfl hl.1 rfl (lv_room (Nat.le_of_ble_eq_true rfl)) dX10_digest_140 ⟨Nat.le_refl _, Nat.le_refl _⟩) hP hD hS hA [0, 3, 4] [1, 2, 5, 6, 7, 8, 9, 10, 11, 12, 13, 14, 15] [13, 0, 1, 14, 15, 2, 3, 4, 5, 6, 7, 8, 9, 10, 11, 12] rfl rfl rfl rfl (fun H locs hP hD hS => ?_)
            refine lv_i2l hx hb dX10_digest_143 rfl ?_
            obtain ⟨s21, h_s21, hf⟩ := hf_bind hf
            refine wh_callv (D := (dC, dI)) (ws' := (wl_fM_digest cI cZ cJ cQ a_0 a_0table a_0s a_0cells a_0owner a_0code a_0isOver a_0all a_0some a_0isRuled a_0last a_0chosen a_0corner a_0wide a_0isKept a_0buffer a_0before a_0slots a_0cuts a_0aside known_0 length_0 (0 : Int32) s1.1 s1.2.2.2.2.2.2.1 seed_0 s21 s1.2.1 s_0 s1.2.2.1 s1.2.2.2.1 s1.2.2.2.2.1 s1.2.2.2.2.2.1 s1.2.2.2.2.2.2.2.1 s1.2.2.2.2.2.2.2.2.1 s1.2.2.2.2.2.2.2.2.2 last_0 chosen_0 corner_0 wide_0 isKept_0 buffer_0)) (va_runV (As := [.long s20.toInt64]) (rest := []) ⟨hx, hb, hml, hown, hts⟩ (c_fM_mix l dC dI cI cZ cJ cQ a_0 a_0s a_0before a_0slots a_0isKept a_0buffer a_0cells a_0owner a_0code a_0table a_0isOver a_0isRuled a_0all a_0some a_0chosen a_0last a_0corner a_0wide a_0cuts a_0aside known_0 length_0 (0 : Int32) s1.1 s1.2.2.2.2.2.2.1 seed_0 _ h_s21) (cwV 1 hts gX10_digest_X10_mix rfl rfl rfl (by decide +kernel) ⟨Nat.le_of_ble_eq_true rfl, Nat.le_of_ble_eq_true rfl⟩) (wh_preV (C := RX10) (T := TX10) (N := 26) hK hN hP hD [0] rfl rfl 10 0 rfl rfl) rfl rfl hl.1 rfl (lv_room (Nat.le_of_ble_eq_true rfl)) dX10_digest_144 ⟨Nat.le_refl _, Nat.le_refl _⟩) hP hD hS hA [0] [1, 2, 3, 4, 5, 6, 7, 8, 9, 10, 11, 12, 13, 14, 15] [15, 0, 1, 2, 3, 4, 5, 6, 7, 8, 9, 10, 11, 12, 13, 14] rfl rfl rfl rfl (fun H locs hP hD hS => ?_)
            refine lv_aload_n hx hb dX10_digest_147 rfl (lv_at hl 0 rfl) ?_
            refine lv_aload_n hx hb dX10_digest_148 rfl (lv_at hl 0 rfl) ?_
            refine lv_iload_n hx hb dX10_digest_149 rfl (lv_at hl 1 rfl) ?_
            obtain ⟨s22, h_s22, hf⟩ := hf_bind hf
            refine wh_calli (D := (dC, dI)) (ws' := (wl_fM_digest cI cZ cJ cQ a_0 a_0table a_0s a_0cells a_0owner a_0code a_0isOver a_0all a_0some a_0isRuled a_0last a_0chosen a_0corner a_0wide a_0isKept a_0buffer a_0before a_0slots a_0cuts a_0aside known_0 length_0 (0 : Int32) s1.1 s1.2.2.2.2.2.2.1 seed_0 s21 s1.2.1 s_0 s1.2.2.1 s1.2.2.2.1 s1.2.2.2.2.1 s1.2.2.2.2.2.1 s1.2.2.2.2.2.2.2.1 s1.2.2.2.2.2.2.2.2.1 s1.2.2.2.2.2.2.2.2.2 last_0 chosen_0 corner_0 wide_0 isKept_0 buffer_0)) (va_runV (As := [.int l1_16]) (rest := [.ref a_0]) ⟨hx, hb, hml, hown, hts⟩ (c_fM_leftIn l dC dI cI cZ cJ cQ a_0 a_0owner a_0isOver a_0s a_0before a_0slots a_0isKept a_0buffer a_0cells a_0code a_0table a_0isRuled a_0all a_0some a_0chosen a_0last a_0corner a_0wide a_0cuts a_0aside known_0 length_0 (0 : Int32) s1.2.2.2.2.2.2.1 seed_0 s21 _ h_s22) (cwV 1 hts gX10_digest_X10_leftIn rfl rfl rfl (by decide +kernel) ⟨Nat.le_of_ble_eq_true rfl, Nat.le_of_ble_eq_true rfl⟩) (wh_preV (C := RX10) (T := TX10) (N := 26) hK hN hP hD [0, 4, 6] rfl rfl 10 0 rfl rfl) rfl rfl hl.1 rfl (lv_room (Nat.le_of_ble_eq_true rfl)) dX10_digest_150 ⟨Nat.le_refl _, Nat.le_refl _⟩) hP hD hS hA [0, 4, 6] [1, 2, 3, 5, 7, 8, 9, 10, 11, 12, 13, 14, 15] [13, 0, 1, 2, 14, 3, 15, 4, 5, 6, 7, 8, 9, 10, 11, 12] rfl rfl rfl rfl (fun H locs hP hD hS => ?_)
            refine lv_i2l hx hb dX10_digest_153 rfl ?_
            obtain ⟨s23, h_s23, hf⟩ := hf_bind hf
            refine wh_callv (D := (dC, dI)) (ws' := (wl_fM_digest cI cZ cJ cQ a_0 a_0table a_0s a_0cells a_0owner a_0code a_0isOver a_0all a_0some a_0isRuled a_0last a_0chosen a_0corner a_0wide a_0isKept a_0buffer a_0before a_0slots a_0cuts a_0aside known_0 length_0 (0 : Int32) s1.1 s1.2.2.2.2.2.2.1 seed_0 s23 s1.2.1 s_0 s1.2.2.1 s1.2.2.2.1 s1.2.2.2.2.1 s1.2.2.2.2.2.1 s1.2.2.2.2.2.2.2.1 s1.2.2.2.2.2.2.2.2.1 s1.2.2.2.2.2.2.2.2.2 last_0 chosen_0 corner_0 wide_0 isKept_0 buffer_0)) (va_runV (As := [.long s22.toInt64]) (rest := []) ⟨hx, hb, hml, hown, hts⟩ (c_fM_mix l dC dI cI cZ cJ cQ a_0 a_0s a_0before a_0slots a_0isKept a_0buffer a_0cells a_0owner a_0code a_0table a_0isOver a_0isRuled a_0all a_0some a_0chosen a_0last a_0corner a_0wide a_0cuts a_0aside known_0 length_0 (0 : Int32) s1.1 s1.2.2.2.2.2.2.1 seed_0 _ h_s23) (cwV 1 hts gX10_digest_X10_mix rfl rfl rfl (by decide +kernel) ⟨Nat.le_of_ble_eq_true rfl, Nat.le_of_ble_eq_true rfl⟩) (wh_preV (C := RX10) (T := TX10) (N := 26) hK hN hP hD [0] rfl rfl 10 0 rfl rfl) rfl rfl hl.1 rfl (lv_room (Nat.le_of_ble_eq_true rfl)) dX10_digest_154 ⟨Nat.le_refl _, Nat.le_refl _⟩) hP hD hS hA [0] [1, 2, 3, 4, 5, 6, 7, 8, 9, 10, 11, 12, 13, 14, 15] [15, 0, 1, 2, 3, 4, 5, 6, 7, 8, 9, 10, 11, 12, 13, 14] rfl rfl rfl rfl (fun H locs hP hD hS => ?_)
            refine lv_iinc (v := (l1_16 + (1 : Int32))) (lv' := [(1, .int (l1_16 + (1 : Int32))), (0, .ref a_0)]) hx hb dX10_digest_157 hl (k := 1) rfl rfl (by decide) rfl (fun ls hl => ?_)
            refine lv_goto (tgt := 18) hx hb dX10_digest_160 (by decide) ?_
            exact ih _ _ hf _ _ _ (lv_sub hl [1, 0] rfl) hP hD hS
          have hL_20 : ∀ (N : Nat) (l2_21 : Int32) (hash_0_22 : Int64), fM_digest_L92 F l1_16 s1.1 s1.2.2.2.1 s1.2.2.2.2.1 N l2_21 hash_0_22 = some r17 → ∀ (H : Heap) (locs : List Loc) (ls : Array Slot), lv_has ls 4 [(0, .ref a_0), (1, .int l1_16), (2, .int l2_21)] → va_P (dC, dI) vwCl (wl_fM_digest cI cZ cJ cQ a_0 a_0table a_0s a_0cells a_0owner a_0code a_0isOver a_0all a_0some a_0isRuled a_0last a_0chosen a_0corner a_0wide a_0isKept a_0buffer a_0before a_0slots a_0cuts a_0aside known_0 length_0 (0 : Int32) s1.1 s1.2.2.2.2.2.2.1 seed_0 hash_0_22 s1.2.1 s_0 s1.2.2.1 s1.2.2.2.1 s1.2.2.2.2.1 s1.2.2.2.2.2.1 s1.2.2.2.2.2.2.2.1 s1.2.2.2.2.2.2.2.2.1 s1.2.2.2.2.2.2.2.2.2 last_0 chosen_0 corner_0 wide_0 isKept_0 buffer_0) H → va_D A (wl_fM_digest cI cZ cJ cQ a_0 a_0table a_0s a_0cells a_0owner a_0code a_0isOver a_0all a_0some a_0isRuled a_0last a_0chosen a_0corner a_0wide a_0isKept a_0buffer a_0before a_0slots a_0cuts a_0aside known_0 length_0 (0 : Int32) s1.1 s1.2.2.2.2.2.2.1 seed_0 hash_0_22 s1.2.1 s_0 s1.2.2.1 s1.2.2.2.1 s1.2.2.2.2.1 s1.2.2.2.2.2.1 s1.2.2.2.2.2.2.2.1 s1.2.2.2.2.2.2.2.2.1 s1.2.2.2.2.2.2.2.2.2 last_0 chosen_0 corner_0 wide_0 isKept_0 buffer_0) → va_S A s.heap H locs → W p l e ({ frames := 4, cells := 0, slots := 0, locals := 115 } : Room) s m [.ref a_0].toArray below meth c H locs 0 0 QQ (F0 m 92 ls []) := by
            intro N
            induction N with
            | zero => intro l2_21 hash_0_22 hf; exact nomatch (show none = some _ from hf)
            | succ N ih =>
              intro l2_21 hash_0_22 hf H locs ls hl hP hD hS
              rw [fM_digest_L92] at hf
              refine lv_iload_n hx hb dX10_digest_92 rfl (lv_at hl 2 rfl) ?_
              refine lv_aload_n hx hb dX10_digest_93 rfl (lv_at hl 0 rfl) ?_
              refine va_get (D := (dC, dI)) (ci := 10) (C := RX10) (T := TX10) (N := 26) hx hb hts hiX10 hown hK hP 0 rfl rfl 11 (by decide) (hts (.fieldLink RX10 102 "PaddockFieldsModel" "many" "I") (List.mem_cons_of_mem _ (List.mem_append_left _ (List.mem_append_left _ (List.mem_of_getElem? (i := 4) rfl))))) (fun _ h9 => h9) rfl dX10_digest_94 ?_
              refine lv_icmp_ge (tgt := 127) hx hb dX10_digest_97 (by decide) (fun cc => ?_) (fun cc => ?_)
              · replace hf := hf_pos cc hf
                obtain rfl := Option.some.inj hf
                exact hE_19 _ _ _ (lv_sub hl [0, 1] rfl) hP hD hS
              · replace hf := hf_neg cc hf
                refine lv_aload_n hx hb dX10_digest_100 rfl (lv_at hl 0 rfl) ?_
                refine va_get (D := (dC, dI)) (ci := 10) (C := RX10) (T := TX10) (N := 26) hx hb hts hiX10 hown hK hP 0 rfl rfl 9 (by decide) (hts (.fieldLink RX10 30 "PaddockFieldsModel" "owner" "[I") (List.mem_cons_of_mem _ (List.mem_append_left _ (List.mem_append_left _ (List.mem_of_getElem? (i := 5) rfl))))) (fun _ h9 => h9) rfl dX10_digest_101 ?_
                refine lv_iload_n hx hb dX10_digest_104 rfl (lv_at hl 2 rfl) ?_
                obtain ⟨v13, h_v13, hf⟩ := hf_bind hf
                refine wh_ldI (D := (dC, dI)) hx hb hK hP 4 0 rfl rfl h_v13 dX10_digest_105 ?_
                refine lv_iload_n hx hb dX10_digest_106 rfl (lv_at hl 1 rfl) ?_
                obtain ⟨j16, h_j16, hf⟩ := hf_bind hf
                have hJ_23 : ∀ (H : Heap) (locs : List Loc) (ls : Array Slot), lv_has ls 4 [(0, .ref a_0), (1, .int l1_16), (2, .int l2_21)] → va_P (dC, dI) vwCl (wl_fM_digest cI cZ cJ cQ a_0 a_0table a_0s a_0cells a_0owner a_0code a_0isOver a_0all a_0some a_0isRuled a_0last a_0chosen a_0corner a_0wide a_0isKept a_0buffer a_0before a_0slots a_0cuts a_0aside known_0 length_0 (0 : Int32) s1.1 s1.2.2.2.2.2.2.1 seed_0 j16 s1.2.1 s_0 s1.2.2.1 s1.2.2.2.1 s1.2.2.2.2.1 s1.2.2.2.2.2.1 s1.2.2.2.2.2.2.2.1 s1.2.2.2.2.2.2.2.2.1 s1.2.2.2.2.2.2.2.2.2 last_0 chosen_0 corner_0 wide_0 isKept_0 buffer_0) H → va_D A (wl_fM_digest cI cZ cJ cQ a_0 a_0table a_0s a_0cells a_0owner a_0code a_0isOver a_0all a_0some a_0isRuled a_0last a_0chosen a_0corner a_0wide a_0isKept a_0buffer a_0before a_0slots a_0cuts a_0aside known_0 length_0 (0 : Int32) s1.1 s1.2.2.2.2.2.2.1 seed_0 j16 s1.2.1 s_0 s1.2.2.1 s1.2.2.2.1 s1.2.2.2.2.1 s1.2.2.2.2.2.1 s1.2.2.2.2.2.2.2.1 s1.2.2.2.2.2.2.2.2.1 s1.2.2.2.2.2.2.2.2.2 last_0 chosen_0 corner_0 wide_0 isKept_0 buffer_0) → va_S A s.heap H locs → W p l e ({ frames := 4, cells := 0, slots := 0, locals := 115 } : Room) s m [.ref a_0].toArray below meth c H locs 0 0 QQ (F0 m 121 ls []) := by
                  intro H locs ls hl hP hD hS
                  refine lv_iinc (v := (l2_21 + (1 : Int32))) (lv' := [(2, .int (l2_21 + (1 : Int32))), (0, .ref a_0), (1, .int l1_16)]) hx hb dX10_digest_121 hl (k := 2) rfl rfl (by decide) rfl (fun ls hl => ?_)
                  refine lv_goto (tgt := 92) hx hb dX10_digest_124 (by decide) ?_
                  exact ih _ _ hf _ _ _ (lv_sub hl [1, 2, 0] rfl) hP hD hS
                clear hf
                have hf := h_j16
                clear h_j16
                refine lv_icmp_ne (tgt := 121) hx hb dX10_digest_107 (by decide) (fun cc => ?_) (fun cc => ?_)
                · replace hf := hf_pos cc hf
                  obtain rfl := Option.some.inj hf
                  exact hJ_23 _ _ _ (lv_sub hl [0, 1, 2] rfl) hP hD hS
                · replace hf := hf_neg (not_not_intro cc) hf
                  refine lv_aload_n hx hb dX10_digest_110 rfl (lv_at hl 0 rfl) ?_
                  refine lv_aload_n hx hb dX10_digest_111 rfl (lv_at hl 0 rfl) ?_
                  refine va_get (D := (dC, dI)) (ci := 10) (C := RX10) (T := TX10) (N := 26) hx hb hts hiX10 hown hK hP 0 rfl rfl 10 (by decide) (hts (.fieldLink RX10 33 "PaddockFieldsModel" "code" "[I") (List.mem_cons_of_mem _ (List.mem_append_left _ (List.mem_append_left _ (List.mem_of_getElem? (i := 6) rfl))))) (fun _ h9 => h9) rfl dX10_digest_112 ?_
                  refine lv_iload_n hx hb dX10_digest_115 rfl (lv_at hl 2 rfl) ?_
                  obtain ⟨v14, h_v14, hf⟩ := hf_bind hf
                  refine wh_ldI (D := (dC, dI)) hx hb hK hP 5 0 rfl rfl h_v14 dX10_digest_116 ?_
                  refine lv_i2l hx hb dX10_digest_117 rfl ?_
                  obtain ⟨s15, h_s15, hf⟩ := hf_bind hf
                  refine wh_callv (D := (dC, dI)) (ws' := (wl_fM_digest cI cZ cJ cQ a_0 a_0table a_0s a_0cells a_0owner a_0code a_0isOver a_0all a_0some a_0isRuled a_0last a_0chosen a_0corner a_0wide a_0isKept a_0buffer a_0before a_0slots a_0cuts a_0aside known_0 length_0 (0 : Int32) s1.1 s1.2.2.2.2.2.2.1 seed_0 s15 s1.2.1 s_0 s1.2.2.1 s1.2.2.2.1 s1.2.2.2.2.1 s1.2.2.2.2.2.1 s1.2.2.2.2.2.2.2.1 s1.2.2.2.2.2.2.2.2.1 s1.2.2.2.2.2.2.2.2.2 last_0 chosen_0 corner_0 wide_0 isKept_0 buffer_0)) (va_runV (As := [.long v14.toInt64]) (rest := []) ⟨hx, hb, hml, hown, hts⟩ (c_fM_mix l dC dI cI cZ cJ cQ a_0 a_0s a_0before a_0slots a_0isKept a_0buffer a_0cells a_0owner a_0code a_0table a_0isOver a_0isRuled a_0all a_0some a_0chosen a_0last a_0corner a_0wide a_0cuts a_0aside known_0 length_0 (0 : Int32) s1.1 s1.2.2.2.2.2.2.1 seed_0 _ h_s15) (cwV 1 hts gX10_digest_X10_mix rfl rfl rfl (by decide +kernel) ⟨Nat.le_of_ble_eq_true rfl, Nat.le_of_ble_eq_true rfl⟩) (wh_preV (C := RX10) (T := TX10) (N := 26) hK hN hP hD [0] rfl rfl 10 0 rfl rfl) rfl rfl hl.1 rfl (lv_room (Nat.le_of_ble_eq_true rfl)) dX10_digest_118 ⟨Nat.le_refl _, Nat.le_refl _⟩) hP hD hS hA [0] [1, 2, 3, 4, 5, 6, 7, 8, 9, 10, 11, 12, 13, 14, 15] [15, 0, 1, 2, 3, 4, 5, 6, 7, 8, 9, 10, 11, 12, 13, 14] rfl rfl rfl rfl (fun H locs hP hD hS => ?_)
                  obtain rfl := Option.some.inj hf
                  exact hJ_23 _ _ _ (lv_sub hl [0, 1, 2] rfl) hP hD hS
          exact hL_20 _ _ _ h_r17 _ _ _ (lv_sub hl [1, 2, 0] rfl) hP hD hS
        clear hf
        have hf := h_j7
        clear h_j7
        refine lv_if_le (tgt := 62) hx hb dX10_digest_45 (by decide) (fun cc => ?_) (fun cc => ?_)
        · replace hf := hf_pos cc hf
          refine lv_lconst (v := 0) hx hb dX10_digest_62 (by decide) ?_
          obtain rfl := Option.some.inj hf
          exact hJ_18 _ _ _ (lv_sub hl [0, 1] rfl) hP hD hS
        · replace hf := hf_neg cc hf
          refine lv_aload_n hx hb dX10_digest_48 rfl (lv_at hl 0 rfl) ?_
          refine lv_iload_n hx hb dX10_digest_49 rfl (lv_at hl 1 rfl) ?_
          obtain ⟨s5, h_s5, hf⟩ := hf_bind hf
          refine wh_calll (D := (dC, dI)) (ws' := (wl_fM_digest cI cZ cJ cQ a_0 a_0table a_0s a_0cells a_0owner a_0code a_0isOver a_0all a_0some a_0isRuled a_0last a_0chosen a_0corner a_0wide a_0isKept a_0buffer a_0before a_0slots a_0cuts a_0aside known_0 length_0 (0 : Int32) s1.1 s1.2.2.2.2.2.2.1 seed_0 s3 s1.2.1 s_0 s1.2.2.1 s1.2.2.2.1 s1.2.2.2.2.1 s1.2.2.2.2.2.1 s1.2.2.2.2.2.2.2.1 s1.2.2.2.2.2.2.2.2.1 s1.2.2.2.2.2.2.2.2.2 last_0 chosen_0 corner_0 wide_0 isKept_0 buffer_0)) (va_runV (As := [.int l1_16]) (rest := [.ref a_0]) ⟨hx, hb, hml, hown, hts⟩ (c_fM_fieldOf l dC dI cI cZ cJ cQ a_0 a_0s a_0before a_0slots a_0isKept a_0buffer a_0cells a_0owner a_0code a_0table a_0isOver a_0isRuled a_0all a_0some a_0chosen a_0last a_0corner a_0wide a_0cuts a_0aside known_0 length_0 (0 : Int32) s1.1 s1.2.2.2.2.2.2.1 seed_0 s3 _ h_s5) (cwV 1 hts gX10_digest_X10_fieldOf rfl rfl rfl (by decide +kernel) ⟨Nat.le_of_ble_eq_true rfl, Nat.le_of_ble_eq_true rfl⟩) (wh_preV (C := RX10) (T := TX10) (N := 26) hK hN hP hD [0, 2] rfl rfl 10 0 rfl rfl) rfl rfl hl.1 rfl (lv_room (Nat.le_of_ble_eq_true rfl)) dX10_digest_50 ⟨Nat.le_refl _, Nat.le_refl _⟩) hP hD hS hA [0, 2] [1, 3, 4, 5, 6, 7, 8, 9, 10, 11, 12, 13, 14, 15] [14, 0, 15, 1, 2, 3, 4, 5, 6, 7, 8, 9, 10, 11, 12, 13] rfl rfl rfl rfl (fun H locs hP hD hS => ?_)
          obtain ⟨s6, h_s6, hf⟩ := hf_bind hf
          refine wh_calli (D := (dC, dI)) (ws' := (wl_fM_digest cI cZ cJ cQ a_0 a_0table a_0s a_0cells a_0owner a_0code a_0isOver a_0all a_0some a_0isRuled a_0last a_0chosen a_0corner a_0wide a_0isKept a_0buffer a_0before a_0slots a_0cuts a_0aside known_0 length_0 (0 : Int32) s1.1 s1.2.2.2.2.2.2.1 seed_0 s3 s1.2.1 s_0 s1.2.2.1 s1.2.2.2.1 s1.2.2.2.2.1 s1.2.2.2.2.2.1 s1.2.2.2.2.2.2.2.1 s1.2.2.2.2.2.2.2.2.1 s1.2.2.2.2.2.2.2.2.2 last_0 chosen_0 corner_0 wide_0 isKept_0 buffer_0)) (va_runS (As := [.long s5]) (rest := [.ref a_0]) ⟨hx, hb, hml, hown, hts⟩ (c_fM_bits l dC dI cI cZ cJ cQ _ h_s6) (va_cwS 1 hts gX10_digest_X10_bits rfl rfl rfl (by decide +kernel) ⟨Nat.le_of_ble_eq_true rfl, Nat.le_of_ble_eq_true rfl⟩) (wh_preS hK hN hP hD [] rfl rfl) rfl rfl hl.1 rfl (lv_room (Nat.le_of_ble_eq_true rfl)) dX10_digest_53 ⟨Nat.le_refl _, Nat.le_refl _⟩) hP hD hS hA [] [0, 1, 2, 3, 4, 5, 6, 7, 8, 9, 10, 11, 12, 13, 14, 15] [0, 1, 2, 3, 4, 5, 6, 7, 8, 9, 10, 11, 12, 13, 14, 15] rfl rfl rfl rfl (fun H locs hP hD hS => ?_)
          refine lv_iconst (v := 1) hx hb dX10_digest_56 (by decide) ?_
          refine lv_iadd hx hb dX10_digest_57 ?_
          refine lv_i2l hx hb dX10_digest_58 rfl ?_
          refine lv_goto (tgt := 63) hx hb dX10_digest_59 (by decide) ?_
          obtain rfl := Option.some.inj hf
          exact hJ_18 _ _ _ (lv_sub hl [0, 1] rfl) hP hD hS
  exact hL_15 _ _ _ h_r24 _ _ _ (lv_sub hl [1, 0] rfl) hP hD hS
