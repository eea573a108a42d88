def fM_write (F : Nat) (x1 : Int32) (x2 : Int32) (x3 : Int32) (s_0 : Nat → Int32) (thrown_0 : Int32) (known_0 : Int32) (before_0 : Nat → Int32) : Option (Int32 × Int32 × (Nat → Int32) × Int32 × (Nat → Int32)) :=
  (fM_isCell x1 x2).bind fun s1 =>
  (show Option (Int32) from
    if ¬ s1 = (0 : Int32) then
      (fM_in x3 (0 : Int32) (20 : Int32)).bind fun s2 =>
      if ¬ s2 = (0 : Int32) then
        (o_rd 84 s_0 (((42 : Int32) + ((7 : Int32) * x1)) + x2)).bind fun v3 =>
        if v3 ≤ (0 : Int32) then
          some (0 : Int32)
        else
          some (3 : Int32)
      else
        some (2 : Int32)
    else
      some (1 : Int32)).bind fun j4 =>
  if j4 ≤ (0 : Int32) then
    (fM_save F known_0 before_0 s_0).bind fun s5 =>
    (o_rd 84 s_0 (((7 : Int32) * x1) + x2)).bind fun v6 =>
    (o_wrI 84 s_0 (((7 : Int32) * x1) + x2) x3).bind fun w7 =>
    some (v6, j4, s5.1, s5.2, w7)
  else
    some ((0 : Int32), j4, before_0, known_0, s_0)
abbrev wl_fM_write (cI cZ cJ cQ : ClassId) (a_0 a_0s a_0before a_0slots a_0isKept a_0buffer a_0cells a_0owner a_0code a_0table a_0isOver a_0isRuled a_0all a_0some a_0chosen a_0last a_0corner a_0wide a_0cuts a_0aside : Nat) (known_0 : Int32) (length_0 : Int32) (thrown_0 : Int32) (many_0 : Int32) (round_0 : Int32) (seed_0 : Int64) (hash_0 : Int64) (s_0 : Nat → Int32) (before_0 : Nat → Int32) : va_W := [(a_0, .inr (10, [.ref a_0s, .ref a_0before, .int known_0, .ref a_0slots, .ref a_0isKept, .ref a_0buffer, .int length_0, .int thrown_0, .ref a_0cells, .ref a_0owner, .ref a_0code, .int many_0, .ref a_0table, .ref a_0isOver, .ref a_0isRuled, .ref a_0all, .ref a_0some, .int round_0, .ref a_0chosen, .ref a_0last, .ref a_0corner, .ref a_0wide, .ref a_0cuts, .long seed_0, .ref a_0aside, .long hash_0])), (a_0s, .inl (cI, 84, .inl s_0)), (a_0before, .inl (cI, 504, .inl before_0))]
def fM_drawn (x1 : Int32) (seed_0 : Int64) : Option (Int32 × Int64) :=
  (o_remJ ((((seed_0 * (1103515245 : Int64)) + (12345 : Int64)) - ((seed_0 * (1103515245 : Int64)) + (12345 : Int64)) / (2147483648 : Int64) * (2147483648 : Int64)) / (65536 : Int64)) x1.toInt64).bind fun v1 =>
  some (v1.toInt32, (((seed_0 * (1103515245 : Int64)) + (12345 : Int64)) - ((seed_0 * (1103515245 : Int64)) + (12345 : Int64)) / (2147483648 : Int64) * (2147483648 : Int64)))
abbrev wl_fM_drawn (cI cZ cJ cQ : ClassId) (a_0 a_0s a_0before a_0slots a_0isKept a_0buffer a_0cells a_0owner a_0code a_0table a_0isOver a_0isRuled a_0all a_0some a_0chosen a_0last a_0corner a_0wide a_0cuts a_0aside : Nat) (known_0 : Int32) (length_0 : Int32) (thrown_0 : Int32) (many_0 : Int32) (round_0 : Int32) (seed_0 : Int64) (hash_0 : Int64) : va_W := [(a_0, .inr (10, [.ref a_0s, .ref a_0before, .int known_0, .ref a_0slots, .ref a_0isKept, .ref a_0buffer, .int length_0, .int thrown_0, .ref a_0cells, .ref a_0owner, .ref a_0code, .int many_0, .ref a_0table, .ref a_0isOver, .ref a_0isRuled, .ref a_0all, .ref a_0some, .int round_0, .ref a_0chosen, .ref a_0last, .ref a_0corner, .ref a_0wide, .ref a_0cuts, .long seed_0, .ref a_0aside, .long hash_0]))]
def fM_area (x1 : Int32) (cuts_0 : Nat → Int32) : Option (Int32) :=
  (o_rd 168 cuts_0 (x1 + (2 : Int32))).bind fun v1 =>
  (o_rd 168 cuts_0 x1).bind fun v2 =>
  (o_rd 168 cuts_0 (x1 + (3 : Int32))).bind fun v3 =>
  (o_rd 168 cuts_0 (x1 + (1 : Int32))).bind fun v4 =>
  some (((v1 - v2) + (1 : Int32)) * ((v3 - v4) + (1 : Int32)))
abbrev wl_fM_area (cI cZ cJ cQ : ClassId) (a_0 a_0cuts a_0s a_0before a_0slots a_0isKept a_0buffer a_0cells a_0owner a_0code a_0table a_0isOver a_0isRuled a_0all a_0some a_0chosen a_0last a_0corner a_0wide a_0aside : Nat) (known_0 : Int32) (length_0 : Int32) (thrown_0 : Int32) (many_0 : Int32) (round_0 : Int32) (seed_0 : Int64) (hash_0 : Int64) (cuts_0 : Nat → Int32) : va_W := [(a_0, .inr (10, [.ref a_0s, .ref a_0before, .int known_0, .ref a_0slots, .ref a_0isKept, .ref a_0buffer, .int length_0, .int thrown_0, .ref a_0cells, .ref a_0owner, .ref a_0code, .int many_0, .ref a_0table, .ref a_0isOver, .ref a_0isRuled, .ref a_0all, .ref a_0some, .int round_0, .ref a_0chosen, .ref a_0last, .ref a_0corner, .ref a_0wide, .ref a_0cuts, .long seed_0, .ref a_0aside, .long hash_0])), (a_0cuts, .inl (cI, 168, .inl cuts_0))]
def fM_makes_L143 (F : Nat) (l2 : Int32) (l4 : Int32) : Nat → Int32 → (Nat → Int32) → Option (Int32 × (Nat → Int32))
  | 0, _, _ => none
  | N + 1, l9, cuts_0 =>
    if (4 : Int32) ≤ l9 then
      some (l9, cuts_0)
    else
      (o_rd 168 cuts_0 (l4 + l9)).bind fun v13 =>
      (o_wrI 168 cuts_0 (((4 : Int32) * l2) + l9) v13).bind fun w14 =>
      fM_makes_L143 F l2 l4 N (l9 + (1 : Int32)) w14
def fM_makes_L39 (F : Nat) : Nat → Int32 → Int32 → (Nat → Int32) → Int64 → Option (Int32 × Int32 × (Nat → Int32) × Int64)
  | 0, _, _, _, _ => none
  | N + 1, l2, l3, cuts_0, seed_0 =>
    if l2 ≤ l3 then
      some (l2, l3, cuts_0, seed_0)
    else
      (fM_area ((4 : Int32) * l3) cuts_0).bind fun s5 =>
      (show Option (Int32 × Int32 × (Nat → Int32) × Int64) from
        if s5 ≤ (6 : Int32) then
          some (l2, (l3 + (1 : Int32)), cuts_0, seed_0)
        else
          (o_rd 168 cuts_0 (((4 : Int32) * l3) + (2 : Int32))).bind fun v6 =>
          (o_rd 168 cuts_0 ((4 : Int32) * l3)).bind fun v7 =>
          (o_rd 168 cuts_0 (((4 : Int32) * l3) + (3 : Int32))).bind fun v8 =>
          (o_rd 168 cuts_0 (((4 : Int32) * l3) + (1 : Int32))).bind fun v9 =>
          (show Option (Int32) from
            if ((v6 - v7) + (1 : Int32)) ≤ ((v8 - v9) + (1 : Int32)) then
              some (1 : Int32)
            else
              some (0 : Int32)).bind fun j10 =>
          (show Option (Int32) from
            if ¬ j10 = (0 : Int32) then
              some ((v8 - v9) + (1 : Int32))
            else
              some ((v6 - v7) + (1 : Int32))).bind fun j11 =>
          (fM_drawn (j11 - (1 : Int32)) seed_0).bind fun s12 =>
          (fM_makes_L143 F l2 ((4 : Int32) * l3) F (0 : Int32) cuts_0).bind fun r15 =>
          (o_rd 168 r15.2 (((4 : Int32) * l3) + j10)).bind fun v16 =>
          (o_wrI 168 r15.2 ((((4 : Int32) * l3) + (2 : Int32)) + j10) ((v16 + ((1 : Int32) + s12.1)) - (1 : Int32))).bind fun w17 =>
          (o_rd 168 w17 (((4 : Int32) * l3) + j10)).bind fun v18 =>
          (o_wrI 168 w17 (((4 : Int32) * l2) + j10) (v18 + ((1 : Int32) + s12.1))).bind fun w19 =>
          some ((l2 + (1 : Int32)), l3, w19, s12.2)).bind fun j20 =>
      fM_makes_L39 F N j20.1 j20.2.1 j20.2.2.1 j20.2.2.2
def fM_makes_L242 (F : Nat) : Nat → Int32 → (Nat → Int32) → Option (Int32 × (Nat → Int32))
  | 0, _, _ => none
  | N + 1, l4, s_0 =>
    if (84 : Int32) ≤ l4 then
      some (l4, s_0)
    else
      (o_wrI 84 s_0 l4 (0 : Int32)).bind fun w22 =>
      fM_makes_L242 F N (l4 + (1 : Int32)) w22
def fM_makes_L266 (F : Nat) (l2 : Int32) (cuts_0 : Nat → Int32) : Nat → Int32 → Int64 → (Nat → Int32) → Option (Int32 × Int64 × (Nat → Int32))
  | 0, _, _, _ => none
  | N + 1, l4, seed_0, s_0 =>
    if l2 ≤ l4 then
      some (l4, seed_0, s_0)
    else
      (o_rd 168 cuts_0 (((4 : Int32) * l4) + (3 : Int32))).bind fun v24 =>
      (o_rd 168 cuts_0 (((4 : Int32) * l4) + (1 : Int32))).bind fun v25 =>
      (fM_area ((4 : Int32) * l4) cuts_0).bind fun s26 =>
      (fM_drawn s26 seed_0).bind fun s27 =>
      (o_rd 168 cuts_0 ((4 : Int32) * l4)).bind fun v28 =>
      (o_divI s27.1 ((v24 - v25) + (1 : Int32))).bind fun v29 =>
      (o_rd 168 cuts_0 (((4 : Int32) * l4) + (1 : Int32))).bind fun v30 =>
      (o_remI s27.1 ((v24 - v25) + (1 : Int32))).bind fun v31 =>
      (fM_area ((4 : Int32) * l4) cuts_0).bind fun s32 =>
      (o_wrI 84 s_0 ((((7 : Int32) * (v28 + v29)) + v30) + v31) s32).bind fun w33 =>
      fM_makes_L266 F l2 cuts_0 N (l4 + (1 : Int32)) s27.2 w33
def fM_makes (F : Nat) (x1 : Int32) (seed_0 : Int64) (cuts_0 : Nat → Int32) (s_0 : Nat → Int32) : Option (Int32 × Int64 × (Nat → Int32) × (Nat → Int32)) :=
  (o_wrI 168 cuts_0 (0 : Int32) (0 : Int32)).bind fun w1 =>
  (o_wrI 168 w1 (1 : Int32) (0 : Int32)).bind fun w2 =>
  (o_wrI 168 w2 (2 : Int32) (5 : Int32)).bind fun w3 =>
  (o_wrI 168 w3 (3 : Int32) (6 : Int32)).bind fun w4 =>
  (fM_makes_L39 F F (1 : Int32) (0 : Int32) w4 x1.toInt64).bind fun r21 =>
  (fM_makes_L242 F F (0 : Int32) s_0).bind fun r23 =>
  (fM_makes_L266 F r21.1 r21.2.2.1 F (0 : Int32) r21.2.2.2 r23.2).bind fun r34 =>
  some (r21.1, r34.2.1, r21.2.2.1, r34.2.2)
abbrev wl_fM_makes (cI cZ cJ cQ : ClassId) (a_0 a_0cuts a_0s a_0before a_0slots a_0isKept a_0buffer a_0cells a_0owner a_0code a_0table a_0isOver a_0isRuled a_0all a_0some a_0chosen a_0last a_0corner a_0wide a_0aside : Nat) (known_0 : Int32) (length_0 : Int32) (thrown_0 : Int32) (many_0 : Int32) (round_0 : Int32) (seed_0 : Int64) (hash_0 : Int64) (cuts_0 : Nat → Int32) (s_0 : Nat → Int32) : va_W := [(a_0, .inr (10, [.ref a_0s, .ref a_0before, .int known_0, .ref a_0slots, .ref a_0isKept, .ref a_0buffer, .int length_0, .int thrown_0, .ref a_0cells, .ref a_0owner, .ref a_0code, .int many_0, .ref a_0table, .ref a_0isOver, .ref a_0isRuled, .ref a_0all, .ref a_0some, .int round_0, .ref a_0chosen, .ref a_0last, .ref a_0corner, .ref a_0wide, .ref a_0cuts, .long seed_0, .ref a_0aside, .long hash_0])), (a_0cuts, .inl (cI, 168, .inl cuts_0)), (a_0s, .inl (cI, 84, .inl s_0))]
def fM_make (F : Nat) (x1 : Int32) (thrown_0 : Int32) (known_0 : Int32) (before_0 : Nat → Int32) (s_0 : Nat → Int32) (seed_0 : Int64) (cuts_0 : Nat → Int32) : Option (Int32 × Int32 × (Nat → Int32) × Int32 × Int64 × (Nat → Int32) × (Nat → Int32)) :=
  (fM_in x1 (0 : Int32) (999999 : Int32)).bind fun s1 =>
  if ¬ s1 = (0 : Int32) then
    (fM_save F known_0 before_0 s_0).bind fun s2 =>
    (fM_makes F x1 seed_0 cuts_0 s_0).bind fun s3 =>
    some (s3.1, (0 : Int32), s2.1, s2.2, s3.2.1, s3.2.2.1, s3.2.2.2)
  else
    (fM_throwing (1 : Int32) (0 : Int32)).bind fun s4 =>
    some (s4.1, s4.2, before_0, known_0, seed_0, cuts_0, s_0)
abbrev wl_fM_make (cI cZ cJ cQ : ClassId) (a_0 a_0before a_0s a_0cuts a_0slots a_0isKept a_0buffer a_0cells a_0owner a_0code a_0table a_0isOver a_0isRuled a_0all a_0some a_0chosen a_0last a_0corner a_0wide a_0aside : Nat) (known_0 : Int32) (length_0 : Int32) (thrown_0 : Int32) (many_0 : Int32) (round_0 : Int32) (seed_0 : Int64) (hash_0 : Int64) (before_0 : Nat → Int32) (s_0 : Nat → Int32) (cuts_0 : Nat → Int32) : va_W := [(a_0, .inr (10, [.ref a_0s, .ref a_0before, .int known_0, .ref a_0slots, .ref a_0isKept, .ref a_0buffer, .int length_0, .int thrown_0, .ref a_0cells, .ref a_0owner, .ref a_0code, .int many_0, .ref a_0table, .ref a_0isOver, .ref a_0isRuled, .ref a_0all, .ref a_0some, .int round_0, .ref a_0chosen, .ref a_0last, .ref a_0corner, .ref a_0wide, .ref a_0cuts, .long seed_0, .ref a_0aside, .long hash_0])), (a_0before, .inl (cI, 504, .inl before_0)), (a_0s, .inl (cI, 84, .inl s_0)), (a_0cuts, .inl (cI, 168, .inl cuts_0))]
def fM_isRectangle (x0 : Int32) (x1 : Int32) (x2 : Int32) (x3 : Int32) : Option (Int32) :=
  (fM_isCell x0 x1).bind fun s1 =>
  if s1 = (0 : Int32) then
    some (0 : Int32)
  else
    (fM_in x2 x0 (5 : Int32)).bind fun s2 =>
    if s2 = (0 : Int32) then
      some (0 : Int32)
    else
      (fM_in x3 x1 (6 : Int32)).bind fun s3 =>
      if s3 = (0 : Int32) then
        some (0 : Int32)
      else
        some (1 : Int32)
abbrev wl_fM_isRectangle (cI cZ cJ cQ : ClassId) : va_W := []
def fM_draw (F : Nat) (x1 : Int32) (x2 : Int32) (x3 : Int32) (x4 : Int32) (thrown_0 : Int32) (s_0 : Nat → Int32) (known_0 : Int32) (before_0 : Nat → Int32) : Option (Int32 × Int32 × (Nat → Int32) × Int32 × (Nat → Int32)) :=
  (fM_isRectangle x1 x2 x3 x4).bind fun s1 =>
  if ¬ s1 = (0 : Int32) then
    (fM_rectangle F x1 x2 x3 x4).bind fun s2 =>
    (fM_against F s2 s_0).bind fun s3 =>
    if s3 = (0 : Int32) then
      (fM_save F known_0 before_0 s_0).bind fun s4 =>
      (fM_rectangle F x1 x2 x3 x4).bind fun s5 =>
      (fM_draws F s5 s_0).bind fun s6 =>
      (fM_taken F s6).bind fun s7 =>
      (fM_bits F s7).bind fun s8 =>
      some (s8, (0 : Int32), s4.1, s4.2, s6)
    else
      (fM_throwing (2 : Int32) (0 : Int32)).bind fun s9 =>
      some (s9.1, s9.2, before_0, known_0, s_0)
  else
    (fM_throwing (1 : Int32) (0 : Int32)).bind fun s10 =>
    some (s10.1, s10.2, before_0, known_0, s_0)
abbrev wl_fM_draw (cI cZ cJ cQ : ClassId) (a_0 a_0s a_0before a_0slots a_0isKept a_0buffer a_0cells a_0owner a_0code a_0table a_0isOver a_0isRuled a_0all a_0some a_0chosen a_0last a_0corner a_0wide a_0cuts a_0aside : Nat) (known_0 : Int32) (length_0 : Int32) (thrown_0 : Int32) (many_0 : Int32) (round_0 : Int32) (seed_0 : Int64) (hash_0 : Int64) (s_0 : Nat → Int32) (before_0 : Nat → Int32) : va_W := [(a_0, .inr (10, [.ref a_0s, .ref a_0before, .int known_0, .ref a_0slots, .ref a_0isKept, .ref a_0buffer, .int length_0, .int thrown_0, .ref a_0cells, .ref a_0owner, .ref a_0code, .int many_0, .ref a_0table, .ref a_0isOver, .ref a_0isRuled, .ref a_0all, .ref a_0some, .int round_0, .ref a_0chosen, .ref a_0last, .ref a_0corner, .ref a_0wide, .ref a_0cuts, .long seed_0, .ref a_0aside, .long hash_0])), (a_0s, .inl (cI, 84, .inl s_0)), (a_0before, .inl (cI, 504, .inl before_0))]
def fM_isThere (x1 : Int32) (x2 : Int32) (x3 : Int32) (s_0 : Nat → Int32) (thrown_0 : Int32) : Option (Int32 × Int32) :=
  (fM_isCell x1 x2).bind fun s1 =>
  (show Option (Int32) from
    if ¬ s1 = (0 : Int32) then
      if x3 = (0 : Int32) then
        some (0 : Int32)
      else
        (o_rd 84 s_0 (((42 : Int32) + ((7 : Int32) * x1)) + x2)).bind fun v2 =>
        if ¬ v2 = (0 : Int32) then
          some (0 : Int32)
        else
          some (2 : Int32)
    else
      some (1 : Int32)).bind fun j3 =>
  if ¬ j3 = (0 : Int32) then
    some ((0 : Int32), j3)
  else
    some ((1 : Int32), j3)
abbrev wl_fM_isThere (cI cZ cJ cQ : ClassId) (a_0 a_0s a_0before a_0slots a_0isKept a_0buffer a_0cells a_0owner a_0code a_0table a_0isOver a_0isRuled a_0all a_0some a_0chosen a_0last a_0corner a_0wide a_0cuts a_0aside : Nat) (known_0 : Int32) (length_0 : Int32) (thrown_0 : Int32) (many_0 : Int32) (round_0 : Int32) (seed_0 : Int64) (hash_0 : Int64) (s_0 : Nat → Int32) : va_W := [(a_0, .inr (10, [.ref a_0s, .ref a_0before, .int known_0, .ref a_0slots, .ref a_0isKept, .ref a_0buffer, .int length_0, .int thrown_0, .ref a_0cells, .ref a_0owner, .ref a_0code, .int many_0, .ref a_0table, .ref a_0isOver, .ref a_0isRuled, .ref a_0all, .ref a_0some, .int round_0, .ref a_0chosen, .ref a_0last, .ref a_0corner, .ref a_0wide, .ref a_0cuts, .long seed_0, .ref a_0aside, .long hash_0])), (a_0s, .inl (cI, 84, .inl s_0))]
def fM_erase_L30 (F : Nat) (l3 : Int64) : Nat → Int32 → (Nat → Int32) → Option (Int32 × (Nat → Int32))
  | 0, _, _ => none
  | N + 1, l5, s_0 =>
    if (42 : Int32) ≤ l5 then
      some (l5, s_0)
    else
      (fM_has l3 l5).bind fun s4 =>
      (show Option (Int32) from
        if s4 = (0 : Int32) then
          (o_rd 84 s_0 ((42 : Int32) + l5)).bind fun v5 =>
          some v5
        else
          some (0 : Int32)).bind fun j6 =>
      (o_wrI 84 s_0 ((42 : Int32) + l5) j6).bind fun w7 =>
      fM_erase_L30 F l3 N (l5 + (1 : Int32)) w7
def fM_erase (F : Nat) (x1 : Int32) (x2 : Int32) (s_0 : Nat → Int32) (thrown_0 : Int32) (known_0 : Int32) (before_0 : Nat → Int32) : Option (Int32 × Int32 × (Nat → Int32) × Int32 × (Nat → Int32)) :=
  (fM_isThere x1 x2 (1 : Int32) s_0 thrown_0).bind fun s1 =>
  if ¬ s1.1 = (0 : Int32) then
    (fM_save F known_0 before_0 s_0).bind fun s2 =>
    (fM_fieldOf F (((7 : Int32) * x1) + x2) s_0).bind fun s3 =>
    (fM_erase_L30 F s3 F (0 : Int32) s_0).bind fun r8 =>
    (fM_bits F s3).bind fun s9 =>
    some (s9, s1.2, s2.1, s2.2, r8.2)
  else
    some ((0 : Int32), s1.2, before_0, known_0, s_0)
abbrev wl_fM_erase (cI cZ cJ cQ : ClassId) (a_0 a_0s a_0before a_0slots a_0isKept a_0buffer a_0cells a_0owner a_0code a_0table a_0isOver a_0isRuled a_0all a_0some a_0chosen a_0last a_0corner a_0wide a_0cuts a_0aside : Nat) (known_0 : Int32) (length_0 : Int32) (thrown_0 : Int32) (many_0 : Int32) (round_0 : Int32) (seed_0 : Int64) (hash_0 : Int64) (s_0 : Nat → Int32) (before_0 : Nat → Int32) : va_W := [(a_0, .inr (10, [.ref a_0s, .ref a_0before, .int known_0, .ref a_0slots, .ref a_0isKept, .ref a_0buffer, .int length_0, .int thrown_0, .ref a_0cells, .ref a_0owner, .ref a_0code, .int many_0, .ref a_0table, .ref a_0isOver, .ref a_0isRuled, .ref a_0all, .ref a_0some, .int round_0, .ref a_0chosen, .ref a_0last, .ref a_0corner, .ref a_0wide, .ref a_0cuts, .long seed_0, .ref a_0aside, .long hash_0])), (a_0s, .inl (cI, 84, .inl s_0)), (a_0before, .inl (cI, 504, .inl before_0))]
def fM_eraseAll_L16 (F : Nat) : Nat → Int32 → (Nat → Int32) → Option (Int32 × (Nat → Int32))
  | 0, _, _ => none
  | N + 1, l2, s_0 =>
    if (42 : Int32) ≤ l2 then
      some (l2, s_0)
    else
      (o_wrI 84 s_0 ((42 : Int32) + l2) (0 : Int32)).bind fun w3 =>
      fM_eraseAll_L16 F N (l2 + (1 : Int32)) w3
def fM_eraseAll (F : Nat) (thrown_0 : Int32) (known_0 : Int32) (before_0 : Nat → Int32) (s_0 : Nat → Int32) : Option (Int32 × Int32 × (Nat → Int32) × Int32 × (Nat → Int32)) :=
  (fM_save F known_0 before_0 s_0).bind fun s1 =>
  (fM_allFields F s_0).bind fun s2 =>
  (fM_eraseAll_L16 F F (0 : Int32) s_0).bind fun r4 =>
  some (s2, (0 : Int32), s1.1, s1.2, r4.2)
abbrev wl_fM_eraseAll (cI cZ cJ cQ : ClassId) (a_0 a_0before a_0s a_0slots a_0isKept a_0buffer a_0cells a_0owner a_0code a_0table a_0isOver a_0isRuled a_0all a_0some a_0chosen a_0last a_0corner a_0wide a_0cuts a_0aside : Nat) (known_0 : Int32) (length_0 : Int32) (thrown_0 : Int32) (many_0 : Int32) (round_0 : Int32) (seed_0 : Int64) (hash_0 : Int64) (before_0 : Nat → Int32) (s_0 : Nat → Int32) : va_W := [(a_0, .inr (10, [.ref a_0s, .ref a_0before, .int known_0, .ref a_0slots, .ref a_0isKept, .ref a_0buffer, .int length_0, .int thrown_0, .ref a_0cells, .ref a_0owner, .ref a_0code, .int many_0, .ref a_0table, .ref a_0isOver, .ref a_0isRuled, .ref a_0all, .ref a_0some, .int round_0, .ref a_0chosen, .ref a_0last, .ref a_0corner, .ref a_0wide, .ref a_0cuts, .long seed_0, .ref a_0aside, .long hash_0])), (a_0before, .inl (cI, 504, .inl before_0)), (a_0s, .inl (cI, 84, .inl s_0))]
def fM_settle_L33 (F : Nat) (many_0 : Int32) (owner_0 : Nat → Int32) (isOver_0 : Nat → Int32) : Nat → Int32 → (Nat → Int32) → Option (Int32 × (Nat → Int32))
  | 0, _, _ => none
  | N + 1, l2, isRuled_0 =>
    if many_0 ≤ l2 then
      some (l2, isRuled_0)
    else
      (o_rd 1200 isOver_0 l2).bind fun v5 =>
      (show Option (Int32) from
        if ¬ v5 = (0 : Int32) then
          some (0 : Int32)
        else
          (o_rd 1200 owner_0 l2).bind fun v6 =>
          (fM_leftIn F v6 many_0 owner_0 isOver_0).bind fun s7 =>
          if ¬ s7 = (1 : Int32) then
            some (0 : Int32)
          else
            some (1 : Int32)).bind fun j8 =>
      (o_wrZ 1200 isRuled_0 l2 j8).bind fun w9 =>
      fM_settle_L33 F many_0 owner_0 isOver_0 N (l2 + (1 : Int32)) w9
def fM_settle_L83 (F : Nat) (many_0 : Int32) (cells_0 : Nat → Int64) (isRuled_0 : Nat → Int32) : Nat → Int32 → (Nat → Int32) → Option (Int32 × (Nat → Int32))
  | 0, _, _ => none
  | N + 1, l2, s_0 =>
    if many_0 ≤ l2 then
      some (l2, s_0)
    else
      (o_rd 1200 isRuled_0 l2).bind fun v11 =>
      (show Option ((Nat → Int32)) from
        if v11 = (0 : Int32) then
          some s_0
        else
          (o_rd 1200 cells_0 l2).bind fun v12 =>
          (fM_draws F v12 s_0).bind fun s13 =>
          some s13).bind fun j14 =>
      fM_settle_L83 F many_0 cells_0 isRuled_0 N (l2 + (1 : Int32)) j14
def fM_settle (F : Nat) (thrown_0 : Int32) (many_0 : Int32) (table_0 : Nat → Int32) (s_0 : Nat → Int32) (cells_0 : Nat → Int64) (owner_0 : Nat → Int32) (code_0 : Nat → Int32) (isOver_0 : Nat → Int32) (round_0 : Int32) (all_0 : Nat → Int64) (some_0 : Nat → Int64) (isRuled_0 : Nat → Int32) (known_0 : Int32) (before_0 : Nat → Int32) : Option (Int32 × Int32 × Int32 × (Nat → Int32) × (Nat → Int64) × (Nat → Int32) × (Nat → Int32) × (Nat → Int32) × Int32 × (Nat → Int64) × (Nat → Int64) × (Nat → Int32) × (Nat → Int32) × Int32 × (Nat → Int32)) :=
  (fM_rules F many_0 table_0 s_0 cells_0 owner_0 code_0 isOver_0 round_0 all_0 some_0 isRuled_0).bind fun s1 =>
  (fM_isAgainst F s_0 s1.2.2.2.2.2.2.2.2.1).bind fun s2 =>
  if s2 = (0 : Int32) then
    (fM_save F known_0 before_0 s_0).bind fun s3 =>
    (fM_sure F s_0 s1.1 s1.2.2.2.1 s1.2.2.2.2.2.1).bind fun s4 =>
    (fM_settle_L33 F s1.1 s1.2.2.2.1 s1.2.2.2.2.2.1 F (0 : Int32) s1.2.2.2.2.2.2.2.2.2).bind fun r10 =>
    (fM_settle_L83 F s1.1 s1.2.2.1 r10.2 F (0 : Int32) s_0).bind fun r15 =>
    some (s4, (0 : Int32), s1.1, s1.2.1, s1.2.2.1, s1.2.2.2.1, s1.2.2.2.2.1, s1.2.2.2.2.2.1, s1.2.2.2.2.2.2.1, s1.2.2.2.2.2.2.2.1, s1.2.2.2.2.2.2.2.2.1, r10.2, s3.1, s3.2, r15.2)
  else
    (fM_throwing (1 : Int32) (0 : Int32)).bind fun s16 =>
    some (s16.1, s16.2, s1.1, s1.2.1, s1.2.2.1, s1.2.2.2.1, s1.2.2.2.2.1, s1.2.2.2.2.2.1, s1.2.2.2.2.2.2.1, s1.2.2.2.2.2.2.2.1, s1.2.2.2.2.2.2.2.2.1, s1.2.2.2.2.2.2.2.2.2, before_0, known_0, s_0)
abbrev wl_fM_settle (cI cZ cJ cQ : ClassId) (a_0 a_0table a_0s a_0cells a_0owner a_0code a_0isOver a_0all a_0some a_0isRuled a_0before a_0slots a_0isKept a_0buffer a_0chosen a_0last a_0corner a_0wide a_0cuts a_0aside : Nat) (known_0 : Int32) (length_0 : Int32) (thrown_0 : Int32) (many_0 : Int32) (round_0 : Int32) (seed_0 : Int64) (hash_0 : Int64) (table_0 : Nat → Int32) (s_0 : Nat → Int32) (cells_0 : Nat → Int64) (owner_0 : Nat → Int32) (code_0 : Nat → Int32) (isOver_0 : Nat → Int32) (all_0 : Nat → Int64) (some_0 : Nat → Int64) (isRuled_0 : Nat → Int32) (before_0 : Nat → Int32) : va_W := [(a_0, .inr (10, [.ref a_0s, .ref a_0before, .int known_0, .ref a_0slots, .ref a_0isKept, .ref a_0buffer, .int length_0, .int thrown_0, .ref a_0cells, .ref a_0owner, .ref a_0code, .int many_0, .ref a_0table, .ref a_0isOver, .ref a_0isRuled, .ref a_0all, .ref a_0some, .int round_0, .ref a_0chosen, .ref a_0last, .ref a_0corner, .ref a_0wide, .ref a_0cuts, .long seed_0, .ref a_0aside, .long hash_0])), (a_0table, .inl (cI, 252, .inl table_0)), (a_0s, .inl (cI, 84, .inl s_0)), (a_0cells, .inl (cJ, 1200, .inr (.inl cells_0))), (a_0owner, .inl (cI, 1200, .inl owner_0)), (a_0code, .inl (cI, 1200, .inl code_0)), (a_0isOver, .inl (cZ, 1200, .inl isOver_0)), (a_0all, .inl (cJ, 42, .inr (.inl all_0))), (a_0some, .inl (cJ, 42, .inr (.inl some_0))), (a_0isRuled, .inl (cZ, 1200, .inl isRuled_0)), (a_0before, .inl (cI, 504, .inl before_0))]
def fM_finish_L30 (F : Nat) (corner_0 : Nat → Int32) : Nat → Int32 → (Nat → Int32) → Option (Int32 × (Nat → Int32))
  | 0, _, _ => none
  | N + 1, l2, s_0 =>
    if (42 : Int32) ≤ l2 then
      some (l2, s_0)
    else
      (o_rd 42 corner_0 l2).bind fun v4 =>
      (o_wrI 84 s_0 ((42 : Int32) + l2) (v4 + (1 : Int32))).bind fun w5 =>
      fM_finish_L30 F corner_0 N (l2 + (1 : Int32)) w5
def fM_finish (F : Nat) (thrown_0 : Int32) (many_0 : Int32) (table_0 : Nat → Int32) (s_0 : Nat → Int32) (cells_0 : Nat → Int64) (owner_0 : Nat → Int32) (code_0 : Nat → Int32) (last_0 : Nat → Int32) (chosen_0 : Nat → Int32) (corner_0 : Nat → Int32) (wide_0 : Nat → Int32) (known_0 : Int32) (before_0 : Nat → Int32) : Option (Int32 × Int32 × Int32 × (Nat → Int32) × (Nat → Int64) × (Nat → Int32) × (Nat → Int32) × (Nat → Int32) × (Nat → Int32) × (Nat → Int32) × (Nat → Int32) × (Nat → Int32) × Int32 × (Nat → Int32)) :=
  (fM_ways F (1 : Int32) many_0 table_0 s_0 cells_0 owner_0 code_0 last_0 chosen_0 corner_0 wide_0).bind fun s1 =>
  if ¬ s1.1 = (0 : Int32) then
    (fM_save F known_0 before_0 s_0).bind fun s2 =>
    (fM_allFields F s_0).bind fun s3 =>
    (fM_finish_L30 F s1.2.2.2.2.2.2.2.2.1 F (0 : Int32) s_0).bind fun r6 =>
    (fM_allFields F r6.2).bind fun s7 =>
    some ((s7 - s3), (0 : Int32), s1.2.1, s1.2.2.1, s1.2.2.2.1, s1.2.2.2.2.1, s1.2.2.2.2.2.1, s1.2.2.2.2.2.2.1, s1.2.2.2.2.2.2.2.1, s1.2.2.2.2.2.2.2.2.1, s1.2.2.2.2.2.2.2.2.2, s2.1, s2.2, r6.2)
  else
    (fM_throwing (1 : Int32) (0 : Int32)).bind fun s8 =>
    some (s8.1, s8.2, s1.2.1, s1.2.2.1, s1.2.2.2.1, s1.2.2.2.2.1, s1.2.2.2.2.2.1, s1.2.2.2.2.2.2.1, s1.2.2.2.2.2.2.2.1, s1.2.2.2.2.2.2.2.2.1, s1.2.2.2.2.2.2.2.2.2, before_0, known_0, s_0)
abbrev wl_fM_finish (cI cZ cJ cQ : ClassId) (a_0 a_0table a_0s a_0cells a_0owner a_0code a_0last a_0chosen a_0corner a_0wide a_0before a_0slots a_0isKept a_0buffer a_0isOver a_0isRuled a_0all a_0some a_0cuts a_0aside : Nat) (known_0 : Int32) (length_0 : Int32) (thrown_0 : Int32) (many_0 : Int32) (round_0 : Int32) (seed_0 : Int64) (hash_0 : Int64) (table_0 : Nat → Int32) (s_0 : Nat → Int32) (cells_0 : Nat → Int64) (owner_0 : Nat → Int32) (code_0 : Nat → Int32) (last_0 : Nat → Int32) (chosen_0 : Nat → Int32) (corner_0 : Nat → Int32) (wide_0 : Nat → Int32) (before_0 : Nat → Int32) : va_W := [(a_0, .inr (10, [.ref a_0s, .ref a_0before, .int known_0, .ref a_0slots, .ref a_0isKept, .ref a_0buffer, .int length_0, .int thrown_0, .ref a_0cells, .ref a_0owner, .ref a_0code, .int many_0, .ref a_0table, .ref a_0isOver, .ref a_0isRuled, .ref a_0all, .ref a_0some, .int round_0, .ref a_0chosen, .ref a_0last, .ref a_0corner, .ref a_0wide, .ref a_0cuts, .long seed_0, .ref a_0aside, .long hash_0])), (a_0table, .inl (cI, 252, .inl table_0)), (a_0s, .inl (cI, 84, .inl s_0)), (a_0cells, .inl (cJ, 1200, .inr (.inl cells_0))), (a_0owner, .inl (cI, 1200, .inl owner_0)), (a_0code, .inl (cI, 1200, .inl code_0)), (a_0last, .inl (cI, 43, .inl last_0)), (a_0chosen, .inl (cI, 43, .inl chosen_0)), (a_0corner, .inl (cI, 42, .inl corner_0)), (a_0wide, .inl (cI, 42, .inl wide_0)), (a_0before, .inl (cI, 504, .inl before_0))]
def fM_append (x1 : Int32) (thrown_0 : Int32) (length_0 : Int32) (buffer_0 : Nat → Int32) : Option (Int32 × Int32 × (Nat → Int32) × Int32) :=
  (fM_in x1 (33 : Int32) (126 : Int32)).bind fun s1 =>
  if ¬ s1 = (0 : Int32) then
    if ¬ length_0 = (60 : Int32) then
      (o_wrI 60 buffer_0 length_0 x1).bind fun w2 =>
      some ((length_0 + (1 : Int32)), (0 : Int32), w2, (length_0 + (1 : Int32)))
    else
      (fM_throwing (2 : Int32) (0 : Int32)).bind fun s3 =>
      some (s3.1, s3.2, buffer_0, length_0)
  else
    (fM_throwing (1 : Int32) (0 : Int32)).bind fun s4 =>
    some (s4.1, s4.2, buffer_0, length_0)
abbrev wl_fM_append (cI cZ cJ cQ : ClassId) (a_0 a_0buffer a_0s a_0before a_0slots a_0isKept a_0cells a_0owner a_0code a_0table a_0isOver a_0isRuled a_0all a_0some a_0chosen a_0last a_0corner a_0wide a_0cuts a_0aside : Nat) (known_0 : Int32) (length_0 : Int32) (thrown_0 : Int32) (many_0 : Int32) (round_0 : Int32) (seed_0 : Int64) (hash_0 : Int64) (buffer_0 : Nat → Int32) : va_W := [(a_0, .inr (10, [.ref a_0s, .ref a_0before, .int known_0, .ref a_0slots, .ref a_0isKept, .ref a_0buffer, .int length_0, .int thrown_0, .ref a_0cells, .ref a_0owner, .ref a_0code, .int many_0, .ref a_0table, .ref a_0isOver, .ref a_0isRuled, .ref a_0all, .ref a_0some, .int round_0, .ref a_0chosen, .ref a_0last, .ref a_0corner, .ref a_0wide, .ref a_0cuts, .long seed_0, .ref a_0aside, .long hash_0])), (a_0buffer, .inl (cI, 60, .inl buffer_0))]
def fM_clearBuffer (thrown_0 : Int32) (length_0 : Int32) : Option (Int32 × Int32 × Int32) :=
  some (length_0, (0 : Int32), (0 : Int32))
abbrev wl_fM_clearBuffer (cI cZ cJ cQ : ClassId) (a_0 a_0s a_0before a_0slots a_0isKept a_0buffer a_0cells a_0owner a_0code a_0table a_0isOver a_0isRuled a_0all a_0some a_0chosen a_0last a_0corner a_0wide a_0cuts a_0aside : Nat) (known_0 : Int32) (length_0 : Int32) (thrown_0 : Int32) (many_0 : Int32) (round_0 : Int32) (seed_0 : Int64) (hash_0 : Int64) : va_W := [(a_0, .inr (10, [.ref a_0s, .ref a_0before, .int known_0, .ref a_0slots, .ref a_0isKept, .ref a_0buffer, .int length_0, .int thrown_0, .ref a_0cells, .ref a_0owner, .ref a_0code, .int many_0, .ref a_0table, .ref a_0isOver, .ref a_0isRuled, .ref a_0all, .ref a_0some, .int round_0, .ref a_0chosen, .ref a_0last, .ref a_0corner, .ref a_0wide, .ref a_0cuts, .long seed_0, .ref a_0aside, .long hash_0]))]
def fM_error_L2 (F : Nat) (length_0 : Int32) (buffer_0 : Nat → Int32) : Nat → Int32 → Option (Int32)
  | 0, _ => none
  | N + 1, l1 =>
    if length_0 ≤ l1 then
      some length_0
    else
      (o_rd 60 buffer_0 l1).bind fun v1 =>
      (show Option (Int32) from
        if v1 = (46 : Int32) then
          some (1 : Int32)
        else
          (fM_in v1 (49 : Int32) (57 : Int32)).bind fun s2 =>
          if ¬ s2 = (0 : Int32) then
            some (1 : Int32)
          else
            (fM_in v1 (97 : Int32) (107 : Int32)).bind fun s3 =>
            if s3 = (0 : Int32) then
              some (0 : Int32)
            else
              some (1 : Int32)).bind fun j4 =>
      if j4 = (0 : Int32) then
        some l1
      else
        if ¬ l1 = (7 : Int32) then
          fM_error_L2 F length_0 buffer_0 N (l1 + (1 : Int32))
        else
          some l1
def fM_error (F : Nat) (length_0 : Int32) (buffer_0 : Nat → Int32) : Option (Int32) :=
  (fM_error_L2 F length_0 buffer_0 F (0 : Int32))
abbrev wl_fM_error (cI cZ cJ cQ : ClassId) (a_0 a_0buffer a_0s a_0before a_0slots a_0isKept a_0cells a_0owner a_0code a_0table a_0isOver a_0isRuled a_0all a_0some a_0chosen a_0last a_0corner a_0wide a_0cuts a_0aside : Nat) (known_0 : Int32) (length_0 : Int32) (thrown_0 : Int32) (many_0 : Int32) (round_0 : Int32) (seed_0 : Int64) (hash_0 : Int64) (buffer_0 : Nat → Int32) : va_W := [(a_0, .inr (10, [.ref a_0s, .ref a_0before, .int known_0, .ref a_0slots, .ref a_0isKept, .ref a_0buffer, .int length_0, .int thrown_0, .ref a_0cells, .ref a_0owner, .ref a_0code, .int many_0, .ref a_0table, .ref a_0isOver, .ref a_0isRuled, .ref a_0all, .ref a_0some, .int round_0, .ref a_0chosen, .ref a_0last, .ref a_0corner, .ref a_0wide, .ref a_0cuts, .long seed_0, .ref a_0aside, .long hash_0])), (a_0buffer, .inl (cI, 60, .inl buffer_0))]
def fM_firstError (F : Nat) (thrown_0 : Int32) (length_0 : Int32) (buffer_0 : Nat → Int32) : Option (Int32 × Int32) :=
  (fM_error F length_0 buffer_0).bind fun s1 =>
  some (s1, (0 : Int32))
abbrev wl_fM_firstError (cI cZ cJ cQ : ClassId) (a_0 a_0buffer a_0s a_0before a_0slots a_0isKept a_0cells a_0owner a_0code a_0table a_0isOver a_0isRuled a_0all a_0some a_0chosen a_0last a_0corner a_0wide a_0cuts a_0aside : Nat) (known_0 : Int32) (length_0 : Int32) (thrown_0 : Int32) (many_0 : Int32) (round_0 : Int32) (seed_0 : Int64) (hash_0 : Int64) (buffer_0 : Nat → Int32) : va_W := [(a_0, .inr (10, [.ref a_0s, .ref a_0before, .int known_0, .ref a_0slots, .ref a_0isKept, .ref a_0buffer, .int length_0, .int thrown_0, .ref a_0cells, .ref a_0owner, .ref a_0code, .int many_0, .ref a_0table, .ref a_0isOver, .ref a_0isRuled, .ref a_0all, .ref a_0some, .int round_0, .ref a_0chosen, .ref a_0last, .ref a_0corner, .ref a_0wide, .ref a_0cuts, .long seed_0, .ref a_0aside, .long hash_0])), (a_0buffer, .inl (cI, 60, .inl buffer_0))]
def fM_writeRow_L51 (F : Nat) (l1 : Int32) (s_0 : Nat → Int32) : Nat → Int32 → Int32 → Option (Int32 × Int32)
  | 0, _, _ => none
  | N + 1, l2, thrown_0 =>
    if (((7 : Int32) * l1) + (7 : Int32)) ≤ l2 then
      some (l2, thrown_0)
    else
      (o_rd 84 s_0 ((42 : Int32) + l2)).bind fun v4 =>
      (show Option (Int32) from
        if v4 ≤ (0 : Int32) then
          some thrown_0
        else
          some (3 : Int32)).bind fun j5 =>
      fM_writeRow_L51 F l1 s_0 N (l2 + (1 : Int32)) j5
def fM_writeRow_L109 (F : Nat) (l1 : Int32) (buffer_0 : Nat → Int32) : Nat → Int32 → Int32 → (Nat → Int32) → Option (Int32 × Int32 × (Nat → Int32))
  | 0, _, _, _ => none
  | N + 1, l2, l3, s_0 =>
    if (7 : Int32) ≤ l3 then
      some (l2, l3, s_0)
    else
      (o_rd 60 buffer_0 l3).bind fun v8 =>
      (show Option (Int32) from
        if ¬ v8 = (46 : Int32) then
          if v8 < (97 : Int32) then
            some (v8 - (48 : Int32))
          else
            some ((v8 - (97 : Int32)) + (10 : Int32))
        else
          some (0 : Int32)).bind fun j9 =>
      (o_wrI 84 s_0 (((7 : Int32) * l1) + l3) j9).bind fun w10 =>
      (show Option (Int32) from
        if j9 ≤ (0 : Int32) then
          some (0 : Int32)
        else
          some (1 : Int32)).bind fun j11 =>
      fM_writeRow_L109 F l1 buffer_0 N (l2 + j11) (l3 + (1 : Int32)) w10
def fM_writeRow (F : Nat) (x1 : Int32) (thrown_0 : Int32) (length_0 : Int32) (buffer_0 : Nat → Int32) (s_0 : Nat → Int32) (known_0 : Int32) (before_0 : Nat → Int32) : Option (Int32 × Int32 × (Nat → Int32) × Int32 × (Nat → Int32) × Int32) :=
  (fM_in x1 (0 : Int32) (5 : Int32)).bind fun s1 =>
  if ¬ s1 = (0 : Int32) then
    if ¬ length_0 = (7 : Int32) then
      (fM_throwing (2 : Int32) (0 : Int32)).bind fun s2 =>
      some (s2.1, s2.2, before_0, known_0, s_0, length_0)
    else
      (fM_error F length_0 buffer_0).bind fun s3 =>
      if length_0 ≤ s3 then
        (fM_writeRow_L51 F x1 s_0 F ((7 : Int32) * x1) (0 : Int32)).bind fun r6 =>
        if r6.2 ≤ (0 : Int32) then
          (fM_save F known_0 before_0 s_0).bind fun s7 =>
          (fM_writeRow_L109 F x1 buffer_0 F (0 : Int32) (0 : Int32) s_0).bind fun r12 =>
          some (r12.1, r6.2, s7.1, s7.2, r12.2.2, (0 : Int32))
        else
          some ((0 : Int32), r6.2, before_0, known_0, s_0, length_0)
      else
        (fM_throwing (2 : Int32) (0 : Int32)).bind fun s13 =>
        some (s13.1, s13.2, before_0, known_0, s_0, length_0)
  else
    (fM_throwing (1 : Int32) (0 : Int32)).bind fun s14 =>
    some (s14.1, s14.2, before_0, known_0, s_0, length_0)
abbrev wl_fM_writeRow (cI cZ cJ cQ : ClassId) (a_0 a_0buffer a_0s a_0before a_0slots a_0isKept a_0cells a_0owner a_0code a_0table a_0isOver a_0isRuled a_0all a_0some a_0chosen a_0last a_0corner a_0wide a_0cuts a_0aside : Nat) (known_0 : Int32) (length_0 : Int32) (thrown_0 : Int32) (many_0 : Int32) (round_0 : Int32) (seed_0 : Int64) (hash_0 : Int64) (buffer_0 : Nat → Int32) (s_0 : Nat → Int32) (before_0 : Nat → Int32) : va_W := [(a_0, .inr (10, [.ref a_0s, .ref a_0before, .int known_0, .ref a_0slots, .ref a_0isKept, .ref a_0buffer, .int length_0, .int thrown_0, .ref a_0cells, .ref a_0owner, .ref a_0code, .int many_0, .ref a_0table, .ref a_0isOver, .ref a_0isRuled, .ref a_0all, .ref a_0some, .int round_0, .ref a_0chosen, .ref a_0last, .ref a_0corner, .ref a_0wide, .ref a_0cuts, .long seed_0, .ref a_0aside, .long hash_0])), (a_0buffer, .inl (cI, 60, .inl buffer_0)), (a_0s, .inl (cI, 84, .inl s_0)), (a_0before, .inl (cI, 504, .inl before_0))]
def fM_keep_L20 (F : Nat) (l1 : Int32) (thrown_0 : Int32) (s_0 : Nat → Int32) : Nat → Int32 → (Nat → Int32) → Option (Int32 × (Nat → Int32))
  | 0, _, _ => none
  | N + 1, l2, slots_0 =>
    if (84 : Int32) ≤ l2 then
      some (l2, slots_0)
    else
      if ¬ thrown_0 = (0 : Int32) then
        some (l2, slots_0)
      else
        (o_rd 84 s_0 l2).bind fun v3 =>
        (o_wrI 168 slots_0 (((84 : Int32) * l1) + l2) v3).bind fun w4 =>
        fM_keep_L20 F l1 thrown_0 s_0 N (l2 + (1 : Int32)) w4
def fM_keep (F : Nat) (x1 : Int32) (thrown_0 : Int32) (s_0 : Nat → Int32) (slots_0 : Nat → Int32) (isKept_0 : Nat → Int32) : Option (Int32 × (Nat → Int32) × (Nat → Int32)) :=
  (fM_in x1 (0 : Int32) (1 : Int32)).bind fun s1 =>
  (show Option (Int32) from
    if s1 = (0 : Int32) then
      some (1 : Int32)
    else
      some (0 : Int32)).bind fun j2 =>
  (fM_keep_L20 F x1 j2 s_0 F (0 : Int32) slots_0).bind fun r5 =>
  if ¬ j2 = (0 : Int32) then
    some (j2, r5.2, isKept_0)
  else
    (o_wrZ 2 isKept_0 x1 (1 : Int32)).bind fun w6 =>
    some (j2, r5.2, w6)
abbrev wl_fM_keep (cI cZ cJ cQ : ClassId) (a_0 a_0s a_0slots a_0isKept a_0before a_0buffer a_0cells a_0owner a_0code a_0table a_0isOver a_0isRuled a_0all a_0some a_0chosen a_0last a_0corner a_0wide a_0cuts a_0aside : Nat) (known_0 : Int32) (length_0 : Int32) (thrown_0 : Int32) (many_0 : Int32) (round_0 : Int32) (seed_0 : Int64) (hash_0 : Int64) (s_0 : Nat → Int32) (slots_0 : Nat → Int32) (isKept_0 : Nat → Int32) : va_W := [(a_0, .inr (10, [.ref a_0s, .ref a_0before, .int known_0, .ref a_0slots, .ref a_0isKept, .ref a_0buffer, .int length_0, .int thrown_0, .ref a_0cells, .ref a_0owner, .ref a_0code, .int many_0, .ref a_0table, .ref a_0isOver, .ref a_0isRuled, .ref a_0all, .ref a_0some, .int round_0, .ref a_0chosen, .ref a_0last, .ref a_0corner, .ref a_0wide, .ref a_0cuts, .long seed_0, .ref a_0aside, .long hash_0])), (a_0s, .inl (cI, 84, .inl s_0)), (a_0slots, .inl (cI, 168, .inl slots_0)), (a_0isKept, .inl (cZ, 2, .inl isKept_0))]
def fM_goBack_L44 (F : Nat) (l1 : Int32) (slots_0 : Nat → Int32) : Nat → Int32 → (Nat → Int32) → Option (Int32 × (Nat → Int32))
  | 0, _, _ => none
  | N + 1, l2, s_0 =>
    if (84 : Int32) ≤ l2 then
      some (l2, s_0)
    else
      (o_rd 168 slots_0 (((84 : Int32) * l1) + l2)).bind fun v5 =>
      (o_wrI 84 s_0 l2 v5).bind fun w6 =>
      fM_goBack_L44 F l1 slots_0 N (l2 + (1 : Int32)) w6
def fM_goBack (F : Nat) (x1 : Int32) (isKept_0 : Nat → Int32) (thrown_0 : Int32) (known_0 : Int32) (before_0 : Nat → Int32) (s_0 : Nat → Int32) (slots_0 : Nat → Int32) : Option (Int32 × (Nat → Int32) × Int32 × (Nat → Int32)) :=
  (fM_in x1 (0 : Int32) (1 : Int32)).bind fun s1 =>
  (show Option (Int32) from
    if ¬ s1 = (0 : Int32) then
      (o_rd 2 isKept_0 x1).bind fun v2 =>
      if v2 = (0 : Int32) then
        some (2 : Int32)
      else
        some (0 : Int32)
    else
      some (1 : Int32)).bind fun j3 =>
  if ¬ j3 = (0 : Int32) then
    some (j3, before_0, known_0, s_0)
  else
    (fM_save F known_0 before_0 s_0).bind fun s4 =>
    (fM_goBack_L44 F x1 slots_0 F (0 : Int32) s_0).bind fun r7 =>
    some (j3, s4.1, s4.2, r7.2)
abbrev wl_fM_goBack (cI cZ cJ cQ : ClassId) (a_0 a_0isKept a_0before a_0s a_0slots a_0buffer a_0cells a_0owner a_0code a_0table a_0isOver a_0isRuled a_0all a_0some a_0chosen a_0last a_0corner a_0wide a_0cuts a_0aside : Nat) (known_0 : Int32) (length_0 : Int32) (thrown_0 : Int32) (many_0 : Int32) (round_0 : Int32) (seed_0 : Int64) (hash_0 : Int64) (isKept_0 : Nat → Int32) (before_0 : Nat → Int32) (s_0 : Nat → Int32) (slots_0 : Nat → Int32) : va_W := [(a_0, .inr (10, [.ref a_0s, .ref a_0before, .int known_0, .ref a_0slots, .ref a_0isKept, .ref a_0buffer, .int length_0, .int thrown_0, .ref a_0cells, .ref a_0owner, .ref a_0code, .int many_0, .ref a_0table, .ref a_0isOver, .ref a_0isRuled, .ref a_0all, .ref a_0some, .int round_0, .ref a_0chosen, .ref a_0last, .ref a_0corner, .ref a_0wide, .ref a_0cuts, .long seed_0, .ref a_0aside, .long hash_0])), (a_0isKept, .inl (cZ, 2, .inl isKept_0)), (a_0before, .inl (cI, 504, .inl before_0)), (a_0s, .inl (cI, 84, .inl s_0)), (a_0slots, .inl (cI, 168, .inl slots_0))]
def fM_undo_L35 (F : Nat) (known_0 : Int32) (before_0 : Nat → Int32) : Nat → Int32 → (Nat → Int32) → Option (Int32 × (Nat → Int32))
  | 0, _, _ => none
  | N + 1, l1, s_0 =>
    if (84 : Int32) ≤ l1 then
      some (l1, s_0)
    else
      (o_rd 504 before_0 (((84 : Int32) * known_0) + l1)).bind fun v2 =>
      (o_wrI 84 s_0 l1 v2).bind fun w3 =>
      fM_undo_L35 F known_0 before_0 N (l1 + (1 : Int32)) w3
def fM_undo (F : Nat) (known_0 : Int32) (thrown_0 : Int32) (before_0 : Nat → Int32) (s_0 : Nat → Int32) : Option (Int32 × Int32 × (Nat → Int32)) :=
  (show Option (Int32) from
    if ¬ known_0 = (0 : Int32) then
      some (0 : Int32)
    else
      some (1 : Int32)).bind fun j1 =>
  if ¬ j1 = (0 : Int32) then
    some (j1, known_0, s_0)
  else
    (fM_undo_L35 F (known_0 - (1 : Int32)) before_0 F (0 : Int32) s_0).bind fun r4 =>
    some (j1, (known_0 - (1 : Int32)), r4.2)
abbrev wl_fM_undo (cI cZ cJ cQ : ClassId) (a_0 a_0before a_0s a_0slots a_0isKept a_0buffer a_0cells a_0owner a_0code a_0table a_0isOver a_0isRuled a_0all a_0some a_0chosen a_0last a_0corner a_0wide a_0cuts a_0aside : Nat) (known_0 : Int32) (length_0 : Int32) (thrown_0 : Int32) (many_0 : Int32) (round_0 : Int32) (seed_0 : Int64) (hash_0 : Int64) (before_0 : Nat → Int32) (s_0 : Nat → Int32) : va_W := [(a_0, .inr (10, [.ref a_0s, .ref a_0before, .int known_0, .ref a_0slots, .ref a_0isKept, .ref a_0buffer, .int length_0, .int thrown_0, .ref a_0cells, .ref a_0owner, .ref a_0code, .int many_0, .ref a_0table, .ref a_0isOver, .ref a_0isRuled, .ref a_0all, .ref a_0some, .int round_0, .ref a_0chosen, .ref a_0last, .ref a_0corner, .ref a_0wide, .ref a_0cuts, .long seed_0, .ref a_0aside, .long hash_0])), (a_0before, .inl (cI, 504, .inl before_0)), (a_0s, .inl (cI, 84, .inl s_0))]
def fM_savedStates (thrown_0 : Int32) (known_0 : Int32) : Option (Int32 × Int32) :=
  some (known_0, (0 : Int32))
abbrev wl_fM_savedStates (cI cZ cJ cQ : ClassId) (a_0 a_0s a_0before a_0slots a_0isKept a_0buffer a_0cells a_0owner a_0code a_0table a_0isOver a_0isRuled a_0all a_0some a_0chosen a_0last a_0corner a_0wide a_0cuts a_0aside : Nat) (known_0 : Int32) (length_0 : Int32) (thrown_0 : Int32) (many_0 : Int32) (round_0 : Int32) (seed_0 : Int64) (hash_0 : Int64) : va_W := [(a_0, .inr (10, [.ref a_0s, .ref a_0before, .int known_0, .ref a_0slots, .ref a_0isKept, .ref a_0buffer, .int length_0, .int thrown_0, .ref a_0cells, .ref a_0owner, .ref a_0code, .int many_0, .ref a_0table, .ref a_0isOver, .ref a_0isRuled, .ref a_0all, .ref a_0some, .int round_0, .ref a_0chosen, .ref a_0last, .ref a_0corner, .ref a_0wide, .ref a_0cuts, .long seed_0, .ref a_0aside, .long hash_0]))]
def fM_numberAt (x1 : Int32) (x2 : Int32) (s_0 : Nat → Int32) (thrown_0 : Int32) : Option (Int32 × Int32) :=
  (fM_isThere x1 x2 (0 : Int32) s_0 thrown_0).bind fun s1 =>
  if s1.1 = (0 : Int32) then
    some ((0 : Int32), s1.2)
  else
    (o_rd 84 s_0 (((7 : Int32) * x1) + x2)).bind fun v2 =>
    some (v2, s1.2)
abbrev wl_fM_numberAt (cI cZ cJ cQ : ClassId) (a_0 a_0s a_0before a_0slots a_0isKept a_0buffer a_0cells a_0owner a_0code a_0table a_0isOver a_0isRuled a_0all a_0some a_0chosen a_0last a_0corner a_0wide a_0cuts a_0aside : Nat) (known_0 : Int32) (length_0 : Int32) (thrown_0 : Int32) (many_0 : Int32) (round_0 : Int32) (seed_0 : Int64) (hash_0 : Int64) (s_0 : Nat → Int32) : va_W := [(a_0, .inr (10, [.ref a_0s, .ref a_0before, .int known_0, .ref a_0slots, .ref a_0isKept, .ref a_0buffer, .int length_0, .int thrown_0, .ref a_0cells, .ref a_0owner, .ref a_0code, .int many_0, .ref a_0table, .ref a_0isOver, .ref a_0isRuled, .ref a_0all, .ref a_0some, .int round_0, .ref a_0chosen, .ref a_0last, .ref a_0corner, .ref a_0wide, .ref a_0cuts, .long seed_0, .ref a_0aside, .long hash_0])), (a_0s, .inl (cI, 84, .inl s_0))]
def fM_numbers (F : Nat) (thrown_0 : Int32) (s_0 : Nat → Int32) : Option (Int32 × Int32) :=
  (fM_numbered F s_0).bind fun s1 =>
  (fM_bits F s1).bind fun s2 =>
  some (s2, (0 : Int32))
abbrev wl_fM_numbers (cI cZ cJ cQ : ClassId) (a_0 a_0s a_0before a_0slots a_0isKept a_0buffer a_0cells a_0owner a_0code a_0table a_0isOver a_0isRuled a_0all a_0some a_0chosen a_0last a_0corner a_0wide a_0cuts a_0aside : Nat) (known_0 : Int32) (length_0 : Int32) (thrown_0 : Int32) (many_0 : Int32) (round_0 : Int32) (seed_0 : Int64) (hash_0 : Int64) (s_0 : Nat → Int32) : va_W := [(a_0, .inr (10, [.ref a_0s, .ref a_0before, .int known_0, .ref a_0slots, .ref a_0isKept, .ref a_0buffer, .int length_0, .int thrown_0, .ref a_0cells, .ref a_0owner, .ref a_0code, .int many_0, .ref a_0table, .ref a_0isOver, .ref a_0isRuled, .ref a_0all, .ref a_0some, .int round_0, .ref a_0chosen, .ref a_0last, .ref a_0corner, .ref a_0wide, .ref a_0cuts, .long seed_0, .ref a_0aside, .long hash_0])), (a_0s, .inl (cI, 84, .inl s_0))]
def fM_total_L4 (F : Nat) (s_0 : Nat → Int32) : Nat → Int32 → Int32 → Option (Int32 × Int32)
  | 0, _, _ => none
  | N + 1, l1, l2 =>
    if (42 : Int32) ≤ l2 then
      some (l1, l2)
    else
      (o_rd 84 s_0 l2).bind fun v1 =>
      fM_total_L4 F s_0 N (l1 + v1) (l2 + (1 : Int32))
def fM_total (F : Nat) (s_0 : Nat → Int32) : Option (Int32) :=
  (fM_total_L4 F s_0 F (0 : Int32) (0 : Int32)).bind fun r2 =>
  some r2.1
abbrev wl_fM_total (cI cZ cJ cQ : ClassId) (a_0 a_0s a_0before a_0slots a_0isKept a_0buffer a_0cells a_0owner a_0code a_0table a_0isOver a_0isRuled a_0all a_0some a_0chosen a_0last a_0corner a_0wide a_0cuts a_0aside : Nat) (known_0 : Int32) (length_0 : Int32) (thrown_0 : Int32) (many_0 : Int32) (round_0 : Int32) (seed_0 : Int64) (hash_0 : Int64) (s_0 : Nat → Int32) : va_W := [(a_0, .inr (10, [.ref a_0s, .ref a_0before, .int known_0, .ref a_0slots, .ref a_0isKept, .ref a_0buffer, .int length_0, .int thrown_0, .ref a_0cells, .ref a_0owner, .ref a_0code, .int many_0, .ref a_0table, .ref a_0isOver, .ref a_0isRuled, .ref a_0all, .ref a_0some, .int round_0, .ref a_0chosen, .ref a_0last, .ref a_0corner, .ref a_0wide, .ref a_0cuts, .long seed_0, .ref a_0aside, .long hash_0])), (a_0s, .inl (cI, 84, .inl s_0))]
def fM_sum (F : Nat) (thrown_0 : Int32) (s_0 : Nat → Int32) : Option (Int32 × Int32) :=
  (fM_total F s_0).bind fun s1 =>
  some (s1, (0 : Int32))
abbrev wl_fM_sum (cI cZ cJ cQ : ClassId) (a_0 a_0s a_0before a_0slots a_0isKept a_0buffer a_0cells a_0owner a_0code a_0table a_0isOver a_0isRuled a_0all a_0some a_0chosen a_0last a_0corner a_0wide a_0cuts a_0aside : Nat) (known_0 : Int32) (length_0 : Int32) (thrown_0 : Int32) (many_0 : Int32) (round_0 : Int32) (seed_0 : Int64) (hash_0 : Int64) (s_0 : Nat → Int32) : va_W := [(a_0, .inr (10, [.ref a_0s, .ref a_0before, .int known_0, .ref a_0slots, .ref a_0isKept, .ref a_0buffer, .int length_0, .int thrown_0, .ref a_0cells, .ref a_0owner, .ref a_0code, .int many_0, .ref a_0table, .ref a_0isOver, .ref a_0isRuled, .ref a_0all, .ref a_0some, .int round_0, .ref a_0chosen, .ref a_0last, .ref a_0corner, .ref a_0wide, .ref a_0cuts, .long seed_0, .ref a_0aside, .long hash_0])), (a_0s, .inl (cI, 84, .inl s_0))]
def fM_isInField (x1 : Int32) (x2 : Int32) (s_0 : Nat → Int32) (thrown_0 : Int32) : Option (Int32 × Int32) :=
  (fM_isThere x1 x2 (0 : Int32) s_0 thrown_0).bind fun s1 =>
  if s1.1 = (0 : Int32) then
    some ((0 : Int32), s1.2)
  else
    (o_rd 84 s_0 (((42 : Int32) + ((7 : Int32) * x1)) + x2)).bind fun v2 =>
    if v2 ≤ (0 : Int32) then
      some ((0 : Int32), s1.2)
    else
      some ((1 : Int32), s1.2)
abbrev wl_fM_isInField (cI cZ cJ cQ : ClassId) (a_0 a_0s a_0before a_0slots a_0isKept a_0buffer a_0cells a_0owner a_0code a_0table a_0isOver a_0isRuled a_0all a_0some a_0chosen a_0last a_0corner a_0wide a_0cuts a_0aside : Nat) (known_0 : Int32) (length_0 : Int32) (thrown_0 : Int32) (many_0 : Int32) (round_0 : Int32) (seed_0 : Int64) (hash_0 : Int64) (s_0 : Nat → Int32) : va_W := [(a_0, .inr (10, [.ref a_0s, .ref a_0before, .int known_0, .ref a_0slots, .ref a_0isKept, .ref a_0buffer, .int length_0, .int thrown_0, .ref a_0cells, .ref a_0owner, .ref a_0code, .int many_0, .ref a_0table, .ref a_0isOver, .ref a_0isRuled, .ref a_0all, .ref a_0some, .int round_0, .ref a_0chosen, .ref a_0last, .ref a_0corner, .ref a_0wide, .ref a_0cuts, .long seed_0, .ref a_0aside, .long hash_0])), (a_0s, .inl (cI, 84, .inl s_0))]
def fM_fieldSize (F : Nat) (x1 : Int32) (x2 : Int32) (s_0 : Nat → Int32) (thrown_0 : Int32) : Option (Int32 × Int32) :=
  (fM_isThere x1 x2 (1 : Int32) s_0 thrown_0).bind fun s1 =>
  if s1.1 = (0 : Int32) then
    some ((0 : Int32), s1.2)
  else
    (fM_fieldOf F (((7 : Int32) * x1) + x2) s_0).bind fun s2 =>
    (fM_bits F s2).bind fun s3 =>
    some (s3, s1.2)
abbrev wl_fM_fieldSize (cI cZ cJ cQ : ClassId) (a_0 a_0s a_0before a_0slots a_0isKept a_0buffer a_0cells a_0owner a_0code a_0table a_0isOver a_0isRuled a_0all a_0some a_0chosen a_0last a_0corner a_0wide a_0cuts a_0aside : Nat) (known_0 : Int32) (length_0 : Int32) (thrown_0 : Int32) (many_0 : Int32) (round_0 : Int32) (seed_0 : Int64) (hash_0 : Int64) (s_0 : Nat → Int32) : va_W := [(a_0, .inr (10, [.ref a_0s, .ref a_0before, .int known_0, .ref a_0slots, .ref a_0isKept, .ref a_0buffer, .int length_0, .int thrown_0, .ref a_0cells, .ref a_0owner, .ref a_0code, .int many_0, .ref a_0table, .ref a_0isOver, .ref a_0isRuled, .ref a_0all, .ref a_0some, .int round_0, .ref a_0chosen, .ref a_0last, .ref a_0corner, .ref a_0wide, .ref a_0cuts, .long seed_0, .ref a_0aside, .long hash_0])), (a_0s, .inl (cI, 84, .inl s_0))]
def fM_cornerOf (x1 : Int32) (x2 : Int32) (s_0 : Nat → Int32) (thrown_0 : Int32) : Option (Int32 × Int32) :=
  (fM_isThere x1 x2 (1 : Int32) s_0 thrown_0).bind fun s1 =>
  if s1.1 = (0 : Int32) then
    some ((0 : Int32), s1.2)
  else
    (o_rd 84 s_0 (((42 : Int32) + ((7 : Int32) * x1)) + x2)).bind fun v2 =>
    some ((v2 - (1 : Int32)), s1.2)
abbrev wl_fM_cornerOf (cI cZ cJ cQ : ClassId) (a_0 a_0s a_0before a_0slots a_0isKept a_0buffer a_0cells a_0owner a_0code a_0table a_0isOver a_0isRuled a_0all a_0some a_0chosen a_0last a_0corner a_0wide a_0cuts a_0aside : Nat) (known_0 : Int32) (length_0 : Int32) (thrown_0 : Int32) (many_0 : Int32) (round_0 : Int32) (seed_0 : Int64) (hash_0 : Int64) (s_0 : Nat → Int32) : va_W := [(a_0, .inr (10, [.ref a_0s, .ref a_0before, .int known_0, .ref a_0slots, .ref a_0isKept, .ref a_0buffer, .int length_0, .int thrown_0, .ref a_0cells, .ref a_0owner, .ref a_0code, .int many_0, .ref a_0table, .ref a_0isOver, .ref a_0isRuled, .ref a_0all, .ref a_0some, .int round_0, .ref a_0chosen, .ref a_0last, .ref a_0corner, .ref a_0wide, .ref a_0cuts, .long seed_0, .ref a_0aside, .long hash_0])), (a_0s, .inl (cI, 84, .inl s_0))]
def fM_fields (F : Nat) (thrown_0 : Int32) (s_0 : Nat → Int32) : Option (Int32 × Int32) :=
  (fM_allFields F s_0).bind fun s1 =>
  some (s1, (0 : Int32))
abbrev wl_fM_fields (cI cZ cJ cQ : ClassId) (a_0 a_0s a_0before a_0slots a_0isKept a_0buffer a_0cells a_0owner a_0code a_0table a_0isOver a_0isRuled a_0all a_0some a_0chosen a_0last a_0corner a_0wide a_0cuts a_0aside : Nat) (known_0 : Int32) (length_0 : Int32) (thrown_0 : Int32) (many_0 : Int32) (round_0 : Int32) (seed_0 : Int64) (hash_0 : Int64) (s_0 : Nat → Int32) : va_W := [(a_0, .inr (10, [.ref a_0s, .ref a_0before, .int known_0, .ref a_0slots, .ref a_0isKept, .ref a_0buffer, .int length_0, .int thrown_0, .ref a_0cells, .ref a_0owner, .ref a_0code, .int many_0, .ref a_0table, .ref a_0isOver, .ref a_0isRuled, .ref a_0all, .ref a_0some, .int round_0, .ref a_0chosen, .ref a_0last, .ref a_0corner, .ref a_0wide, .ref a_0cuts, .long seed_0, .ref a_0aside, .long hash_0])), (a_0s, .inl (cI, 84, .inl s_0))]
def fM_openCells (F : Nat) (thrown_0 : Int32) (s_0 : Nat → Int32) : Option (Int32 × Int32) :=
  (fM_taken F s_0).bind fun s1 =>
  (fM_bits F s1).bind fun s2 =>
  some (((42 : Int32) - s2), (0 : Int32))
abbrev wl_fM_openCells (cI cZ cJ cQ : ClassId) (a_0 a_0s a_0before a_0slots a_0isKept a_0buffer a_0cells a_0owner a_0code a_0table a_0isOver a_0isRuled a_0all a_0some a_0chosen a_0last a_0corner a_0wide a_0cuts a_0aside : Nat) (known_0 : Int32) (length_0 : Int32) (thrown_0 : Int32) (many_0 : Int32) (round_0 : Int32) (seed_0 : Int64) (hash_0 : Int64) (s_0 : Nat → Int32) : va_W := [(a_0, .inr (10, [.ref a_0s, .ref a_0before, .int known_0, .ref a_0slots, .ref a_0isKept, .ref a_0buffer, .int length_0, .int thrown_0, .ref a_0cells, .ref a_0owner, .ref a_0code, .int many_0, .ref a_0table, .ref a_0isOver, .ref a_0isRuled, .ref a_0all, .ref a_0some, .int round_0, .ref a_0chosen, .ref a_0last, .ref a_0corner, .ref a_0wide, .ref a_0cuts, .long seed_0, .ref a_0aside, .long hash_0])), (a_0s, .inl (cI, 84, .inl s_0))]
def fM_isFull (F : Nat) (thrown_0 : Int32) (s_0 : Nat → Int32) : Option (Int32 × Int32) :=
  (fM_taken F s_0).bind fun s1 =>
  if ¬ s1 = (4398046511103 : Int64) then
    some ((0 : Int32), (0 : Int32))
  else
    some ((1 : Int32), (0 : Int32))
abbrev wl_fM_isFull (cI cZ cJ cQ : ClassId) (a_0 a_0s a_0before a_0slots a_0isKept a_0buffer a_0cells a_0owner a_0code a_0table a_0isOver a_0isRuled a_0all a_0some a_0chosen a_0last a_0corner a_0wide a_0cuts a_0aside : Nat) (known_0 : Int32) (length_0 : Int32) (thrown_0 : Int32) (many_0 : Int32) (round_0 : Int32) (seed_0 : Int64) (hash_0 : Int64) (s_0 : Nat → Int32) : va_W := [(a_0, .inr (10, [.ref a_0s, .ref a_0before, .int known_0, .ref a_0slots, .ref a_0isKept, .ref a_0buffer, .int length_0, .int thrown_0, .ref a_0cells, .ref a_0owner, .ref a_0code, .int many_0, .ref a_0table, .ref a_0isOver, .ref a_0isRuled, .ref a_0all, .ref a_0some, .int round_0, .ref a_0chosen, .ref a_0last, .ref a_0corner, .ref a_0wide, .ref a_0cuts, .long seed_0, .ref a_0aside, .long hash_0])), (a_0s, .inl (cI, 84, .inl s_0))]
def fM_reasonAgainst (F : Nat) (x1 : Int32) (x2 : Int32) (x3 : Int32) (x4 : Int32) (thrown_0 : Int32) (s_0 : Nat → Int32) : Option (Int32 × Int32) :=
  (fM_isRectangle x1 x2 x3 x4).bind fun s1 =>
  if s1 = (0 : Int32) then
    (fM_throwing (1 : Int32) (0 : Int32)).bind fun s2 =>
    some (s2.1, s2.2)
  else
    (fM_rectangle F x1 x2 x3 x4).bind fun s3 =>
    (fM_against F s3 s_0).bind fun s4 =>
    some (s4, (0 : Int32))
abbrev wl_fM_reasonAgainst (cI cZ cJ cQ : ClassId) (a_0 a_0s a_0before a_0slots a_0isKept a_0buffer a_0cells a_0owner a_0code a_0table a_0isOver a_0isRuled a_0all a_0some a_0chosen a_0last a_0corner a_0wide a_0cuts a_0aside : Nat) (known_0 : Int32) (length_0 : Int32) (thrown_0 : Int32) (many_0 : Int32) (round_0 : Int32) (seed_0 : Int64) (hash_0 : Int64) (s_0 : Nat → Int32) : va_W := [(a_0, .inr (10, [.ref a_0s, .ref a_0before, .int known_0, .ref a_0slots, .ref a_0isKept, .ref a_0buffer, .int length_0, .int thrown_0, .ref a_0cells, .ref a_0owner, .ref a_0code, .int many_0, .ref a_0table, .ref a_0isOver, .ref a_0isRuled, .ref a_0all, .ref a_0some, .int round_0, .ref a_0chosen, .ref a_0last, .ref a_0corner, .ref a_0wide, .ref a_0cuts, .long seed_0, .ref a_0aside, .long hash_0])), (a_0s, .inl (cI, 84, .inl s_0))]
set_option maxHeartbeats 4000000 in
set_option maxRecDepth 100000 in
theorem c_fM_write (l : Launch) (dC : Nat → ClassId) (dI : Nat → Nat → Nat) (cI cZ cJ cQ : ClassId) (a_0 a_0s a_0before a_0slots a_0isKept a_0buffer a_0cells a_0owner a_0code a_0table a_0isOver a_0isRuled a_0all a_0some a_0chosen a_0last a_0corner a_0wide a_0cuts a_0aside : Nat) (length_0 : Int32) (many_0 : Int32) (round_0 : Int32) (seed_0 : Int64) (hash_0 : Int64) (sz : Nat) {F : Nat} {x1 : Int32} {x2 : Int32} {x3 : Int32} {s_0 : Nat → Int32} {thrown_0 : Int32} {known_0 : Int32} {before_0 : Nat → Int32} {out : Int32 × Int32 × (Nat → Int32) × Int32 × (Nat → Int32)} (hf : fM_write F x1 x2 x3 s_0 thrown_0 known_0 before_0 = some out) : Met l yX10_write wsX10_write ({ frames := 2, cells := 0, slots := 0, locals := 43 } : Room) (va_Pc [.ref a_0, .int x1, .int x2, .int x3] (wlP (dC, dI) (wlT cI cZ cJ cQ) (wl_fM_write cI cZ cJ cQ a_0 a_0s a_0before a_0slots a_0isKept a_0buffer a_0cells a_0owner a_0code a_0table a_0isOver a_0isRuled a_0all a_0some a_0chosen a_0last a_0corner a_0wide a_0cuts a_0aside known_0 length_0 thrown_0 many_0 round_0 seed_0 hash_0 s_0 before_0) sz)) (va_Qi (fun (v : Int32) (_ : Unit) => v = out.1) (wlQ (dC, dI) (va_A (wl_fM_write cI cZ cJ cQ a_0 a_0s a_0before a_0slots a_0isKept a_0buffer a_0cells a_0owner a_0code a_0table a_0isOver a_0isRuled a_0all a_0some a_0chosen a_0last a_0corner a_0wide a_0cuts a_0aside known_0 length_0 thrown_0 many_0 round_0 seed_0 hash_0 s_0 before_0) sz) (wl_fM_write cI cZ cJ cQ a_0 a_0s a_0before a_0slots a_0isKept a_0buffer a_0cells a_0owner a_0code a_0table a_0isOver a_0isRuled a_0all a_0some a_0chosen a_0last a_0corner a_0wide a_0cuts a_0aside out.2.2.2.1 length_0 out.2.1 many_0 round_0 seed_0 hash_0 out.2.2.2.2 out.2.2.1)) (va_A (wl_fM_write cI cZ cJ cQ a_0 a_0s a_0before a_0slots a_0isKept a_0buffer a_0cells a_0owner a_0code a_0table a_0isOver a_0isRuled a_0all a_0some a_0chosen a_0last a_0corner a_0wide a_0cuts a_0aside known_0 length_0 thrown_0 many_0 round_0 seed_0 hash_0 s_0 before_0) sz)) 0 0 (va_A (wl_fM_write cI cZ cJ cQ a_0 a_0s a_0before a_0slots a_0isKept a_0buffer a_0cells a_0owner a_0code a_0table a_0isOver a_0isRuled a_0all a_0some a_0chosen a_0last a_0corner a_0wide a_0cuts a_0aside known_0 length_0 thrown_0 many_0 round_0 seed_0 hash_0 s_0 before_0) sz) := by
  refine wh_ofWi (lv := [(0, .ref a_0), (1, .int x1), (2, .int x2), (3, .int x3)]) RX10 (by decide) rfl rfl (Nat.le_of_ble_eq_true rfl) rfl ?_
  intro p e s m below meth c A QQ hx hb hml hown hts hP hK hN hD hA hret ls hl
  have hS : va_S A s.heap s.heap [] := va_S.rf
  have hiX10 : ∀ w ∈ wsX100, w ∈ wsX10_write := (fun _ h => List.mem_cons_of_mem _ (List.mem_append_right _ (h)))
  unfold fM_write at hf
  refine lv_aload_n hx hb dX10_write_0 rfl (lv_at hl 0 rfl) ?_
  refine lv_iload_n hx hb dX10_write_1 rfl (lv_at hl 1 rfl) ?_
  refine lv_iload_n hx hb dX10_write_2 rfl (lv_at hl 2 rfl) ?_
  obtain ⟨s1, h_s1, hf⟩ := hf_bind hf
  refine wh_calli (D := (dC, dI)) (ws' := (wl_fM_write cI cZ cJ cQ a_0 a_0s a_0before a_0slots a_0isKept a_0buffer a_0cells a_0owner a_0code a_0table a_0isOver a_0isRuled a_0all a_0some a_0chosen a_0last a_0corner a_0wide a_0cuts a_0aside known_0 length_0 thrown_0 many_0 round_0 seed_0 hash_0 s_0 before_0)) (va_runS (As := [.int x1, .int x2]) (rest := [.ref a_0]) ⟨hx, hb, hml, hown, hts⟩ (c_fM_isCell l dC dI cI cZ cJ cQ _ h_s1) (va_cwS 2 hts gX10_write_X10_isCell rfl rfl rfl (by decide +kernel) ⟨Nat.le_of_ble_eq_true rfl, Nat.le_of_ble_eq_true rfl⟩) (wh_preS hK hN hP hD [] rfl rfl) rfl rfl hl.1 rfl (lv_room (Nat.le_of_ble_eq_true rfl)) dX10_write_3 ⟨Nat.le_refl _, Nat.le_refl _⟩) hP hD hS hA [] [0, 1, 2] [0, 1, 2] rfl rfl rfl rfl (fun H locs hP hD hS => ?_)
  obtain ⟨j4, h_j4, hf⟩ := hf_bind hf
  have hJ_1 : ∀ (H : Heap) (locs : List Loc) (ls : Array Slot), lv_has ls 5 [(0, .ref a_0), (1, .int x1), (2, .int x2), (3, .int x3)] → va_P (dC, dI) vwCl (wl_fM_write cI cZ cJ cQ a_0 a_0s a_0before a_0slots a_0isKept a_0buffer a_0cells a_0owner a_0code a_0table a_0isOver a_0isRuled a_0all a_0some a_0chosen a_0last a_0corner a_0wide a_0cuts a_0aside known_0 length_0 thrown_0 many_0 round_0 seed_0 hash_0 s_0 before_0) H → va_D A (wl_fM_write cI cZ cJ cQ a_0 a_0s a_0before a_0slots a_0isKept a_0buffer a_0cells a_0owner a_0code a_0table a_0isOver a_0isRuled a_0all a_0some a_0chosen a_0last a_0corner a_0wide a_0cuts a_0aside known_0 length_0 thrown_0 many_0 round_0 seed_0 hash_0 s_0 before_0) → va_S A s.heap H locs → W p l e ({ frames := 2, cells := 0, slots := 0, locals := 43 } : Room) s m [.ref a_0, .int x1, .int x2, .int x3].toArray below meth c H locs 0 0 QQ (F0 m 49 ls [.int j4, .ref a_0]) := by
    intro H locs ls hl hP hD hS
    refine wh_put (D := (dC, dI)) (ci := 10) (C := RX10) (T := TX10) (N := 26) (ty := .int) (v := .int j4) (ws' := (wl_fM_write cI cZ cJ cQ a_0 a_0s a_0before a_0slots a_0isKept a_0buffer a_0cells a_0owner a_0code a_0table a_0isOver a_0isRuled a_0all a_0some a_0chosen a_0last a_0corner a_0wide a_0cuts a_0aside known_0 length_0 j4 many_0 round_0 seed_0 hash_0 s_0 before_0)) hx hb hts hiX10 tyX10 tyX10_ok nmX10 hown hK hP hD hS 0 rfl rfl 7 (by decide) (hts (.fieldLink RX10 69 "PaddockFieldsModel" "thrown" "I") (List.mem_cons_of_mem _ (List.mem_append_left _ (List.mem_of_getElem? (i := 1) rfl)))) (fun _ h9 => h9) rfl rfl rfl rfl (Nat.le_of_ble_eq_true rfl) rfl dX10_write_49 (fun H locs hP hD hS => ?_)
    refine lv_aload_n hx hb dX10_write_52 rfl (lv_at hl 0 rfl) ?_
    refine va_get (D := (dC, dI)) (ci := 10) (C := RX10) (T := TX10) (N := 26) hx hb hts hiX10 hown hK hP 0 rfl rfl 7 (by decide) (hts (.fieldLink RX10 69 "PaddockFieldsModel" "thrown" "I") (List.mem_cons_of_mem _ (List.mem_append_left _ (List.mem_of_getElem? (i := 1) rfl)))) (fun _ h9 => h9) rfl dX10_write_53 ?_
    refine lv_if_le (tgt := 61) hx hb dX10_write_56 (by decide) (fun cc => ?_) (fun cc => ?_)
    · replace hf := hf_pos cc hf
      refine lv_aload_n hx hb dX10_write_61 rfl (lv_at hl 0 rfl) ?_
      obtain ⟨s5, h_s5, hf⟩ := hf_bind hf
      refine wh_callv (D := (dC, dI)) (ws' := (wl_fM_write cI cZ cJ cQ a_0 a_0s a_0before a_0slots a_0isKept a_0buffer a_0cells a_0owner a_0code a_0table a_0isOver a_0isRuled a_0all a_0some a_0chosen a_0last a_0corner a_0wide a_0cuts a_0aside s5.2 length_0 j4 many_0 round_0 seed_0 hash_0 s_0 s5.1)) (va_runV (As := []) (rest := []) ⟨hx, hb, hml, hown, hts⟩ (c_fM_save l dC dI cI cZ cJ cQ a_0 a_0before a_0s a_0slots a_0isKept a_0buffer a_0cells a_0owner a_0code a_0table a_0isOver a_0isRuled a_0all a_0some a_0chosen a_0last a_0corner a_0wide a_0cuts a_0aside length_0 j4 many_0 round_0 seed_0 hash_0 _ h_s5) (cwV 0 hts gX10_write_X10_save rfl rfl rfl (by decide +kernel) ⟨Nat.le_of_ble_eq_true rfl, Nat.le_of_ble_eq_true rfl⟩) (wh_preV (C := RX10) (T := TX10) (N := 26) hK hN hP hD [0, 2, 1] rfl rfl 10 0 rfl rfl) rfl rfl hl.1 rfl (lv_room (Nat.le_of_ble_eq_true rfl)) dX10_write_62 ⟨Nat.le_refl _, Nat.le_refl _⟩) hP hD hS hA [0, 2, 1] [] [0, 2, 1] rfl rfl rfl rfl (fun H locs hP hD hS => ?_)
      refine lv_aload_n hx hb dX10_write_65 rfl (lv_at hl 0 rfl) ?_
      refine va_get (D := (dC, dI)) (ci := 10) (C := RX10) (T := TX10) (N := 26) hx hb hts hiX10 hown hK hP 0 rfl rfl 0 (by decide) (hts (.fieldLink RX10 7 "PaddockFieldsModel" "s" "[I") (List.mem_cons_of_mem _ (List.mem_append_left _ (List.mem_of_getElem? (i := 0) rfl)))) (fun _ h9 => h9) rfl dX10_write_66 ?_
      refine lv_bipush (v := 7) hx hb dX10_write_69 (by decide) ?_
      refine lv_iload_n hx hb dX10_write_71 rfl (lv_at hl 1 rfl) ?_
      refine lv_imul hx hb dX10_write_72 ?_
      refine lv_iload_n hx hb dX10_write_73 rfl (lv_at hl 2 rfl) ?_
      refine lv_iadd hx hb dX10_write_74 ?_
      obtain ⟨v6, h_v6, hf⟩ := hf_bind hf
      refine wh_ldI (D := (dC, dI)) hx hb hK hP 1 0 rfl rfl h_v6 dX10_write_75 ?_
      refine lv_istore (lv' := [(4, .int v6), (0, .ref a_0), (1, .int x1), (2, .int x2), (3, .int x3)]) hx hb dX10_write_76 hl (by decide) rfl (fun ls hl => ?_)
      refine lv_aload_n hx hb dX10_write_78 rfl (lv_at hl 1 rfl) ?_
      refine va_get (D := (dC, dI)) (ci := 10) (C := RX10) (T := TX10) (N := 26) hx hb hts hiX10 hown hK hP 0 rfl rfl 0 (by decide) (hts (.fieldLink RX10 7 "PaddockFieldsModel" "s" "[I") (List.mem_cons_of_mem _ (List.mem_append_left _ (List.mem_of_getElem? (i := 0) rfl)))) (fun _ h9 => h9) rfl dX10_write_79 ?_
      refine lv_bipush (v := 7) hx hb dX10_write_82 (by decide) ?_
      refine lv_iload_n hx hb dX10_write_84 rfl (lv_at hl 2 rfl) ?_
      refine lv_imul hx hb dX10_write_85 ?_
      refine lv_iload_n hx hb dX10_write_86 rfl (lv_at hl 3 rfl) ?_
      refine lv_iadd hx hb dX10_write_87 ?_
      refine lv_iload_n hx hb dX10_write_88 rfl (lv_at hl 4 rfl) ?_
      obtain ⟨w7, h_w7, hf⟩ := hf_bind hf
      refine wh_stI (D := (dC, dI)) (ws' := (wl_fM_write cI cZ cJ cQ a_0 a_0s a_0before a_0slots a_0isKept a_0buffer a_0cells a_0owner a_0code a_0table a_0isOver a_0isRuled a_0all a_0some a_0chosen a_0last a_0corner a_0wide a_0cuts a_0aside s5.2 length_0 j4 many_0 round_0 seed_0 hash_0 w7 s5.1)) hx hb hK hP hD hS 1 0 rfl rfl rfl h_w7 dX10_write_89 (fun H locs hP hD hS => ?_)
      refine lv_iload hx hb dX10_write_90 (lv_at hl 0 rfl) ?_
      obtain rfl := Option.some.inj hf
      exact hret _ _ _ _ hP hD hS dX10_write_92
    · replace hf := hf_neg cc hf
      refine lv_iconst (v := 0) hx hb dX10_write_59 (by decide) ?_
      obtain rfl := Option.some.inj hf
      exact hret _ _ _ _ hP hD hS dX10_write_60
  clear hf
  have hf := h_j4
  clear h_j4
  refine lv_if_ne (tgt := 13) hx hb dX10_write_6 (by decide) (fun cc => ?_) (fun cc => ?_)
  · replace hf := hf_pos cc hf
    refine lv_iload_n hx hb dX10_write_13 rfl (lv_at hl 3 rfl) ?_
    refine lv_iconst (v := 0) hx hb dX10_write_14 (by decide) ?_
    refine lv_bipush (v := 20) hx hb dX10_write_15 (by decide) ?_
    obtain ⟨s2, h_s2, hf⟩ := hf_bind hf
    refine wh_calli (D := (dC, dI)) (ws' := (wl_fM_write cI cZ cJ cQ a_0 a_0s a_0before a_0slots a_0isKept a_0buffer a_0cells a_0owner a_0code a_0table a_0isOver a_0isRuled a_0all a_0some a_0chosen a_0last a_0corner a_0wide a_0cuts a_0aside known_0 length_0 thrown_0 many_0 round_0 seed_0 hash_0 s_0 before_0)) (va_runS (As := [.int x3, .int (0 : Int32), .int (20 : Int32)]) (rest := [.ref a_0]) ⟨hx, hb, hml, hown, hts⟩ (c_fM_in l dC dI cI cZ cJ cQ _ h_s2) (va_cwS 3 hts gX10_write_X10_in rfl rfl rfl (by decide +kernel) ⟨Nat.le_of_ble_eq_true rfl, Nat.le_of_ble_eq_true rfl⟩) (wh_preS hK hN hP hD [] rfl rfl) rfl rfl hl.1 rfl (lv_room (Nat.le_of_ble_eq_true rfl)) dX10_write_17 ⟨Nat.le_refl _, Nat.le_refl _⟩) hP hD hS hA [] [0, 1, 2] [0, 1, 2] rfl rfl rfl rfl (fun H locs hP hD hS => ?_)
    refine lv_if_ne (tgt := 27) hx hb dX10_write_20 (by decide) (fun cc => ?_) (fun cc => ?_)
    · replace hf := hf_pos cc hf
      refine lv_aload_n hx hb dX10_write_27 rfl (lv_at hl 0 rfl) ?_
      refine va_get (D := (dC, dI)) (ci := 10) (C := RX10) (T := TX10) (N := 26) hx hb hts hiX10 hown hK hP 0 rfl rfl 0 (by decide) (hts (.fieldLink RX10 7 "PaddockFieldsModel" "s" "[I") (List.mem_cons_of_mem _ (List.mem_append_left _ (List.mem_of_getElem? (i := 0) rfl)))) (fun _ h9 => h9) rfl dX10_write_28 ?_
      refine lv_bipush (v := 42) hx hb dX10_write_31 (by decide) ?_
      refine lv_bipush (v := 7) hx hb dX10_write_33 (by decide) ?_
      refine lv_iload_n hx hb dX10_write_35 rfl (lv_at hl 1 rfl) ?_
      refine lv_imul hx hb dX10_write_36 ?_
      refine lv_iadd hx hb dX10_write_37 ?_
      refine lv_iload_n hx hb dX10_write_38 rfl (lv_at hl 2 rfl) ?_
      refine lv_iadd hx hb dX10_write_39 ?_
      obtain ⟨v3, h_v3, hf⟩ := hf_bind hf
      refine wh_ldI (D := (dC, dI)) hx hb hK hP 1 0 rfl rfl h_v3 dX10_write_40 ?_
      refine lv_if_le (tgt := 48) hx hb dX10_write_41 (by decide) (fun cc => ?_) (fun cc => ?_)
      · replace hf := hf_pos cc hf
        refine lv_iconst (v := 0) hx hb dX10_write_48 (by decide) ?_
        obtain rfl := Option.some.inj hf
        exact hJ_1 _ _ _ (lv_sub hl [0, 1, 2, 3] rfl) hP hD hS
      · replace hf := hf_neg cc hf
        refine lv_iconst (v := 3) hx hb dX10_write_44 (by decide) ?_
        refine lv_goto (tgt := 49) hx hb dX10_write_45 (by decide) ?_
        obtain rfl := Option.some.inj hf
        exact hJ_1 _ _ _ (lv_sub hl [0, 1, 2, 3] rfl) hP hD hS
    · replace hf := hf_neg (not_not_intro cc) hf
      refine lv_iconst (v := 2) hx hb dX10_write_23 (by decide) ?_
      refine lv_goto (tgt := 49) hx hb dX10_write_24 (by decide) ?_
      obtain rfl := Option.some.inj hf
      exact hJ_1 _ _ _ (lv_sub hl [0, 1, 2, 3] rfl) hP hD hS
  · replace hf := hf_neg (not_not_intro cc) hf
    refine lv_iconst (v := 1) hx hb dX10_write_9 (by decide) ?_
    refine lv_goto (tgt := 49) hx hb dX10_write_10 (by decide) ?_
    obtain rfl := Option.some.inj hf
    exact hJ_1 _ _ _ (lv_sub hl [0, 1, 2, 3] rfl) hP hD hS
set_option maxHeartbeats 4000000 in
set_option maxRecDepth 100000 in
theorem c_fM_drawn (l : Launch) (dC : Nat → ClassId) (dI : Nat → Nat → Nat) (cI cZ cJ cQ : ClassId) (a_0 a_0s a_0before a_0slots a_0isKept a_0buffer a_0cells a_0owner a_0code a_0table a_0isOver a_0isRuled a_0all a_0some a_0chosen a_0last a_0corner a_0wide a_0cuts a_0aside : Nat) (known_0 : Int32) (length_0 : Int32) (thrown_0 : Int32) (many_0 : Int32) (round_0 : Int32) (hash_0 : Int64) (sz : Nat) {x1 : Int32} {seed_0 : Int64} {out : Int32 × Int64} (hf : fM_drawn x1 seed_0 = some out) : Met l yX10_drawn wsX10_drawn ({ frames := 0, cells := 0, slots := 0, locals := 0 } : Room) (va_Pc [.ref a_0, .int x1] (wlP (dC, dI) (wlT cI cZ cJ cQ) (wl_fM_drawn cI cZ cJ cQ a_0 a_0s a_0before a_0slots a_0isKept a_0buffer a_0cells a_0owner a_0code a_0table a_0isOver a_0isRuled a_0all a_0some a_0chosen a_0last a_0corner a_0wide a_0cuts a_0aside known_0 length_0 thrown_0 many_0 round_0 seed_0 hash_0) sz)) (va_Qi (fun (v : Int32) (_ : Unit) => v = out.1) (wlQ (dC, dI) (va_A (wl_fM_drawn cI cZ cJ cQ a_0 a_0s a_0before a_0slots a_0isKept a_0buffer a_0cells a_0owner a_0code a_0table a_0isOver a_0isRuled a_0all a_0some a_0chosen a_0last a_0corner a_0wide a_0cuts a_0aside known_0 length_0 thrown_0 many_0 round_0 seed_0 hash_0) sz) (wl_fM_drawn cI cZ cJ cQ a_0 a_0s a_0before a_0slots a_0isKept a_0buffer a_0cells a_0owner a_0code a_0table a_0isOver a_0isRuled a_0all a_0some a_0chosen a_0last a_0corner a_0wide a_0cuts a_0aside known_0 length_0 thrown_0 many_0 round_0 out.2 hash_0)) (va_A (wl_fM_drawn cI cZ cJ cQ a_0 a_0s a_0before a_0slots a_0isKept a_0buffer a_0cells a_0owner a_0code a_0table a_0isOver a_0isRuled a_0all a_0some a_0chosen a_0last a_0corner a_0wide a_0cuts a_0aside known_0 length_0 thrown_0 many_0 round_0 seed_0 hash_0) sz)) 0 0 (va_A (wl_fM_drawn cI cZ cJ cQ a_0 a_0s a_0before a_0slots a_0isKept a_0buffer a_0cells a_0owner a_0code a_0table a_0isOver a_0isRuled a_0all a_0some a_0chosen a_0last a_0corner a_0wide a_0cuts a_0aside known_0 length_0 thrown_0 many_0 round_0 seed_0 hash_0) sz) := by
  refine wh_ofWi (lv := [(0, .ref a_0), (1, .int x1)]) RX10 (by decide) rfl rfl (Nat.le_of_ble_eq_true rfl) rfl ?_
  intro p e s m below meth c A QQ hx hb hml hown hts hP hK hN hD hA hret ls hl
  have hS : va_S A s.heap s.heap [] := va_S.rf
  have hiX10 : ∀ w ∈ wsX100, w ∈ wsX10_drawn := (fun _ h => List.mem_cons_of_mem _ (List.mem_append_right _ (h)))
  unfold fM_drawn at hf
  refine lv_aload_n hx hb dX10_drawn_0 rfl (lv_at hl 0 rfl) ?_
  refine lv_aload_n hx hb dX10_drawn_1 rfl (lv_at hl 0 rfl) ?_
  refine va_get (D := (dC, dI)) (ci := 10) (C := RX10) (T := TX10) (N := 26) hx hb hts hiX10 hown hK hP 0 rfl rfl 23 (by decide) (hts (.fieldLink RX10 148 "PaddockFieldsModel" "seed" "J") (List.mem_cons_of_mem _ (List.mem_append_left _ (List.mem_of_getElem? (i := 0) rfl)))) (fun _ h9 => h9) rfl dX10_drawn_2 ?_
  refine lv_ldc2 hx hb hown (hts (.constantLong RX10 152 (1103515245)) (List.mem_cons_of_mem _ (List.mem_append_left _ (List.mem_of_getElem? (i := 1) rfl)))) dX10_drawn_5 ?_
  refine lv_lmul hx hb dX10_drawn_8 ?_
  refine lv_ldc2 hx hb hown (hts (.constantLong RX10 154 (12345)) (List.mem_cons_of_mem _ (List.mem_append_left _ (List.mem_of_getElem? (i := 2) rfl)))) dX10_drawn_9 ?_
  refine lv_ladd hx hb dX10_drawn_12 ?_
  refine lv_ldc2 hx hb hown (hts (.constantLong RX10 156 (2147483648)) (List.mem_cons_of_mem _ (List.mem_append_left _ (List.mem_of_getElem? (i := 3) rfl)))) dX10_drawn_13 ?_
  refine lv_lrem hx hb dX10_drawn_16 (by decide) ?_
  refine wh_put (D := (dC, dI)) (ci := 10) (C := RX10) (T := TX10) (N := 26) (ty := .long) (v := .long (((seed_0 * (1103515245 : Int64)) + (12345 : Int64)) - ((seed_0 * (1103515245 : Int64)) + (12345 : Int64)) / (2147483648 : Int64) * (2147483648 : Int64))) (ws' := (wl_fM_drawn cI cZ cJ cQ a_0 a_0s a_0before a_0slots a_0isKept a_0buffer a_0cells a_0owner a_0code a_0table a_0isOver a_0isRuled a_0all a_0some a_0chosen a_0last a_0corner a_0wide a_0cuts a_0aside known_0 length_0 thrown_0 many_0 round_0 (((seed_0 * (1103515245 : Int64)) + (12345 : Int64)) - ((seed_0 * (1103515245 : Int64)) + (12345 : Int64)) / (2147483648 : Int64) * (2147483648 : Int64)) hash_0)) hx hb hts hiX10 tyX10 tyX10_ok nmX10 hown hK hP hD hS 0 rfl rfl 23 (by decide) (hts (.fieldLink RX10 148 "PaddockFieldsModel" "seed" "J") (List.mem_cons_of_mem _ (List.mem_append_left _ (List.mem_of_getElem? (i := 0) rfl)))) (fun _ h9 => h9) rfl rfl rfl rfl (Nat.le_of_ble_eq_true rfl) rfl dX10_drawn_17 (fun H locs hP hD hS => ?_)
  refine lv_aload_n hx hb dX10_drawn_20 rfl (lv_at hl 0 rfl) ?_
  refine va_get (D := (dC, dI)) (ci := 10) (C := RX10) (T := TX10) (N := 26) hx hb hts hiX10 hown hK hP 0 rfl rfl 23 (by decide) (hts (.fieldLink RX10 148 "PaddockFieldsModel" "seed" "J") (List.mem_cons_of_mem _ (List.mem_append_left _ (List.mem_of_getElem? (i := 0) rfl)))) (fun _ h9 => h9) rfl dX10_drawn_21 ?_
  refine lv_ldc2 hx hb hown (hts (.constantLong RX10 158 (65536)) (List.mem_cons_of_mem _ (List.mem_append_left _ (List.mem_of_getElem? (i := 4) rfl)))) dX10_drawn_24 ?_
  refine lv_ldiv hx hb dX10_drawn_27 (by decide) ?_
  refine lv_iload_n hx hb dX10_drawn_28 rfl (lv_at hl 1 rfl) ?_
  refine lv_i2l hx hb dX10_drawn_29 rfl ?_
  obtain ⟨v1, h_v1, hf⟩ := hf_bind hf
  refine wh_lrem hx hb h_v1 dX10_drawn_30 ?_
  refine lv_l2i hx hb dX10_drawn_31 rfl ?_
  obtain rfl := Option.some.inj hf
  exact hret _ _ _ _ hP hD hS dX10_drawn_32
set_option maxHeartbeats 4000000 in
set_option maxRecDepth 100000 in
theorem c_fM_area (l : Launch) (dC : Nat → ClassId) (dI : Nat → Nat → Nat) (cI cZ cJ cQ : ClassId) (a_0 a_0cuts a_0s a_0before a_0slots a_0isKept a_0buffer a_0cells a_0owner a_0code a_0table a_0isOver a_0isRuled a_0all a_0some a_0chosen a_0last a_0corner a_0wide a_0aside : Nat) (known_0 : Int32) (length_0 : Int32) (thrown_0 : Int32) (many_0 : Int32) (round_0 : Int32) (seed_0 : Int64) (hash_0 : Int64) (sz : Nat) {x1 : Int32} {cuts_0 : Nat → Int32} {out : Int32} (hf : fM_area x1 cuts_0 = some out) : Met l yX10_area wsX10_area ({ frames := 0, cells := 0, slots := 0, locals := 0 } : Room) (va_Pc [.ref a_0, .int x1] (wlP (dC, dI) (wlT cI cZ cJ cQ) (wl_fM_area cI cZ cJ cQ a_0 a_0cuts a_0s a_0before a_0slots a_0isKept a_0buffer a_0cells a_0owner a_0code a_0table a_0isOver a_0isRuled a_0all a_0some a_0chosen a_0last a_0corner a_0wide a_0aside known_0 length_0 thrown_0 many_0 round_0 seed_0 hash_0 cuts_0) sz)) (va_Qi (fun (v : Int32) (_ : Unit) => v = out) (wlQ (dC, dI) (va_A (wl_fM_area cI cZ cJ cQ a_0 a_0cuts a_0s a_0before a_0slots a_0isKept a_0buffer a_0cells a_0owner a_0code a_0table a_0isOver a_0isRuled a_0all a_0some a_0chosen a_0last a_0corner a_0wide a_0aside known_0 length_0 thrown_0 many_0 round_0 seed_0 hash_0 cuts_0) sz) (wl_fM_area cI cZ cJ cQ a_0 a_0cuts a_0s a_0before a_0slots a_0isKept a_0buffer a_0cells a_0owner a_0code a_0table a_0isOver a_0isRuled a_0all a_0some a_0chosen a_0last a_0corner a_0wide a_0aside known_0 length_0 thrown_0 many_0 round_0 seed_0 hash_0 cuts_0)) (va_A (wl_fM_area cI cZ cJ cQ a_0 a_0cuts a_0s a_0before a_0slots a_0isKept a_0buffer a_0cells a_0owner a_0code a_0table a_0isOver a_0isRuled a_0all a_0some a_0chosen a_0last a_0corner a_0wide a_0aside known_0 length_0 thrown_0 many_0 round_0 seed_0 hash_0 cuts_0) sz)) 0 0 (va_A (wl_fM_area cI cZ cJ cQ a_0 a_0cuts a_0s a_0before a_0slots a_0isKept a_0buffer a_0cells a_0owner a_0code a_0table a_0isOver a_0isRuled a_0all a_0some a_0chosen a_0last a_0corner a_0wide a_0aside known_0 length_0 thrown_0 many_0 round_0 seed_0 hash_0 cuts_0) sz) := by
  refine wh_ofWi (lv := [(0, .ref a_0), (1, .int x1)]) RX10 (by decide) rfl rfl (Nat.le_of_ble_eq_true rfl) rfl ?_
  intro p e s m below meth c A QQ hx hb hml hown hts hP hK hN hD hA hret ls hl
  have hS : va_S A s.heap s.heap [] := va_S.rf
  have hiX10 : ∀ w ∈ wsX100, w ∈ wsX10_area := (fun _ h => List.mem_cons_of_mem _ (List.mem_append_right _ (h)))
  unfold fM_area at hf
  refine lv_aload_n hx hb dX10_area_0 rfl (lv_at hl 0 rfl) ?_
  refine va_get (D := (dC, dI)) (ci := 10) (C := RX10) (T := TX10) (N := 26) hx hb hts hiX10 hown hK hP 0 rfl rfl 22 (by decide) (hts (.fieldLink RX10 63 "PaddockFieldsModel" "cuts" "[I") (List.mem_cons_of_mem _ (List.mem_append_left _ (List.mem_of_getElem? (i := 0) rfl)))) (fun _ h9 => h9) rfl dX10_area_1 ?_
  refine lv_iload_n hx hb dX10_area_4 rfl (lv_at hl 1 rfl) ?_
  refine lv_iconst (v := 2) hx hb dX10_area_5 (by decide) ?_
  refine lv_iadd hx hb dX10_area_6 ?_
  obtain ⟨v1, h_v1, hf⟩ := hf_bind hf
  refine wh_ldI (D := (dC, dI)) hx hb hK hP 1 0 rfl rfl h_v1 dX10_area_7 ?_
  refine lv_aload_n hx hb dX10_area_8 rfl (lv_at hl 0 rfl) ?_
  refine va_get (D := (dC, dI)) (ci := 10) (C := RX10) (T := TX10) (N := 26) hx hb hts hiX10 hown hK hP 0 rfl rfl 22 (by decide) (hts (.fieldLink RX10 63 "PaddockFieldsModel" "cuts" "[I") (List.mem_cons_of_mem _ (List.mem_append_left _ (List.mem_of_getElem? (i := 0) rfl)))) (fun _ h9 => h9) rfl dX10_area_9 ?_
  refine lv_iload_n hx hb dX10_area_12 rfl (lv_at hl 1 rfl) ?_
  obtain ⟨v2, h_v2, hf⟩ := hf_bind hf
  refine wh_ldI (D := (dC, dI)) hx hb hK hP 1 0 rfl rfl h_v2 dX10_area_13 ?_
  refine lv_isub hx hb dX10_area_14 ?_
  refine lv_iconst (v := 1) hx hb dX10_area_15 (by decide) ?_
  refine lv_iadd hx hb dX10_area_16 ?_
  refine lv_aload_n hx hb dX10_area_17 rfl (lv_at hl 0 rfl) ?_
  refine va_get (D := (dC, dI)) (ci := 10) (C := RX10) (T := TX10) (N := 26) hx hb hts hiX10 hown hK hP 0 rfl rfl 22 (by decide) (hts (.fieldLink RX10 63 "PaddockFieldsModel" "cuts" "[I") (List.mem_cons_of_mem _ (List.mem_append_left _ (List.mem_of_getElem? (i := 0) rfl)))) (fun _ h9 => h9) rfl dX10_area_18 ?_
  refine lv_iload_n hx hb dX10_area_21 rfl (lv_at hl 1 rfl) ?_
  refine lv_iconst (v := 3) hx hb dX10_area_22 (by decide) ?_
  refine lv_iadd hx hb dX10_area_23 ?_
  obtain ⟨v3, h_v3, hf⟩ := hf_bind hf
  refine wh_ldI (D := (dC, dI)) hx hb hK hP 1 0 rfl rfl h_v3 dX10_area_24 ?_
  refine lv_aload_n hx hb dX10_area_25 rfl (lv_at hl 0 rfl) ?_
  refine va_get (D := (dC, dI)) (ci := 10) (C := RX10) (T := TX10) (N := 26) hx hb hts hiX10 hown hK hP 0 rfl rfl 22 (by decide) (hts (.fieldLink RX10 63 "PaddockFieldsModel" "cuts" "[I") (List.mem_cons_of_mem _ (List.mem_append_left _ (List.mem_of_getElem? (i := 0) rfl)))) (fun _ h9 => h9) rfl dX10_area_26 ?_
  refine lv_iload_n hx hb dX10_area_29 rfl (lv_at hl 1 rfl) ?_
  refine lv_iconst (v := 1) hx hb dX10_area_30 (by decide) ?_
  refine lv_iadd hx hb dX10_area_31 ?_
  obtain ⟨v4, h_v4, hf⟩ := hf_bind hf
  refine wh_ldI (D := (dC, dI)) hx hb hK hP 1 0 rfl rfl h_v4 dX10_area_32 ?_
  refine lv_isub hx hb dX10_area_33 ?_
  refine lv_iconst (v := 1) hx hb dX10_area_34 (by decide) ?_
  refine lv_iadd hx hb dX10_area_35 ?_
  refine lv_imul hx hb dX10_area_36 ?_
  obtain rfl := Option.some.inj hf
  exact hret _ _ _ _ hP hD hS dX10_area_37
set_option maxHeartbeats 4000000 in
set_option maxRecDepth 100000 in
theorem c_fM_makes (l : Launch) (dC : Nat → ClassId) (dI : Nat → Nat → Nat) (cI cZ cJ cQ : ClassId) (a_0 a_0cuts a_0s a_0before a_0slots a_0isKept a_0buffer a_0cells a_0owner a_0code a_0table a_0isOver a_0isRuled a_0all a_0some a_0chosen a_0last a_0corner a_0wide a_0aside : Nat) (known_0 : Int32) (length_0 : Int32) (thrown_0 : Int32) (many_0 : Int32) (round_0 : Int32) (hash_0 : Int64) (sz : Nat) {F : Nat} {x1 : Int32} {seed_0 : Int64} {cuts_0 : Nat → Int32} {s_0 : Nat → Int32} {out : Int32 × Int64 × (Nat → Int32) × (Nat → Int32)} (hf : fM_makes F x1 seed_0 cuts_0 s_0 = some out) : Met l yX10_makes wsX10_makes ({ frames := 1, cells := 0, slots := 0, locals := 21 } : Room) (va_Pc [.ref a_0, .int x1] (wlP (dC, dI) (wlT cI cZ cJ cQ) (wl_fM_makes cI cZ cJ cQ a_0 a_0cuts a_0s a_0before a_0slots a_0isKept a_0buffer a_0cells a_0owner a_0code a_0table a_0isOver a_0isRuled a_0all a_0some a_0chosen a_0last a_0corner a_0wide a_0aside known_0 length_0 thrown_0 many_0 round_0 seed_0 hash_0 cuts_0 s_0) sz)) (va_Qi (fun (v : Int32) (_ : Unit) => v = out.1) (wlQ (dC, dI) (va_A (wl_fM_makes cI cZ cJ cQ a_0 a_0cuts a_0s a_0before a_0slots a_0isKept a_0buffer a_0cells a_0owner a_0code a_0table a_0isOver a_0isRuled a_0all a_0some a_0chosen a_0last a_0corner a_0wide a_0aside known_0 length_0 thrown_0 many_0 round_0 seed_0 hash_0 cuts_0 s_0) sz) (wl_fM_makes cI cZ cJ cQ a_0 a_0cuts a_0s a_0before a_0slots a_0isKept a_0buffer a_0cells a_0owner a_0code a_0table a_0isOver a_0isRuled a_0all a_0some a_0chosen a_0last a_0corner a_0wide a_0aside known_0 length_0 thrown_0 many_0 round_0 out.2.1 hash_0 out.2.2.1 out.2.2.2)) (va_A (wl_fM_makes cI cZ cJ cQ a_0 a_0cuts a_0s a_0before a_0slots a_0isKept a_0buffer a_0cells a_0owner a_0code a_0table a_0isOver a_0isRuled a_0all a_0some a_0chosen a_0last a_0corner a_0wide a_0aside known_0 length_0 thrown_0 many_0 round_0 seed_0 hash_0 cuts_0 s_0) sz)) 0 0 (va_A (wl_fM_makes cI cZ cJ cQ a_0 a_0cuts a_0s a_0before a_0slots a_0isKept a_0buffer a_0cells a_0owner a_0code a_0table a_0isOver a_0isRuled a_0all a_0some a_0chosen a_0last a_0corner a_0wide a_0aside known_0 length_0 thrown_0 many_0 round_0 seed_0 hash_0 cuts_0 s_0) sz) := by
  refine wh_ofWi (lv := [(0, .ref a_0), (1, .int x1)]) RX10 (by decide) rfl rfl (Nat.le_of_ble_eq_true rfl) rfl ?_
  intro p e s m below meth c A QQ hx hb hml hown hts hP hK hN hD hA hret ls hl
  have hS : va_S A s.heap s.heap [] := va_S.rf
  have hiX10 : ∀ w ∈ wsX100, w ∈ wsX10_makes := (fun _ h => List.mem_cons_of_mem _ (List.mem_append_right _ (h)))
  unfold fM_makes at hf
  refine lv_aload_n hx hb dX10_makes_0 rfl (lv_at hl 0 rfl) ?_
  refine lv_iload_n hx hb dX10_makes_1 rfl (lv_at hl 1 rfl) ?_
  refine lv_i2l hx hb dX10_makes_2 rfl ?_
  refine wh_put (D := (dC, dI)) (ci := 10) (C := RX10) (T := TX10) (N := 26) (ty := .long) (v := .long x1.toInt64) (ws' := (wl_fM_makes cI cZ cJ cQ a_0 a_0cuts a_0s a_0before a_0slots a_0isKept a_0buffer a_0cells a_0owner a_0code a_0table a_0isOver a_0isRuled a_0all a_0some a_0chosen a_0last a_0corner a_0wide a_0aside known_0 length_0 thrown_0 many_0 round_0 x1.toInt64 hash_0 cuts_0 s_0)) hx hb hts hiX10 tyX10 tyX10_ok nmX10 hown hK hP hD hS 0 rfl rfl 23 (by decide) (hts (.fieldLink RX10 148 "PaddockFieldsModel" "seed" "J") (List.mem_cons_of_mem _ (List.mem_append_left _ (List.mem_of_getElem? (i := 0) rfl)))) (fun _ h9 => h9) rfl rfl rfl rfl (Nat.le_of_ble_eq_true rfl) rfl dX10_makes_3 (fun H locs hP hD hS => ?_)
  refine lv_aload_n hx hb dX10_makes_6 rfl (lv_at hl 0 rfl) ?_
  refine va_get (D := (dC, dI)) (ci := 10) (C := RX10) (T := TX10) (N := 26) hx hb hts hiX10 hown hK hP 0 rfl rfl 22 (by decide) (hts (.fieldLink RX10 63 "PaddockFieldsModel" "cuts" "[I") (List.mem_cons_of_mem _ (List.mem_append_left _ (List.mem_of_getElem? (i := 1) rfl)))) (fun _ h9 => h9) rfl dX10_makes_7 ?_
  refine lv_iconst (v := 0) hx hb dX10_makes_10 (by decide) ?_
  refine lv_iconst (v := 0) hx hb dX10_makes_11 (by decide) ?_
  obtain ⟨w1, h_w1, hf⟩ := hf_bind hf
  refine wh_stI (D := (dC, dI)) (ws' := (wl_fM_makes cI cZ cJ cQ a_0 a_0cuts a_0s a_0before a_0slots a_0isKept a_0buffer a_0cells a_0owner a_0code a_0table a_0isOver a_0isRuled a_0all a_0some a_0chosen a_0last a_0corner a_0wide a_0aside known_0 length_0 thrown_0 many_0 round_0 x1.toInt64 hash_0 w1 s_0)) hx hb hK hP hD hS 1 0 rfl rfl rfl h_w1 dX10_makes_12 (fun H locs hP hD hS => ?_)
  refine lv_aload_n hx hb dX10_makes_13 rfl (lv_at hl 0 rfl) ?_
  refine va_get (D := (dC, dI)) (ci := 10) (C := RX10) (T := TX10) (N := 26) hx hb hts hiX10 hown hK hP 0 rfl rfl 22 (by decide) (hts (.fieldLink RX10 63 "PaddockFieldsModel" "cuts" "[I") (List.mem_cons_of_mem _ (List.mem_append_left _ (List.mem_of_getElem? (i := 1) rfl)))) (fun _ h9 => h9) rfl dX10_makes_14 ?_
  refine lv_iconst (v := 1) hx hb dX10_makes_17 (by decide) ?_
  refine lv_iconst (v := 0) hx hb dX10_makes_18 (by decide) ?_
  obtain ⟨w2, h_w2, hf⟩ := hf_bind hf
  refine wh_stI (D := (dC, dI)) (ws' := (wl_fM_makes cI cZ cJ cQ a_0 a_0cuts a_0s a_0before a_0slots a_0isKept a_0buffer a_0cells a_0owner a_0code a_0table a_0isOver a_0isRuled a_0all a_0some a_0chosen a_0last a_0corner a_0wide a_0aside known_0 length_0 thrown_0 many_0 round_0 x1.toInt64 hash_0 w2 s_0)) hx hb hK hP hD hS 1 0 rfl rfl rfl h_w2 dX10_makes_19 (fun H locs hP hD hS => ?_)
  refine lv_aload_n hx hb dX10_makes_20 rfl (lv_at hl 0 rfl) ?_
  refine va_get (D := (dC, dI)) (ci := 10) (C := RX10) (T := TX10) (N := 26) hx hb hts hiX10 hown hK hP 0 rfl rfl 22 (by decide) (hts (.fieldLink RX10 63 "PaddockFieldsModel" "cuts" "[I") (List.mem_cons_of_mem _ (List.mem_append_left _ (List.mem_of_getElem? (i := 1) rfl)))) (fun _ h9 => h9) rfl dX10_makes_21 ?_
  refine lv_iconst (v := 2) hx hb dX10_makes_24 (by decide) ?_
  refine lv_iconst (v := 5) hx hb dX10_makes_25 (by decide) ?_
  obtain ⟨w3, h_w3, hf⟩ := hf_bind hf
  refine wh_stI (D := (dC, dI)) (ws' := (wl_fM_makes cI cZ cJ cQ a_0 a_0cuts a_0s a_0before a_0slots a_0isKept a_0buffer a_0cells a_0owner a_0code a_0table a_0isOver a_0isRuled a_0all a_0some a_0chosen a_0last a_0corner a_0wide a_0aside known_0 length_0 thrown_0 many_0 round_0 x1.toInt64 hash_0 w3 s_0)) hx hb hK hP hD hS 1 0 rfl rfl rfl h_w3 dX10_makes_26 (fun H locs hP hD hS => ?_)
  refine lv_aload_n hx hb dX10_makes_27 rfl (lv_at hl 0 rfl) ?_
  refine va_get (D := (dC, dI)) (ci := 10) (C := RX10) (T := TX10) (N := 26) hx hb hts hiX10 hown hK hP 0 rfl rfl 22 (by decide) (hts (.fieldLink RX10 63 "PaddockFieldsModel" "cuts" "[I") (List.mem_cons_of_mem _ (List.mem_append_left _ (List.mem_of_getElem? (i := 1) rfl)))) (fun _ h9 => h9) rfl dX10_makes_28 ?_
  refine lv_iconst (v := 3) hx hb dX10_makes_31 (by decide) ?_
  refine lv_bipush (v := 6) hx hb dX10_makes_32 (by decide) ?_
  obtain ⟨w4, h_w4, hf⟩ := hf_bind hf
  refine wh_stI (D := (dC, dI)) (ws' := (wl_fM_makes cI cZ cJ cQ a_0 a_0cuts a_0s a_0before a_0slots a_0isKept a_0buffer a_0cells a_0owner a_0code a_0table a_0isOver a_0isRuled a_0all a_0some a_0chosen a_0last a_0corner a_0wide a_0aside known_0 length_0 thrown_0 many_0 round_0 x1.toInt64 hash_0 w4 s_0)) hx hb hK hP hD hS 1 0 rfl rfl rfl h_w4 dX10_makes_34 (fun H locs hP hD hS => ?_)
  refine lv_iconst (v := 1) hx hb dX10_makes_35 (by decide) ?_
  refine lv_istore_n (lv' := [(2, .int (1 : Int32)), (0, .ref a_0), (1, .int x1)]) hx hb dX10_makes_36 rfl hl (by decide) rfl (fun ls hl => ?_)
  refine lv_iconst (v := 0) hx hb dX10_makes_37 (by decide) ?_
  refine lv_istore_n (lv' := [(3, .int (0 : Int32)), (2, .int (1 : Int32)), (0, .ref a_0), (1, .int x1)]) hx hb dX10_makes_38 rfl hl (by decide) rfl (fun ls hl => ?_)
  obtain ⟨r21, h_r21, hf⟩ := hf_bind hf
  have hE_1 : ∀ (H : Heap) (locs : List Loc) (ls : Array Slot), lv_has ls 10 [(0, .ref a_0), (2, .int r21.1)] → va_P (dC, dI) vwCl (wl_fM_makes cI cZ cJ cQ a_0 a_0cuts a_0s a_0before a_0slots a_0isKept a_0buffer a_0cells a_0owner a_0code a_0table a_0isOver a_0isRuled a_0all a_0some a_0chosen a_0last a_0corner a_0wide a_0aside known_0 length_0 thrown_0 many_0 round_0 r21.2.2.2 hash_0 r21.2.2.1 s_0) H → va_D A (wl_fM_makes cI cZ cJ cQ a_0 a_0cuts a_0s a_0before a_0slots a_0isKept a_0buffer a_0cells a_0owner a_0code a_0table a_0isOver a_0isRuled a_0all a_0some a_0chosen a_0last a_0corner a_0wide a_0aside known_0 length_0 thrown_0 many_0 round_0 r21.2.2.2 hash_0 r21.2.2.1 s_0) → va_S A s.heap H locs → W p l e ({ frames := 1, cells := 0, slots := 0, locals := 21 } : Room) s m [.ref a_0, .int x1].toArray below meth c H locs 0 0 QQ (F0 m 239 ls []) := by
    intro H locs ls hl hP hD hS
    refine lv_iconst (v := 0) hx hb dX10_makes_239 (by decide) ?_
    refine lv_istore (lv' := [(4, .int (0 : Int32)), (0, .ref a_0), (2, .int r21.1)]) hx hb dX10_makes_240 hl (by decide) rfl (fun ls hl => ?_)
    obtain ⟨r23, h_r23, hf⟩ := hf_bind hf
    have hE_2 : ∀ (H : Heap) (locs : List Loc) (ls : Array Slot), lv_has ls 10 [(0, .ref a_0), (2, .int r21.1)] → va_P (dC, dI) vwCl (wl_fM_makes cI cZ cJ cQ a_0 a_0cuts a_0s a_0before a_0slots a_0isKept a_0buffer a_0cells a_0owner a_0code a_0table a_0isOver a_0isRuled a_0all a_0some a_0chosen a_0last a_0corner a_0wide a_0aside known_0 length_0 thrown_0 many_0 round_0 r21.2.2.2 hash_0 r21.2.2.1 r23.2) H → va_D A (wl_fM_makes cI cZ cJ cQ a_0 a_0cuts a_0s a_0before a_0slots a_0isKept a_0buffer a_0cells a_0owner a_0code a_0table a_0isOver a_0isRuled a_0all a_0some a_0chosen a_0last a_0corner a_0wide a_0aside known_0 length_0 thrown_0 many_0 round_0 r21.2.2.2 hash_0 r21.2.2.1 r23.2) → va_S A s.heap H locs → W p l e ({ frames := 1, cells := 0, slots := 0, locals := 21 } : Room) s m [.ref a_0, .int x1].toArray below meth c H locs 0 0 QQ (F0 m 263 ls []) := by
      intro H locs ls hl hP hD hS
      refine lv_iconst (v := 0) hx hb dX10_makes_263 (by decide) ?_
      refine lv_istore (lv' := [(4, .int (0 : Int32)), (0, .ref a_0), (2, .int r21.1)]) hx hb dX10_makes_264 hl (by decide) rfl (fun ls hl => ?_)
      obtain ⟨r34, h_r34, hf⟩ := hf_bind hf
      have hE_3 : ∀ (H : Heap) (locs : List Loc) (ls : Array Slot), lv_has ls 10 [(2, .int r21.1)] → va_P (dC, dI) vwCl (wl_fM_makes cI cZ cJ cQ a_0 a_0cuts a_0s a_0before a_0slots a_0isKept a_0buffer a_0cells a_0owner a_0code a_0table a_0isOver a_0isRuled a_0all a_0some a_0chosen a_0last a_0corner a_0wide a_0aside known_0 length_0 thrown_0 many_0 round_0 r34.2.1 hash_0 r21.2.2.1 r34.2.2) H → va_D A (wl_fM_makes cI cZ cJ cQ a_0 a_0cuts a_0s a_0before a_0slots a_0isKept a_0buffer a_0cells a_0owner a_0code a_0table a_0isOver a_0isRuled a_0all a_0some a_0chosen a_0last a_0corner a_0wide a_0aside known_0 length_0 thrown_0 many_0 round_0 r34.2.1 hash_0 r21.2.2.1 r34.2.2) → va_S A s.heap H locs → W p l e ({ frames := 1, cells := 0, slots := 0, locals := 21 } : Room) s m [.ref a_0, .int x1].toArray below meth c H locs 0 0 QQ (F0 m 368 ls []) := by
        intro H locs ls hl hP hD hS
        refine lv_iload_n hx hb dX10_makes_368 rfl (lv_at hl 0 rfl) ?_
        obtain rfl := Option.some.inj hf
        exact hret _ _ _ _ hP hD hS dX10_makes_369
      have hL_4 : ∀ (N : Nat) (l4_5 : Int32) (seed_0_6 : Int64) (s_0_7 : Nat → Int32), fM_makes_L266 F r21.1 r21.2.2.1 N l4_5 seed_0_6 s_0_7 = some r34 → ∀ (H : Heap) (locs : List Loc) (ls : Array Slot), lv_has ls 10 [(0, .ref a_0), (2, .int r21.1), (4, .int l4_5)] → va_P (dC, dI) vwCl (wl_fM_makes cI cZ cJ cQ a_0 a_0cuts a_0s a_0before a_0slots a_0isKept a_0buffer a_0cells a_0owner a_0code a_0table a_0isOver a_0isRuled a_0all a_0some a_0chosen a_0last a_0corner a_0wide a_0aside known_0 length_0 thrown_0 many_0 round_0 seed_0_6 hash_0 r21.2.2.1 s_0_7) H → va_D A (wl_fM_makes cI cZ cJ cQ a_0 a_0cuts a_0s a_0before a_0slots a_0isKept a_0buffer a_0cells a_0owner a_0code a_0table a_0isOver a_0isRuled a_0all a_0some a_0chosen a_0last a_0corner a_0wide a_0aside known_0 length_0 thrown_0 many_0 round_0 seed_0_6 hash_0 r21.2.2.1 s_0_7) → va_S A s.heap H locs → W p l e ({ frames := 1, cells := 0, slots := 0, locals := 21 } : Room) s m [.ref a_0, .int x1].toArray below meth c H locs 0 0 QQ (F0 m 266 ls []) := by
        intro N
        induction N with
        | zero => intro l4_5 seed_0_6 s_0_7 hf; exact nomatch (show none = some _ from hf)
        | succ N ih =>
          intro l4_5 seed_0_6 s_0_7 hf H locs ls hl hP hD hS
          rw [fM_makes_L266] at hf
          refine lv_iload hx hb dX10_makes_266 (lv_at hl 2 rfl) ?_
          refine lv_iload_n hx hb dX10_makes_268 rfl (lv_at hl 1 rfl) ?_
          refine lv_icmp_ge (tgt := 368) hx hb dX10_makes_269 (by decide) (fun cc => ?_) (fun cc => ?_)
          · replace hf := hf_pos cc hf
            obtain rfl := Option.some.inj hf
            exact hE_3 _ _ _ (lv_sub hl [1] rfl) hP hD hS
          · replace hf := hf_neg cc hf
            refine lv_aload_n hx hb dX10_makes_272 rfl (lv_at hl 0 rfl) ?_
            refine va_get (D := (dC, dI)) (ci := 10) (C := RX10) (T := TX10) (N := 26) hx hb hts hiX10 hown hK hP 0 rfl rfl 22 (by decide) (hts (.fieldLink RX10 63 "PaddockFieldsModel" "cuts" "[I") (List.mem_cons_of_mem _ (List.mem_append_left _ (List.mem_of_getElem? (i := 1) rfl)))) (fun _ h9 => h9) rfl dX10_makes_273 ?_
            refine lv_iconst (v := 4) hx hb dX10_makes_276 (by decide) ?_
            refine lv_iload hx hb dX10_makes_277 (lv_at hl 2 rfl) ?_
            refine lv_imul hx hb dX10_makes_279 ?_
            refine lv_iconst (v := 3) hx hb dX10_makes_280 (by decide) ?_
            refine lv_iadd hx hb dX10_makes_281 ?_
            obtain ⟨v24, h_v24, hf⟩ := hf_bind hf
            refine wh_ldI (D := (dC, dI)) hx hb hK hP 1 0 rfl rfl h_v24 dX10_makes_282 ?_
            refine lv_aload_n hx hb dX10_makes_283 rfl (lv_at hl 0 rfl) ?_
            refine va_get (D := (dC, dI)) (ci := 10) (C := RX10) (T := TX10) (N := 26) hx hb hts hiX10 hown hK hP 0 rfl rfl 22 (by decide) (hts (.fieldLink RX10 63 "PaddockFieldsModel" "cuts" "[I") (List.mem_cons_of_mem _ (List.mem_append_left _ (List.mem_of_getElem? (i := 1) rfl)))) (fun _ h9 => h9) rfl dX10_makes_284 ?_
            refine lv_iconst (v := 4) hx hb dX10_makes_287 (by decide) ?_
            refine lv_iload hx hb dX10_makes_288 (lv_at hl 2 rfl) ?_
            refine lv_imul hx hb dX10_makes_290 ?_
            refine lv_iconst (v := 1) hx hb dX10_makes_291 (by decide) ?_
            refine lv_iadd hx hb dX10_makes_292 ?_
            obtain ⟨v25, h_v25, hf⟩ := hf_bind hf
            refine wh_ldI (D := (dC, dI)) hx hb hK hP 1 0 rfl rfl h_v25 dX10_makes_293 ?_
            refine lv_isub hx hb dX10_makes_294 ?_
            refine lv_iconst (v := 1) hx hb dX10_makes_295 (by decide) ?_
            refine lv_iadd hx hb dX10_makes_296 ?_
            refine lv_istore (lv' := [(5, .int ((v24 - v25) + (1 : Int32))), (0, .ref a_0), (2, .int r21.1), (4, .int l4_5)]) hx hb dX10_makes_297 hl (by decide) rfl (fun ls hl => ?_)
            refine lv_aload_n hx hb dX10_makes_299 rfl (lv_at hl 1 rfl) ?_
            refine lv_aload_n hx hb dX10_makes_300 rfl (lv_at hl 1 rfl) ?_
            refine lv_iconst (v := 4) hx hb dX10_makes_301 (by decide) ?_
            refine lv_iload hx hb dX10_makes_302 (lv_at hl 3 rfl) ?_
            refine lv_imul hx hb dX10_makes_304 ?_
            obtain ⟨s26, h_s26, hf⟩ := hf_bind hf
            refine wh_calli (D := (dC, dI)) (ws' := (wl_fM_makes cI cZ cJ cQ a_0 a_0cuts a_0s a_0before a_0slots a_0isKept a_0buffer a_0cells a_0owner a_0code a_0table a_0isOver a_0isRuled a_0all a_0some a_0chosen a_0last a_0corner a_0wide a_0aside known_0 length_0 thrown_0 many_0 round_0 seed_0_6 hash_0 r21.2.2.1 s_0_7)) (va_runV (As := [.int ((4 : Int32) * l4_5)]) (rest := [.ref a_0]) ⟨hx, hb, hml, hown, hts⟩ (c_fM_area l dC dI cI cZ cJ cQ a_0 a_0cuts a_0s a_0before a_0slots a_0isKept a_0buffer a_0cells a_0owner a_0code a_0table a_0isOver a_0isRuled a_0all a_0some a_0chosen a_0last a_0corner a_0wide a_0aside known_0 length_0 thrown_0 many_0 round_0 seed_0_6 hash_0 _ h_s26) (cwV 1 hts gX10_makes_X10_area rfl rfl rfl (by decide +kernel) ⟨Nat.le_of_ble_eq_true rfl, Nat.le_of_ble_eq_true rfl⟩) (wh_preV (C := RX10) (T := TX10) (N := 26) hK hN hP hD [0, 1] rfl rfl 10 0 rfl rfl) rfl rfl hl.1 rfl (lv_room (Nat.le_of_ble_eq_true rfl)) dX10_makes_305 ⟨Nat.le_refl _, Nat.le_refl _⟩) hP hD hS hA [0, 1] [2] [1, 2, 0] rfl rfl rfl rfl (fun H locs hP hD hS => ?_)
            obtain ⟨s27, h_s27, hf⟩ := hf_bind hf
            refine wh_calli (D := (dC, dI)) (ws' := (wl_fM_makes cI cZ cJ cQ a_0 a_0cuts a_0s a_0before a_0slots a_0isKept a_0buffer a_0cells a_0owner a_0code a_0table a_0isOver a_0isRuled a_0all a_0some a_0chosen a_0last a_0corner a_0wide a_0aside known_0 length_0 thrown_0 many_0 round_0 s27.2 hash_0 r21.2.2.1 s_0_7)) (va_runV (As := [.int s26]) (rest := []) ⟨hx, hb, hml, hown, hts⟩ (c_fM_drawn l dC dI cI cZ cJ cQ a_0 a_0s a_0before a_0slots a_0isKept a_0buffer a_0cells a_0owner a_0code a_0table a_0isOver a_0isRuled a_0all a_0some a_0chosen a_0last a_0corner a_0wide a_0cuts a_0aside known_0 length_0 thrown_0 many_0 round_0 hash_0 _ h_s27) (cwV 1 hts gX10_makes_X10_drawn rfl rfl rfl (by decide +kernel) ⟨Nat.le_of_ble_eq_true rfl, Nat.le_of_ble_eq_true rfl⟩) (wh_preV (C := RX10) (T := TX10) (N := 26) hK hN hP hD [0] rfl rfl 10 0 rfl rfl) rfl rfl hl.1 rfl (lv_room (Nat.le_of_ble_eq_true rfl)) dX10_makes_308 ⟨Nat.le_refl _, Nat.le_refl _⟩) hP hD hS hA [0] [1, 2] [2, 0, 1] rfl rfl rfl rfl (fun H locs hP hD hS => ?_)
            refine lv_istore (lv' := [(6, .int s27.1), (5, .int ((v24 - v25) + (1 : Int32))), (0, .ref a_0), (2, .int r21.1), (4, .int l4_5)]) hx hb dX10_makes_311 hl (by decide) rfl (fun ls hl => ?_)
            refine lv_aload_n hx hb dX10_makes_313 rfl (lv_at hl 2 rfl) ?_
            refine va_get (D := (dC, dI)) (ci := 10) (C := RX10) (T := TX10) (N := 26) hx hb hts hiX10 hown hK hP 0 rfl rfl 0 (by decide) (hts (.fieldLink RX10 7 "PaddockFieldsModel" "s" "[I") (List.mem_cons_of_mem _ (List.mem_append_left _ (List.mem_of_getElem? (i := 2) rfl)))) (fun _ h9 => h9) rfl dX10_makes_314 ?_
            refine lv_bipush (v := 7) hx hb dX10_makes_317 (by decide) ?_
            refine lv_aload_n hx hb dX10_makes_319 rfl (lv_at hl 2 rfl) ?_
            refine va_get (D := (dC, dI)) (ci := 10) (C := RX10) (T := TX10) (N := 26) hx hb hts hiX10 hown hK hP 0 rfl rfl 22 (by decide) (hts (.fieldLink RX10 63 "PaddockFieldsModel" "cuts" "[I") (List.mem_cons_of_mem _ (List.mem_append_left _ (List.mem_of_getElem? (i := 1) rfl)))) (fun _ h9 => h9) rfl dX10_makes_320 ?_
            refine lv_iconst (v := 4) hx hb dX10_makes_323 (by decide) ?_
            refine lv_iload hx hb dX10_makes_324 (lv_at hl 4 rfl) ?_
            refine lv_imul hx hb dX10_makes_326 ?_
            obtain ⟨v28, h_v28, hf⟩ := hf_bind hf
            refine wh_ldI (D := (dC, dI)) hx hb hK hP 1 0 rfl rfl h_v28 dX10_makes_327 ?_
            refine lv_iload hx hb dX10_makes_328 (lv_at hl 0 rfl) ?_
            refine lv_iload hx hb dX10_makes_330 (lv_at hl 1 rfl) ?_
            obtain ⟨v29, h_v29, hf⟩ := hf_bind hf
            refine wh_idiv hx hb h_v29 dX10_makes_332 ?_
            refine lv_iadd hx hb dX10_makes_333 ?_
            refine lv_imul hx hb dX10_makes_334 ?_
            refine lv_aload_n hx hb dX10_makes_335 rfl (lv_at hl 2 rfl) ?_
            refine va_get (D := (dC, dI)) (ci := 10) (C := RX10) (T := TX10) (N := 26) hx hb hts hiX10 hown hK hP 0 rfl rfl 22 (by decide) (hts (.fieldLink RX10 63 "PaddockFieldsModel" "cuts" "[I") (List.mem_cons_of_mem _ (List.mem_append_left _ (List.mem_of_getElem? (i := 1) rfl)))) (fun _ h9 => h9) rfl dX10_makes_336 ?_
            refine lv_iconst (v := 4) hx hb dX10_makes_339 (by decide) ?_
            refine lv_iload hx hb dX10_makes_340 (lv_at hl 4 rfl) ?_
            refine lv_imul hx hb dX10_makes_342 ?_
            refine lv_iconst (v := 1) hx hb dX10_makes_343 (by decide) ?_
            refine lv_iadd hx hb dX10_makes_344 ?_
            obtain ⟨v30, h_v30, hf⟩ := hf_bind hf
            refine wh_ldI (D := (dC, dI)) hx hb hK hP 1 0 rfl rfl h_v30 dX10_makes_345 ?_
            refine lv_iadd hx hb dX10_makes_346 ?_
            refine lv_iload hx hb dX10_makes_347 (lv_at hl 0 rfl) ?_
            refine lv_iload hx hb dX10_makes_349 (lv_at hl 1 rfl) ?_
            obtain ⟨v31, h_v31, hf⟩ := hf_bind hf
            refine wh_irem hx hb h_v31 dX10_makes_351 ?_
            refine lv_iadd hx hb dX10_makes_352 ?_
            refine lv_aload_n hx hb dX10_makes_353 rfl (lv_at hl 2 rfl) ?_
            refine lv_iconst (v := 4) hx hb dX10_makes_354 (by decide) ?_
            refine lv_iload hx hb dX10_makes_355 (lv_at hl 4 rfl) ?_
            refine lv_imul hx hb dX10_makes_357 ?_
            obtain ⟨s32, h_s32, hf⟩ := hf_bind hf
            refine wh_calli (D := (dC, dI)) (ws' := (wl_fM_makes cI cZ cJ cQ a_0 a_0cuts a_0s a_0before a_0slots a_0isKept a_0buffer a_0cells a_0owner a_0code a_0table a_0isOver a_0isRuled a_0all a_0some a_0chosen a_0last a_0corner a_0wide a_0aside known_0 length_0 thrown_0 many_0 round_0 s27.2 hash_0 r21.2.2.1 s_0_7)) (va_runV (As := [.int ((4 : Int32) * l4_5)]) (rest := [.int ((((7 : Int32) * (v28 + v29)) + v30) + v31), .ref a_0s]) ⟨hx, hb, hml, hown, hts⟩ (c_fM_area l dC dI cI cZ cJ cQ a_0 a_0cuts a_0s a_0before a_0slots a_0isKept a_0buffer a_0cells a_0owner a_0code a_0table a_0isOver a_0isRuled a_0all a_0some a_0chosen a_0last a_0corner a_0wide a_0aside known_0 length_0 thrown_0 many_0 round_0 s27.2 hash_0 _ h_s32) (cwV 1 hts gX10_makes_X10_area rfl rfl rfl (by decide +kernel) ⟨Nat.le_of_ble_eq_true rfl, Nat.le_of_ble_eq_true rfl⟩) (wh_preV (C := RX10) (T := TX10) (N := 26) hK hN hP hD [0, 1] rfl rfl 10 0 rfl rfl) rfl rfl hl.1 rfl (lv_room (Nat.le_of_ble_eq_true rfl)) dX10_makes_358 ⟨Nat.le_refl _, Nat.le_refl _⟩) hP hD hS hA [0, 1] [2] [1, 2, 0] rfl rfl rfl rfl (fun H locs hP hD hS => ?_)
            obtain ⟨w33, h_w33, hf⟩ := hf_bind hf
            refine wh_stI (D := (dC, dI)) (ws' := (wl_fM_makes cI cZ cJ cQ a_0 a_0cuts a_0s a_0before a_0slots a_0isKept a_0buffer a_0cells a_0owner a_0code a_0table a_0isOver a_0isRuled a_0all a_0some a_0chosen a_0last a_0corner a_0wide a_0aside known_0 length_0 thrown_0 many_0 round_0 s27.2 hash_0 r21.2.2.1 w33)) hx hb hK hP hD hS 2 0 rfl rfl rfl h_w33 dX10_makes_361 (fun H locs hP hD hS => ?_)
            refine lv_iinc (v := (l4_5 + (1 : Int32))) (lv' := [(4, .int (l4_5 + (1 : Int32))), (6, .int s27.1), (5, .int ((v24 - v25) + (1 : Int32))), (0, .ref a_0), (2, .int r21.1)]) hx hb dX10_makes_362 hl (k := 4) rfl rfl (by decide) rfl (fun ls hl => ?_)
            refine lv_goto (tgt := 266) hx hb dX10_makes_365 (by decide) ?_
            exact ih _ _ _ hf _ _ _ (lv_sub hl [3, 4, 0] rfl) hP hD hS
      exact hL_4 _ _ _ _ h_r34 _ _ _ (lv_sub hl [1, 2, 0] rfl) hP hD hS
    have hL_8 : ∀ (N : Nat) (l4_9 : Int32) (s_0_10 : Nat → Int32), fM_makes_L242 F N l4_9 s_0_10 = some r23 → ∀ (H : Heap) (locs : List Loc) (ls : Array Slot), lv_has ls 10 [(0, .ref a_0), (2, .int r21.1), (4, .int l4_9)] → va_P (dC, dI) vwCl (wl_fM_makes cI cZ cJ cQ a_0 a_0cuts a_0s a_0before a_0slots a_0isKept a_0buffer a_0cells a_0owner a_0code a_0table a_0isOver a_0isRuled a_0all a_0some a_0chosen a_0last a_0corner a_0wide a_0aside known_0 length_0 thrown_0 many_0 round_0 r21.2.2.2 hash_0 r21.2.2.1 s_0_10) H → va_D A (wl_fM_makes cI cZ cJ cQ a_0 a_0cuts a_0s a_0before a_0slots a_0isKept a_0buffer a_0cells a_0owner a_0code a_0table a_0isOver a_0isRuled a_0all a_0some a_0chosen a_0last a_0corner a_0wide a_0aside known_0 length_0 thrown_0 many_0 round_0 r21.2.2.2 hash_0 r21.2.2.1 s_0_10) → va_S A s.heap H locs → W p l e ({ frames := 1, cells := 0, slots := 0, locals := 21 } : Room) s m [.ref a_0, .int x1].toArray below meth c H locs 0 0 QQ (F0 m 242 ls []) := by
      intro N
      induction N with
      | zero => intro l4_9 s_0_10 hf; exact nomatch (show none = some _ from hf)
      | succ N ih =>
        intro l4_9 s_0_10 hf H locs ls hl hP hD hS
        rw [fM_makes_L242] at hf
        refine lv_iload hx hb dX10_makes_242 (lv_at hl 2 rfl) ?_
        refine lv_bipush (v := 84) hx hb dX10_makes_244 (by decide) ?_
        refine lv_icmp_ge (tgt := 263) hx hb dX10_makes_246 (by decide) (fun cc => ?_) (fun cc => ?_)
        · replace hf := hf_pos cc hf
          obtain rfl := Option.some.inj hf
          exact hE_2 _ _ _ (lv_sub hl [0, 1] rfl) hP hD hS
        · replace hf := hf_neg cc hf
          refine lv_aload_n hx hb dX10_makes_249 rfl (lv_at hl 0 rfl) ?_
          refine va_get (D := (dC, dI)) (ci := 10) (C := RX10) (T := TX10) (N := 26) hx hb hts hiX10 hown hK hP 0 rfl rfl 0 (by decide) (hts (.fieldLink RX10 7 "PaddockFieldsModel" "s" "[I") (List.mem_cons_of_mem _ (List.mem_append_left _ (List.mem_of_getElem? (i := 2) rfl)))) (fun _ h9 => h9) rfl dX10_makes_250 ?_
          refine lv_iload hx hb dX10_makes_253 (lv_at hl 2 rfl) ?_
          refine lv_iconst (v := 0) hx hb dX10_makes_255 (by decide) ?_
          obtain ⟨w22, h_w22, hf⟩ := hf_bind hf
          refine wh_stI (D := (dC, dI)) (ws' := (wl_fM_makes cI cZ cJ cQ a_0 a_0cuts a_0s a_0before a_0slots a_0isKept a_0buffer a_0cells a_0owner a_0code a_0table a_0isOver a_0isRuled a_0all a_0some a_0chosen a_0last a_0corner a_0wide a_0aside known_0 length_0 thrown_0 many_0 round_0 r21.2.2.2 hash_0 r21.2.2.1 w22)) hx hb hK hP hD hS 2 0 rfl rfl rfl h_w22 dX10_makes_256 (fun H locs hP hD hS => ?_)
          refine lv_iinc (v := (l4_9 + (1 : Int32))) (lv' := [(4, .int (l4_9 + (1 : Int32))), (0, .ref a_0), (2, .int r21.1)]) hx hb dX10_makes_257 hl (k := 2) rfl rfl (by decide) rfl (fun ls hl => ?_)
          refine lv_goto (tgt := 242) hx hb dX10_makes_260 (by decide) ?_
          exact ih _ _ hf _ _ _ (lv_sub hl [1, 2, 0] rfl) hP hD hS
    exact hL_8 _ _ _ h_r23 _ _ _ (lv_sub hl [1, 2, 0] rfl) hP hD hS
  have hL_11 : ∀ (N : Nat) (l2_12 : Int32) (l3_13 : Int32) (cuts_0_14 : Nat → Int32) (seed_0_15 : Int64), fM_makes_L39 F N l2_12 l3_13 cuts_0_14 seed_0_15 = some r21 → ∀ (H : Heap) (locs : List Loc) (ls : Array Slot), lv_has ls 10 [(0, .ref a_0), (2, .int l2_12), (3, .int l3_13)] → va_P (dC, dI) vwCl (wl_fM_makes cI cZ cJ cQ a_0 a_0cuts a_0s a_0before a_0slots a_0isKept a_0buffer a_0cells a_0owner a_0code a_0table a_0isOver a_0isRuled a_0all a_0some a_0chosen a_0last a_0corner a_0wide a_0aside known_0 length_0 thrown_0 many_0 round_0 seed_0_15 hash_0 cuts_0_14 s_0) H → va_D A (wl_fM_makes cI cZ cJ cQ a_0 a_0cuts a_0s a_0before a_0slots a_0isKept a_0buffer a_0cells a_0owner a_0code a_0table a_0isOver a_0isRuled a_0all a_0some a_0chosen a_0last a_0corner a_0wide a_0aside known_0 length_0 thrown_0 many_0 round_0 seed_0_15 hash_0 cuts_0_14 s_0) → va_S A s.heap H locs → W p l e ({ frames := 1, cells := 0, slots := 0, locals := 21 } : Room) s m [.ref a_0, .int x1].toArray below meth c H locs 0 0 QQ (F0 m 39 ls []) := by
    intro N
    induction N with
    | zero => intro l2_12 l3_13 cuts_0_14 seed_0_15 hf; exact nomatch (show none = some _ from hf)
    | succ N ih =>
      intro l2_12 l3_13 cuts_0_14 seed_0_15 hf H locs ls hl hP hD hS
      rw [fM_makes_L39] at hf
      refine lv_iload_n hx hb dX10_makes_39 rfl (lv_at hl 2 rfl) ?_
      refine lv_iload_n hx hb dX10_makes_40 rfl (lv_at hl 1 rfl) ?_
      refine lv_icmp_ge (tgt := 239) hx hb dX10_makes_41 (by decide) (fun cc => ?_) (fun cc => ?_)
      · replace hf := hf_pos cc hf
        obtain rfl := Option.some.inj hf
        exact hE_1 _ _ _ (lv_sub hl [0, 1] rfl) hP hD hS
      · replace hf := hf_neg cc hf
        refine lv_iconst (v := 4) hx hb dX10_makes_44 (by decide) ?_
        refine lv_iload_n hx hb dX10_makes_45 rfl (lv_at hl 2 rfl) ?_
        refine lv_imul hx hb dX10_makes_46 ?_
        refine lv_istore (lv' := [(4, .int ((4 : Int32) * l3_13)), (0, .ref a_0), (2, .int l2_12), (3, .int l3_13)]) hx hb dX10_makes_47 hl (by decide) rfl (fun ls hl => ?_)
        refine lv_aload_n hx hb dX10_makes_49 rfl (lv_at hl 1 rfl) ?_
        refine lv_iload hx hb dX10_makes_50 (lv_at hl 0 rfl) ?_
        obtain ⟨s5, h_s5, hf⟩ := hf_bind hf
        refine wh_calli (D := (dC, dI)) (ws' := (wl_fM_makes cI cZ cJ cQ a_0 a_0cuts a_0s a_0before a_0slots a_0isKept a_0buffer a_0cells a_0owner a_0code a_0table a_0isOver a_0isRuled a_0all a_0some a_0chosen a_0last a_0corner a_0wide a_0aside known_0 length_0 thrown_0 many_0 round_0 seed_0_15 hash_0 cuts_0_14 s_0)) (va_runV (As := [.int ((4 : Int32) * l3_13)]) (rest := []) ⟨hx, hb, hml, hown, hts⟩ (c_fM_area l dC dI cI cZ cJ cQ a_0 a_0cuts a_0s a_0before a_0slots a_0isKept a_0buffer a_0cells a_0owner a_0code a_0table a_0isOver a_0isRuled a_0all a_0some a_0chosen a_0last a_0corner a_0wide a_0aside known_0 length_0 thrown_0 many_0 round_0 seed_0_15 hash_0 _ h_s5) (cwV 1 hts gX10_makes_X10_area rfl rfl rfl (by decide +kernel) ⟨Nat.le_of_ble_eq_true rfl, Nat.le_of_ble_eq_true rfl⟩) (wh_preV (C := RX10) (T := TX10) (N := 26) hK hN hP hD [0, 1] rfl rfl 10 0 rfl rfl) rfl rfl hl.1 rfl (lv_room (Nat.le_of_ble_eq_true rfl)) dX10_makes_52 ⟨Nat.le_refl _, Nat.le_refl _⟩) hP hD hS hA [0, 1] [2] [1, 2, 0] rfl rfl rfl rfl (fun H locs hP hD hS => ?_)
        refine lv_bipush (v := 6) hx hb dX10_makes_55 (by decide) ?_
        obtain ⟨j20, h_j20, hf⟩ := hf_bind hf
        have hJ_16 : ∀ (H : Heap) (locs : List Loc) (ls : Array Slot), lv_has ls 10 [(0, .ref a_0), (2, .int j20.1), (3, .int j20.2.1)] → va_P (dC, dI) vwCl (wl_fM_makes cI cZ cJ cQ a_0 a_0cuts a_0s a_0before a_0slots a_0isKept a_0buffer a_0cells a_0owner a_0code a_0table a_0isOver a_0isRuled a_0all a_0some a_0chosen a_0last a_0corner a_0wide a_0aside known_0 length_0 thrown_0 many_0 round_0 j20.2.2.2 hash_0 j20.2.2.1 s_0) H → va_D A (wl_fM_makes cI cZ cJ cQ a_0 a_0cuts a_0s a_0before a_0slots a_0isKept a_0buffer a_0cells a_0owner a_0code a_0table a_0isOver a_0isRuled a_0all a_0some a_0chosen a_0last a_0corner a_0wide a_0aside known_0 length_0 thrown_0 many_0 round_0 j20.2.2.2 hash_0 j20.2.2.1 s_0) → va_S A s.heap H locs → W p l e ({ frames := 1, cells := 0, slots := 0, locals := 21 } : Room) s m [.ref a_0, .int x1].toArray below meth c H locs 0 0 QQ (F0 m 236 ls []) := by
          intro H locs ls hl hP hD hS
          refine lv_goto (tgt := 39) hx hb dX10_makes_236 (by decide) ?_
          exact ih _ _ _ _ hf _ _ _ (lv_sub hl [0, 1, 2] rfl) hP hD hS
        clear hf
        have hf := h_j20
        clear h_j20
        refine lv_icmp_le (tgt := 233) hx hb dX10_makes_57 (by decide) (fun cc => ?_) (fun cc => ?_)
        · replace hf := hf_pos cc hf
          refine lv_iinc (v := (l3_13 + (1 : Int32))) (lv' := [(3, .int (l3_13 + (1 : Int32))), (4, .int ((4 : Int32) * l3_13)), (0, .ref a_0), (2, .int l2_12)]) hx hb dX10_makes_233 hl (k := 3) rfl rfl (by decide) rfl (fun ls hl => ?_)
          obtain rfl := Option.some.inj hf
          exact hJ_16 _ _ _ (lv_sub hl [2, 3, 0] rfl) hP hD hS
        · replace hf := hf_neg cc hf
          refine lv_aload_n hx hb dX10_makes_60 rfl (lv_at hl 1 rfl) ?_
          refine va_get (D := (dC, dI)) (ci := 10) (C := RX10) (T := TX10) (N := 26) hx hb hts hiX10 hown hK hP 0 rfl rfl 22 (by decide) (hts (.fieldLink RX10 63 "PaddockFieldsModel" "cuts" "[I") (List.mem_cons_of_mem _ (List.mem_append_left _ (List.mem_of_getElem? (i := 1) rfl)))) (fun _ h9 => h9) rfl dX10_makes_61 ?_
          refine lv_iload hx hb dX10_makes_64 (lv_at hl 0 rfl) ?_
          refine lv_iconst (v := 2) hx hb dX10_makes_66 (by decide) ?_
          refine lv_iadd hx hb dX10_makes_67 ?_
          obtain ⟨v6, h_v6, hf⟩ := hf_bind hf
          refine wh_ldI (D := (dC, dI)) hx hb hK hP 1 0 rfl rfl h_v6 dX10_makes_68 ?_
          refine lv_aload_n hx hb dX10_makes_69 rfl (lv_at hl 1 rfl) ?_
          refine va_get (D := (dC, dI)) (ci := 10) (C := RX10) (T := TX10) (N := 26) hx hb hts hiX10 hown hK hP 0 rfl rfl 22 (by decide) (hts (.fieldLink RX10 63 "PaddockFieldsModel" "cuts" "[I") (List.mem_cons_of_mem _ (List.mem_append_left _ (List.mem_of_getElem? (i := 1) rfl)))) (fun _ h9 => h9) rfl dX10_makes_70 ?_
          refine lv_iload hx hb dX10_makes_73 (lv_at hl 0 rfl) ?_
          obtain ⟨v7, h_v7, hf⟩ := hf_bind hf
          refine wh_ldI (D := (dC, dI)) hx hb hK hP 1 0 rfl rfl h_v7 dX10_makes_75 ?_
          refine lv_isub hx hb dX10_makes_76 ?_
          refine lv_iconst (v := 1) hx hb dX10_makes_77 (by decide) ?_
          refine lv_iadd hx hb dX10_makes_78 ?_
          refine lv_istore (lv' := [(5, .int ((v6 - v7) + (1 : Int32))), (4, .int ((4 : Int32) * l3_13)), (0, .ref a_0), (2, .int l2_12), (3, .int l3_13)]) hx hb dX10_makes_79 hl (by decide) rfl (fun ls hl => ?_)
          refine lv_aload_n hx hb dX10_makes_81 rfl (lv_at hl 2 rfl) ?_
          refine va_get (D := (dC, dI)) (ci := 10) (C := RX10) (T := TX10) (N := 26) hx hb hts hiX10 hown hK hP 0 rfl rfl 22 (by decide) (hts (.fieldLink RX10 63 "PaddockFieldsModel" "cuts" "[I") (List.mem_cons_of_mem _ (List.mem_append_left _ (List.mem_of_getElem? (i := 1) rfl)))) (fun _ h9 => h9) rfl dX10_makes_82 ?_
          refine lv_iload hx hb dX10_makes_85 (lv_at hl 1 rfl) ?_
          refine lv_iconst (v := 3) hx hb dX10_makes_87 (by decide) ?_
          refine lv_iadd hx hb dX10_makes_88 ?_
          obtain ⟨v8, h_v8, hf⟩ := hf_bind hf
          refine wh_ldI (D := (dC, dI)) hx hb hK hP 1 0 rfl rfl h_v8 dX10_makes_89 ?_
          refine lv_aload_n hx hb dX10_makes_90 rfl (lv_at hl 2 rfl) ?_
          refine va_get (D := (dC, dI)) (ci := 10) (C := RX10) (T := TX10) (N := 26) hx hb hts hiX10 hown hK hP 0 rfl rfl 22 (by decide) (hts (.fieldLink RX10 63 "PaddockFieldsModel" "cuts" "[I") (List.mem_cons_of_mem _ (List.mem_append_left _ (List.mem_of_getElem? (i := 1) rfl)))) (fun _ h9 => h9) rfl dX10_makes_91 ?_
          refine lv_iload hx hb dX10_makes_94 (lv_at hl 1 rfl) ?_
          refine lv_iconst (v := 1) hx hb dX10_makes_96 (by decide) ?_
          refine lv_iadd hx hb dX10_makes_97 ?_
          obtain ⟨v9, h_v9, hf⟩ := hf_bind hf
          refine wh_ldI (D := (dC, dI)) hx hb hK hP 1 0 rfl rfl h_v9 dX10_makes_98 ?_
          refine lv_isub hx hb dX10_makes_99 ?_
          refine lv_iconst (v := 1) hx hb dX10_makes_100 (by decide) ?_
          refine lv_iadd hx hb dX10_makes_101 ?_
          refine lv_istore (lv' := [(6, .int ((v8 - v9) + (1 : Int32))), (5, .int ((v6 - v7) + (1 : Int32))), (4, .int ((4 : Int32) * l3_13)), (0, .ref a_0), (2, .int l2_12), (3, .int l3_13)]) hx hb dX10_makes_102 hl (by decide) rfl (fun ls hl => ?_)
          refine lv_iload hx hb dX10_makes_104 (lv_at hl 1 rfl) ?_
          refine lv_iload hx hb dX10_makes_106 (lv_at hl 0 rfl) ?_
          obtain ⟨j10, h_j10, hf⟩ := hf_bind hf
          have hJ_17 : ∀ (H : Heap) (locs : List Loc) (ls : Array Slot), lv_has ls 10 [(0, .ref a_0), (2, .int l2_12), (3, .int l3_13), (4, .int ((4 : Int32) * l3_13)), (5, .int ((v6 - v7) + (1 : Int32))), (6, .int ((v8 - v9) + (1 : Int32)))] → va_P (dC, dI) vwCl (wl_fM_makes cI cZ cJ cQ a_0 a_0cuts a_0s a_0before a_0slots a_0isKept a_0buffer a_0cells a_0owner a_0code a_0table a_0isOver a_0isRuled a_0all a_0some a_0chosen a_0last a_0corner a_0wide a_0aside known_0 length_0 thrown_0 many_0 round_0 seed_0_15 hash_0 cuts_0_14 s_0) H → va_D A (wl_fM_makes cI cZ cJ cQ a_0 a_0cuts a_0s a_0before a_0slots a_0isKept a_0buffer a_0cells a_0owner a_0code a_0table a_0isOver a_0isRuled a_0all a_0some a_0chosen a_0last a_0corner a_0wide a_0aside known_0 length_0 thrown_0 many_0 round_0 seed_0_15 hash_0 cuts_0_14 s_0) → va_S A s.heap H locs → W p l e ({ frames := 1, cells := 0, slots := 0, locals := 21 } : Room) s m [.ref a_0, .int x1].toArray below meth c H locs 0 0 QQ (F0 m 116 ls [.int j10]) := by
            intro H locs ls hl hP hD hS
            refine lv_istore (lv' := [(7, .int j10), (0, .ref a_0), (2, .int l2_12), (3, .int l3_13), (4, .int ((4 : Int32) * l3_13)), (5, .int ((v6 - v7) + (1 : Int32))), (6, .int ((v8 - v9) + (1 : Int32)))]) hx hb dX10_makes_116 hl (by decide) rfl (fun ls hl => ?_)
            refine lv_iconst (v := 1) hx hb dX10_makes_118 (by decide) ?_
            refine lv_aload_n hx hb dX10_makes_119 rfl (lv_at hl 1 rfl) ?_
            refine lv_iload hx hb dX10_makes_120 (lv_at hl 0 rfl) ?_
            obtain ⟨j11, h_j11, hf⟩ := hf_bind hf
            have hJ_18 : ∀ (H : Heap) (locs : List Loc) (ls : Array Slot), lv_has ls 10 [(0, .ref a_0), (2, .int l2_12), (3, .int l3_13), (4, .int ((4 : Int32) * l3_13)), (7, .int j10)] → va_P (dC, dI) vwCl (wl_fM_makes cI cZ cJ cQ a_0 a_0cuts a_0s a_0before a_0slots a_0isKept a_0buffer a_0cells a_0owner a_0code a_0table a_0isOver a_0isRuled a_0all a_0some a_0chosen a_0last a_0corner a_0wide a_0aside known_0 length_0 thrown_0 many_0 round_0 seed_0_15 hash_0 cuts_0_14 s_0) H → va_D A (wl_fM_makes cI cZ cJ cQ a_0 a_0cuts a_0s a_0before a_0slots a_0isKept a_0buffer a_0cells a_0owner a_0code a_0table a_0isOver a_0isRuled a_0all a_0some a_0chosen a_0last a_0corner a_0wide a_0aside known_0 length_0 thrown_0 many_0 round_0 seed_0_15 hash_0 cuts_0_14 s_0) → va_S A s.heap H locs → W p l e ({ frames := 1, cells := 0, slots := 0, locals := 21 } : Room) s m [.ref a_0, .int x1].toArray below meth c H locs 0 0 QQ (F0 m 132 ls [.int j11, .ref a_0, .int (1 : Int32)]) := by
              intro H locs ls hl hP hD hS
              refine lv_iconst (v := 1) hx hb dX10_makes_132 (by decide) ?_
              refine lv_isub hx hb dX10_makes_133 ?_
              obtain ⟨s12, h_s12, hf⟩ := hf_bind hf
              refine wh_calli (D := (dC, dI)) (ws' := (wl_fM_makes cI cZ cJ cQ a_0 a_0cuts a_0s a_0before a_0slots a_0isKept a_0buffer a_0cells a_0owner a_0code a_0table a_0isOver a_0isRuled a_0all a_0some a_0chosen a_0last a_0corner a_0wide a_0aside known_0 length_0 thrown_0 many_0 round_0 s12.2 hash_0 cuts_0_14 s_0)) (va_runV (As := [.int (j11 - (1 : Int32))]) (rest := [.int (1 : Int32)]) ⟨hx, hb, hml, hown, hts⟩ (c_fM_drawn l dC dI cI cZ cJ cQ a_0 a_0s a_0before a_0slots a_0isKept a_0buffer a_0cells a_0owner a_0code a_0table a_0isOver a_0isRuled a_0all a_0some a_0chosen a_0last a_0corner a_0wide a_0cuts a_0aside known_0 length_0 thrown_0 many_0 round_0 hash_0 _ h_s12) (cwV 1 hts gX10_makes_X10_drawn rfl rfl rfl (by decide +kernel) ⟨Nat.le_of_ble_eq_true rfl, Nat.le_of_ble_eq_true rfl⟩) (wh_preV (C := RX10) (T := TX10) (N := 26) hK hN hP hD [0] rfl rfl 10 0 rfl rfl) rfl rfl hl.1 rfl (lv_room (Nat.le_of_ble_eq_true rfl)) dX10_makes_134 ⟨Nat.le_refl _, Nat.le_refl _⟩) hP hD hS hA [0] [1, 2] [2, 0, 1] rfl rfl rfl rfl (fun H locs hP hD hS => ?_)
              refine lv_iadd hx hb dX10_makes_137 ?_
              refine lv_istore (lv' := [(8, .int ((1 : Int32) + s12.1)), (0, .ref a_0), (2, .int l2_12), (3, .int l3_13), (4, .int ((4 : Int32) * l3_13)), (7, .int j10)]) hx hb dX10_makes_138 hl (by decide) rfl (fun ls hl => ?_)
              refine lv_iconst (v := 0) hx hb dX10_makes_140 (by decide) ?_
              refine lv_istore (lv' := [(9, .int (0 : Int32)), (8, .int ((1 : Int32) + s12.1)), (0, .ref a_0), (2, .int l2_12), (3, .int l3_13), (4, .int ((4 : Int32) * l3_13)), (7, .int j10)]) hx hb dX10_makes_141 hl (by decide) rfl (fun ls hl => ?_)
              obtain ⟨r15, h_r15, hf⟩ := hf_bind hf
              have hE_19 : ∀ (H : Heap) (locs : List Loc) (ls : Array Slot), lv_has ls 10 [(0, .ref a_0), (2, .int l2_12), (3, .int l3_13), (4, .int ((4 : Int32) * l3_13)), (7, .int j10), (8, .int ((1 : Int32) + s12.1))] → va_P (dC, dI) vwCl (wl_fM_makes cI cZ cJ cQ a_0 a_0cuts a_0s a_0before a_0slots a_0isKept a_0buffer a_0cells a_0owner a_0code a_0table a_0isOver a_0isRuled a_0all a_0some a_0chosen a_0last a_0corner a_0wide a_0aside known_0 length_0 thrown_0 many_0 round_0 s12.2 hash_0 r15.2 s_0) H → va_D A (wl_fM_makes cI cZ cJ cQ a_0 a_0cuts a_0s a_0before a_0slots a_0isKept a_0buffer a_0cells a_0owner a_0code a_0table a_0isOver a_0isRuled a_0all a_0some a_0chosen a_0last a_0corner a_0wide a_0aside known_0 length_0 thrown_0 many_0 round_0 s12.2 hash_0 r15.2 s_0) → va_S A s.heap H locs → W p l e ({ frames := 1, cells := 0, slots := 0, locals := 21 } : Room) s m [.ref a_0, .int x1].toArray below meth c H locs 0 0 QQ (F0 m 176 ls []) := by
                intro H locs ls hl hP hD hS
                refine lv_aload_n hx hb dX10_makes_176 rfl (lv_at hl 0 rfl) ?_
                refine va_get (D := (dC, dI)) (ci := 10) (C := RX10) (T := TX10) (N := 26) hx hb hts hiX10 hown hK hP 0 rfl rfl 22 (by decide) (hts (.fieldLink RX10 63 "PaddockFieldsModel" "cuts" "[I") (List.mem_cons_of_mem _ (List.mem_append_left _ (List.mem_of_getElem? (i := 1) rfl)))) (fun _ h9 => h9) rfl dX10_makes_177 ?_
                refine lv_iload hx hb dX10_makes_180 (lv_at hl 3 rfl) ?_
                refine lv_iconst (v := 2) hx hb dX10_makes_182 (by decide) ?_
                refine lv_iadd hx hb dX10_makes_183 ?_
                refine lv_iload hx hb dX10_makes_184 (lv_at hl 4 rfl) ?_
                refine lv_iadd hx hb dX10_makes_186 ?_
                refine lv_aload_n hx hb dX10_makes_187 rfl (lv_at hl 0 rfl) ?_
                refine va_get (D := (dC, dI)) (ci := 10) (C := RX10) (T := TX10) (N := 26) hx hb hts hiX10 hown hK hP 0 rfl rfl 22 (by decide) (hts (.fieldLink RX10 63 "PaddockFieldsModel" "cuts" "[I") (List.mem_cons_of_mem _ (List.mem_append_left _ (List.mem_of_getElem? (i := 1) rfl)))) (fun _ h9 => h9) rfl dX10_makes_188 ?_
                refine lv_iload hx hb dX10_makes_191 (lv_at hl 3 rfl) ?_
                refine lv_iload hx hb dX10_makes_193 (lv_at hl 4 rfl) ?_
                refine lv_iadd hx hb dX10_makes_195 ?_
                obtain ⟨v16, h_v16, hf⟩ := hf_bind hf
                refine wh_ldI (D := (dC, dI)) hx hb hK hP 1 0 rfl rfl h_v16 dX10_makes_196 ?_
                refine lv_iload hx hb dX10_makes_197 (lv_at hl 5 rfl) ?_
                refine lv_iadd hx hb dX10_makes_199 ?_
                refine lv_iconst (v := 1) hx hb dX10_makes_200 (by decide) ?_
                refine lv_isub hx hb dX10_makes_201 ?_
                obtain ⟨w17, h_w17, hf⟩ := hf_bind hf
                refine wh_stI (D := (dC, dI)) (ws' := (wl_fM_makes cI cZ cJ cQ a_0 a_0cuts a_0s a_0before a_0slots a_0isKept a_0buffer a_0cells a_0owner a_0code a_0table a_0isOver a_0isRuled a_0all a_0some a_0chosen a_0last a_0corner a_0wide a_0aside known_0 length_0 thrown_0 many_0 round_0 s12.2 hash_0 w17 s_0)) hx hb hK hP hD hS 1 0 rfl rfl rfl h_w17 dX10_makes_202 (fun H locs hP hD hS => ?_)
                refine lv_aload_n hx hb dX10_makes_203 rfl (lv_at hl 0 rfl) ?_
                refine va_get (D := (dC, dI)) (ci := 10) (C := RX10) (T := TX10) (N := 26) hx hb hts hiX10 hown hK hP 0 rfl rfl 22 (by decide) (hts (.fieldLink RX10 63 "PaddockFieldsModel" "cuts" "[I") (List.mem_cons_of_mem _ (List.mem_append_left _ (List.mem_of_getElem? (i := 1) rfl)))) (fun _ h9 => h9) rfl dX10_makes_204 ?_
                refine lv_iconst (v := 4) hx hb dX10_makes_207 (by decide) ?_
                refine lv_iload_n hx hb dX10_makes_208 rfl (lv_at hl 1 rfl) ?_
                refine lv_imul hx hb dX10_makes_209 ?_
                refine lv_iload hx hb dX10_makes_210 (lv_at hl 4 rfl) ?_
                refine lv_iadd hx hb dX10_makes_212 ?_
                refine lv_aload_n hx hb dX10_makes_213 rfl (lv_at hl 0 rfl) ?_
                refine va_get (D := (dC, dI)) (ci := 10) (C := RX10) (T := TX10) (N := 26) hx hb hts hiX10 hown hK hP 0 rfl rfl 22 (by decide) (hts (.fieldLink RX10 63 "PaddockFieldsModel" "cuts" "[I") (List.mem_cons_of_mem _ (List.mem_append_left _ (List.mem_of_getElem? (i := 1) rfl)))) (fun _ h9 => h9) rfl dX10_makes_214 ?_
                refine lv_iload hx hb dX10_makes_217 (lv_at hl 3 rfl) ?_
                refine lv_iload hx hb dX10_makes_219 (lv_at hl 4 rfl) ?_
                refine lv_iadd hx hb dX10_makes_221 ?_
                obtain ⟨v18, h_v18, hf⟩ := hf_bind hf
                refine wh_ldI (D := (dC, dI)) hx hb hK hP 1 0 rfl rfl h_v18 dX10_makes_222 ?_
                refine lv_iload hx hb dX10_makes_223 (lv_at hl 5 rfl) ?_
                refine lv_iadd hx hb dX10_makes_225 ?_
                obtain ⟨w19, h_w19, hf⟩ := hf_bind hf
                refine wh_stI (D := (dC, dI)) (ws' := (wl_fM_makes cI cZ cJ cQ a_0 a_0cuts a_0s a_0before a_0slots a_0isKept a_0buffer a_0cells a_0owner a_0code a_0table a_0isOver a_0isRuled a_0all a_0some a_0chosen a_0last a_0corner a_0wide a_0aside known_0 length_0 thrown_0 many_0 round_0 s12.2 hash_0 w19 s_0)) hx hb hK hP hD hS 1 0 rfl rfl rfl h_w19 dX10_makes_226 (fun H locs hP hD hS => ?_)
                refine lv_iinc (v := (l2_12 + (1 : Int32))) (lv' := [(2, .int (l2_12 + (1 : Int32))), (0, .ref a_0), (3, .int l3_13), (4, .int ((4 : Int32) * l3_13)), (7, .int j10), (8, .int ((1 : Int32) + s12.1))]) hx hb dX10_makes_227 hl (k := 1) rfl rfl (by decide) rfl (fun ls hl => ?_)
                refine lv_goto (tgt := 236) hx hb dX10_makes_230 (by decide) ?_
                obtain rfl := Option.some.inj hf
                exact hJ_16 _ _ _ (lv_sub hl [1, 0, 2] rfl) hP hD hS
              have hL_20 : ∀ (N : Nat) (l9_21 : Int32) (cuts_0_22 : Nat → Int32), fM_makes_L143 F l2_12 ((4 : Int32) * l3_13) N l9_21 cuts_0_22 = some r15 → ∀ (H : Heap) (locs : List Loc) (ls : Array Slot), lv_has ls 10 [(0, .ref a_0), (2, .int l2_12), (3, .int l3_13), (4, .int ((4 : Int32) * l3_13)), (7, .int j10), (8, .int ((1 : Int32) + s12.1)), (9, .int l9_21)] → va_P (dC, dI) vwCl (wl_fM_makes cI cZ cJ cQ a_0 a_0cuts a_0s a_0before a_0slots a_0isKept a_0buffer a_0cells a_0owner a_0code a_0table a_0isOver a_0isRuled a_0all a_0some a_0chosen a_0last a_0corner a_0wide a_0aside known_0 length_0 thrown_0 many_0 round_0 s12.2 hash_0 cuts_0_22 s_0) H → va_D A (wl_fM_makes cI cZ cJ cQ a_0 a_0cuts a_0s a_0before a_0slots a_0isKept a_0buffer a_0cells a_0owner a_0code a_0table a_0isOver a_0isRuled a_0all a_0some a_0chosen a_0last a_0corner a_0wide a_0aside known_0 length_0 thrown_0 many_0 round_0 s12.2 hash_0 cuts_0_22 s_0) → va_S A s.heap H locs → W p l e ({ frames := 1, cells := 0, slots := 0, locals := 21 } : Room) s m [.ref a_0, .int x1].toArray below meth c H locs 0 0 QQ (F0 m 143 ls []) := by
                intro N
                induction N with
                | zero => intro l9_21 cuts_0_22 hf; exact nomatch (show none = some _ from hf)
                | succ N ih =>
                  intro l9_21 cuts_0_22 hf H locs ls hl hP hD hS
                  rw [fM_makes_L143] at hf
                  refine lv_iload hx hb dX10_makes_143 (lv_at hl 6 rfl) ?_
                  refine lv_iconst (v := 4) hx hb dX10_makes_145 (by decide) ?_
                  refine lv_icmp_ge (tgt := 176) hx hb dX10_makes_146 (by decide) (fun cc => ?_) (fun cc => ?_)
                  · replace hf := hf_pos cc hf
                    obtain rfl := Option.some.inj hf
                    exact hE_19 _ _ _ (lv_sub hl [0, 1, 2, 3, 4, 5] rfl) hP hD hS
                  · replace hf := hf_neg cc hf
                    refine lv_aload_n hx hb dX10_makes_149 rfl (lv_at hl 0 rfl) ?_
                    refine va_get (D := (dC, dI)) (ci := 10) (C := RX10) (T := TX10) (N := 26) hx hb hts hiX10 hown hK hP 0 rfl rfl 22 (by decide) (hts (.fieldLink RX10 63 "PaddockFieldsModel" "cuts" "[I") (List.mem_cons_of_mem _ (List.mem_append_left _ (List.mem_of_getElem? (i := 1) rfl)))) (fun _ h9 => h9) rfl dX10_makes_150 ?_
                    refine lv_iconst (v := 4) hx hb dX10_makes_153 (by decide) ?_
                    refine lv_iload_n hx hb dX10_makes_154 rfl (lv_at hl 1 rfl) ?_
                    refine lv_imul hx hb dX10_makes_155 ?_
                    refine lv_iload hx hb dX10_makes_156 (lv_at hl 6 rfl) ?_
                    refine lv_iadd hx hb dX10_makes_158 ?_
                    refine lv_aload_n hx hb dX10_makes_159 rfl (lv_at hl 0 rfl) ?_
                    refine va_get (D := (dC, dI)) (ci := 10) (C := RX10) (T := TX10) (N := 26) hx hb hts hiX10 hown hK hP 0 rfl rfl 22 (by decide) (hts (.fieldLink RX10 63 "PaddockFieldsModel" "cuts" "[I") (List.mem_cons_of_mem _ (List.mem_append_left _ (List.mem_of_getElem? (i := 1) rfl)))) (fun _ h9 => h9) rfl dX10_makes_160 ?_
                    refine lv_iload hx hb dX10_makes_163 (lv_at hl 3 rfl) ?_
                    refine lv_iload hx hb dX10_makes_165 (lv_at hl 6 rfl) ?_
                    refine lv_iadd hx hb dX10_makes_167 ?_
                    obtain ⟨v13, h_v13, hf⟩ := hf_bind hf
                    refine wh_ldI (D := (dC, dI)) hx hb hK hP 1 0 rfl rfl h_v13 dX10_makes_168 ?_
                    obtain ⟨w14, h_w14, hf⟩ := hf_bind hf
                    refine wh_stI (D := (dC, dI)) (ws' := (wl_fM_makes cI cZ cJ cQ a_0 a_0cuts a_0s a_0before a_0slots a_0isKept a_0buffer a_0cells a_0owner a_0code a_0table a_0isOver a_0isRuled a_0all a_0some a_0chosen a_0last a_0corner a_0wide a_0aside known_0 length_0 thrown_0 many_0 round_0 s12.2 hash_0 w14 s_0)) hx hb hK hP hD hS 1 0 rfl rfl rfl h_w14 dX10_makes_169 (fun H locs hP hD hS => ?_)
                    refine lv_iinc (v := (l9_21 + (1 : Int32))) (lv' := [(9, .int (l9_21 + (1 : Int32))), (0, .ref a_0), (2, .int l2_12), (3, .int l3_13), (4, .int ((4 : Int32) * l3_13)), (7, .int j10), (8, .int ((1 : Int32) + s12.1))]) hx hb dX10_makes_170 hl (k := 6) rfl rfl (by decide) rfl (fun ls hl => ?_)
                    refine lv_goto (tgt := 143) hx hb dX10_makes_173 (by decide) ?_
                    exact ih _ _ hf _ _ _ (lv_sub hl [1, 2, 3, 4, 5, 6, 0] rfl) hP hD hS
              exact hL_20 _ _ _ h_r15 _ _ _ (lv_sub hl [2, 3, 4, 5, 6, 1, 0] rfl) hP hD hS
            clear hf
            have hf := h_j11
            clear h_j11
            refine lv_if_ne (tgt := 130) hx hb dX10_makes_122 (by decide) (fun cc => ?_) (fun cc => ?_)
            · replace hf := hf_pos cc hf
              refine lv_iload hx hb dX10_makes_130 (lv_at hl 6 rfl) ?_
              obtain rfl := Option.some.inj hf
              exact hJ_18 _ _ _ (lv_sub hl [1, 2, 3, 4, 0] rfl) hP hD hS
            · replace hf := hf_neg (not_not_intro cc) hf
              refine lv_iload hx hb dX10_makes_125 (lv_at hl 5 rfl) ?_
              refine lv_goto (tgt := 132) hx hb dX10_makes_127 (by decide) ?_
              obtain rfl := Option.some.inj hf
              exact hJ_18 _ _ _ (lv_sub hl [1, 2, 3, 4, 0] rfl) hP hD hS
          clear hf
          have hf := h_j10
          clear h_j10
          refine lv_icmp_le (tgt := 115) hx hb dX10_makes_108 (by decide) (fun cc => ?_) (fun cc => ?_)
          · replace hf := hf_pos cc hf
            refine lv_iconst (v := 1) hx hb dX10_makes_115 (by decide) ?_
            obtain rfl := Option.some.inj hf
            exact hJ_17 _ _ _ (lv_sub hl [3, 4, 5, 2, 1, 0] rfl) hP hD hS
          · replace hf := hf_neg cc hf
            refine lv_iconst (v := 0) hx hb dX10_makes_111 (by decide) ?_
            refine lv_goto (tgt := 116) hx hb dX10_makes_112 (by decide) ?_
            obtain rfl := Option.some.inj hf
            exact hJ_17 _ _ _ (lv_sub hl [3, 4, 5, 2, 1, 0] rfl) hP hD hS
  exact hL_11 _ _ _ _ _ h_r21 _ _ _ (lv_sub hl [2, 1, 0] rfl) hP hD hS
set_option maxHeartbeats 4000000 in
set_option maxRecDepth 100000 in
theorem c_fM_make (l : Launch) (dC : Nat → ClassId) (dI : Nat → Nat → Nat) (cI cZ cJ cQ : ClassId) (a_0 a_0before a_0s a_0cuts a_0slots a_0isKept a_0buffer a_0cells a_0owner a_0code a_0table a_0isOver a_0isRuled a_0all a_0some a_0chosen a_0last a_0corner a_0wide a_0aside : Nat) (length_0 : Int32) (many_0 : Int32) (round_0 : Int32) (hash_0 : Int64) (sz : Nat) {F : Nat} {x1 : Int32} {thrown_0 : Int32} {known_0 : Int32} {before_0 : Nat → Int32} {s_0 : Nat → Int32} {seed_0 : Int64} {cuts_0 : Nat → Int32} {out : Int32 × Int32 × (Nat → Int32) × Int32 × Int64 × (Nat → Int32) × (Nat → Int32)} (hf : fM_make F x1 thrown_0 known_0 before_0 s_0 seed_0 cuts_0 = some out) : Met l yX10_make wsX10_make ({ frames := 2, cells := 0, slots := 0, locals := 50 } : Room) (va_Pc [.ref a_0, .int x1] (wlP (dC, dI) (wlT cI cZ cJ cQ) (wl_fM_make cI cZ cJ cQ a_0 a_0before a_0s a_0cuts a_0slots a_0isKept a_0buffer a_0cells a_0owner a_0code a_0table a_0isOver a_0isRuled a_0all a_0some a_0chosen a_0last a_0corner a_0wide a_0aside known_0 length_0 thrown_0 many_0 round_0 seed_0 hash_0 before_0 s_0 cuts_0) sz)) (va_Qi (fun (v : Int32) (_ : Unit) => v = out.1) (wlQ (dC, dI) (va_A (wl_fM_make cI cZ cJ cQ a_0 a_0before a_0s a_0cuts a_0slots a_0isKept a_0buffer a_0cells a_0owner a_0code a_0table a_0isOver a_0isRuled a_0all a_0some a_0chosen a_0last a_0corner a_0wide a_0aside known_0 length_0 thrown_0 many_0 round_0 seed_0 hash_0 before_0 s_0 cuts_0) sz) (wl_fM_make cI cZ cJ cQ a_0 a_0before a_0s a_0cuts a_0slots a_0isKept a_0buffer a_0cells a_0owner a_0code a_0table a_0isOver a_0isRuled a_0all a_0some a_0chosen a_0last a_0corner a_0wide a_0aside out.2.2.2.1 length_0 out.2.1 many_0 round_0 out.2.2.2.2.1 hash_0 out.2.2.1 out.2.2.2.2.2.2 out.2.2.2.2.2.1)) (va_A (wl_fM_make cI cZ cJ cQ a_0 a_0before a_0s a_0cuts a_0slots a_0isKept a_0buffer a_0cells a_0owner a_0code a_0table a_0isOver a_0isRuled a_0all a_0some a_0chosen a_0last a_0corner a_0wide a_0aside known_0 length_0 thrown_0 many_0 round_0 seed_0 hash_0 before_0 s_0 cuts_0) sz)) 0 0 (va_A (wl_fM_make cI cZ cJ cQ a_0 a_0before a_0s a_0cuts a_0slots a_0isKept a_0buffer a_0cells a_0owner a_0code a_0table a_0isOver a_0isRuled a_0all a_0some a_0chosen a_0last a_0corner a_0wide a_0aside known_0 length_0 thrown_0 many_0 round_0 seed_0 hash_0 before_0 s_0 cuts_0) sz) := by
  refine wh_ofWi (lv := [(0, .ref a_0), (1, .int x1)]) RX10 (by decide) rfl rfl (Nat.le_of_ble_eq_true rfl) rfl ?_
  intro p e s m below meth c A QQ hx hb hml hown hts hP hK hN hD hA hret ls hl
  have hS : va_S A s.heap s.heap [] := va_S.rf
  have hiX10 : ∀ w ∈ wsX100, w ∈ wsX10_make := (fun _ h => List.mem_cons_of_mem _ (List.mem_append_right _ (h)))
  unfold fM_make at hf
  refine lv_aload_n hx hb dX10_make_0 rfl (lv_at hl 0 rfl) ?_
  refine lv_iconst (v := 0) hx hb dX10_make_1 (by decide) ?_
  refine wh_put (D := (dC, dI)) (ci := 10) (C := RX10) (T := TX10) (N := 26) (ty := .int) (v := .int (0 : Int32)) (ws' := (wl_fM_make cI cZ cJ cQ a_0 a_0before a_0s a_0cuts a_0slots a_0isKept a_0buffer a_0cells a_0owner a_0code a_0table a_0isOver a_0isRuled a_0all a_0some a_0chosen a_0last a_0corner a_0wide a_0aside known_0 length_0 (0 : Int32) many_0 round_0 seed_0 hash_0 before_0 s_0 cuts_0)) hx hb hts hiX10 tyX10 tyX10_ok nmX10 hown hK hP hD hS 0 rfl rfl 7 (by decide) (hts (.fieldLink RX10 69 "PaddockFieldsModel" "thrown" "I") (List.mem_cons_of_mem _ (List.mem_append_left _ (List.mem_append_left _ (List.mem_of_getElem? (i := 0) rfl))))) (fun _ h9 => h9) rfl rfl rfl rfl (Nat.le_of_ble_eq_true rfl) rfl dX10_make_2 (fun H locs hP hD hS => ?_)
  refine lv_iload_n hx hb dX10_make_5 rfl (lv_at hl 1 rfl) ?_
  refine lv_iconst (v := 0) hx hb dX10_make_6 (by decide) ?_
  refine lv_ldc hx hb hown (hts (.constant RX10 160 (999999)) (List.mem_cons_of_mem _ (List.mem_append_left _ (List.mem_append_left _ (List.mem_of_getElem? (i := 1) rfl))))) dX10_make_7 ?_
  obtain ⟨s1, h_s1, hf⟩ := hf_bind hf
  refine wh_calli (D := (dC, dI)) (ws' := (wl_fM_make cI cZ cJ cQ a_0 a_0before a_0s a_0cuts a_0slots a_0isKept a_0buffer a_0cells a_0owner a_0code a_0table a_0isOver a_0isRuled a_0all a_0some a_0chosen a_0last a_0corner a_0wide a_0aside known_0 length_0 (0 : Int32) many_0 round_0 seed_0 hash_0 before_0 s_0 cuts_0)) (va_runS (As := [.int x1, .int (0 : Int32), .int (999999 : Int32)]) (rest := []) ⟨hx, hb, hml, hown, hts⟩ (c_fM_in l dC dI cI cZ cJ cQ _ h_s1) (va_cwS 3 hts gX10_make_X10_in rfl rfl rfl (by decide +kernel) ⟨Nat.le_of_ble_eq_true rfl, Nat.le_of_ble_eq_true rfl⟩) (wh_preS hK hN hP hD [] rfl rfl) rfl rfl hl.1 rfl (lv_room (Nat.le_of_ble_eq_true rfl)) dX10_make_9 ⟨Nat.le_refl _, Nat.le_refl _⟩) hP hD hS hA [] [0, 1, 2, 3] [0, 1, 2, 3] rfl rfl rfl rfl (fun H locs hP hD hS => ?_)
  refine lv_if_ne (tgt := 21) hx hb dX10_make_12 (by decide) (fun cc => ?_) (fun cc => ?_)
  · replace hf := hf_pos cc hf
    refine lv_aload_n hx hb dX10_make_21 rfl (lv_at hl 0 rfl) ?_
    obtain ⟨s2, h_s2, hf⟩ := hf_bind hf
    refine wh_callv (D := (dC, dI)) (ws' := (wl_fM_make cI cZ cJ cQ a_0 a_0before a_0s a_0cuts a_0slots a_0isKept a_0buffer a_0cells a_0owner a_0code a_0table a_0isOver a_0isRuled a_0all a_0some a_0chosen a_0last a_0corner a_0wide a_0aside s2.2 length_0 (0 : Int32) many_0 round_0 seed_0 hash_0 s2.1 s_0 cuts_0)) (va_runV (As := []) (rest := []) ⟨hx, hb, hml, hown, hts⟩ (c_fM_save l dC dI cI cZ cJ cQ a_0 a_0before a_0s a_0slots a_0isKept a_0buffer a_0cells a_0owner a_0code a_0table a_0isOver a_0isRuled a_0all a_0some a_0chosen a_0last a_0corner a_0wide a_0cuts a_0aside length_0 (0 : Int32) many_0 round_0 seed_0 hash_0 _ h_s2) (cwV 0 hts gX10_make_X10_save rfl rfl rfl (by decide +kernel) ⟨Nat.le_of_ble_eq_true rfl, Nat.le_of_ble_eq_true rfl⟩) (wh_preV (C := RX10) (T := TX10) (N := 26) hK hN hP hD [0, 1, 2] rfl rfl 10 0 rfl rfl) rfl rfl hl.1 rfl (lv_room (Nat.le_of_ble_eq_true rfl)) dX10_make_22 ⟨Nat.le_refl _, Nat.le_refl _⟩) hP hD hS hA [0, 1, 2] [3] [1, 2, 3, 0] rfl rfl rfl rfl (fun H locs hP hD hS => ?_)
    refine lv_aload_n hx hb dX10_make_25 rfl (lv_at hl 0 rfl) ?_
    refine lv_iload_n hx hb dX10_make_26 rfl (lv_at hl 1 rfl) ?_
    obtain ⟨s3, h_s3, hf⟩ := hf_bind hf
    refine wh_calli (D := (dC, dI)) (ws' := (wl_fM_make cI cZ cJ cQ a_0 a_0before a_0s a_0cuts a_0slots a_0isKept a_0buffer a_0cells a_0owner a_0code a_0table a_0isOver a_0isRuled a_0all a_0some a_0chosen a_0last a_0corner a_0wide a_0aside s2.2 length_0 (0 : Int32) many_0 round_0 s3.2.1 hash_0 s2.1 s3.2.2.2 s3.2.2.1)) (va_runV (As := [.int x1]) (rest := []) ⟨hx, hb, hml, hown, hts⟩ (c_fM_makes l dC dI cI cZ cJ cQ a_0 a_0cuts a_0s a_0before a_0slots a_0isKept a_0buffer a_0cells a_0owner a_0code a_0table a_0isOver a_0isRuled a_0all a_0some a_0chosen a_0last a_0corner a_0wide a_0aside s2.2 length_0 (0 : Int32) many_0 round_0 hash_0 _ h_s3) (cwV 1 hts gX10_make_X10_makes rfl rfl rfl (by decide +kernel) ⟨Nat.le_of_ble_eq_true rfl, Nat.le_of_ble_eq_true rfl⟩) (wh_preV (C := RX10) (T := TX10) (N := 26) hK hN hP hD [0, 3, 2] rfl rfl 10 0 rfl rfl) rfl rfl hl.1 rfl (lv_room (Nat.le_of_ble_eq_true rfl)) dX10_make_27 ⟨Nat.le_refl _, Nat.le_refl _⟩) hP hD hS hA [0, 3, 2] [1] [1, 0, 3, 2] rfl rfl rfl rfl (fun H locs hP hD hS => ?_)
    obtain rfl := Option.some.inj hf
    exact hret _ _ _ _ hP hD hS dX10_make_30
  · replace hf := hf_neg (not_not_intro cc) hf
    refine lv_aload_n hx hb dX10_make_15 rfl (lv_at hl 0 rfl) ?_
    refine lv_iconst (v := 1) hx hb dX10_make_16 (by decide) ?_
    obtain ⟨s4, h_s4, hf⟩ := hf_bind hf
    refine wh_calli (D := (dC, dI)) (ws' := (wl_fM_make cI cZ cJ cQ a_0 a_0before a_0s a_0cuts a_0slots a_0isKept a_0buffer a_0cells a_0owner a_0code a_0table a_0isOver a_0isRuled a_0all a_0some a_0chosen a_0last a_0corner a_0wide a_0aside known_0 length_0 s4.2 many_0 round_0 seed_0 hash_0 before_0 s_0 cuts_0)) (va_runV (As := [.int (1 : Int32)]) (rest := []) ⟨hx, hb, hml, hown, hts⟩ (c_fM_throwing l dC dI cI cZ cJ cQ a_0 a_0s a_0before a_0slots a_0isKept a_0buffer a_0cells a_0owner a_0code a_0table a_0isOver a_0isRuled a_0all a_0some a_0chosen a_0last a_0corner a_0wide a_0cuts a_0aside known_0 length_0 many_0 round_0 seed_0 hash_0 _ h_s4) (cwV 1 hts gX10_make_X10_throwing rfl rfl rfl (by decide +kernel) ⟨Nat.le_of_ble_eq_true rfl, Nat.le_of_ble_eq_true rfl⟩) (wh_preV (C := RX10) (T := TX10) (N := 26) hK hN hP hD [0] rfl rfl 10 0 rfl rfl) rfl rfl hl.1 rfl (lv_room (Nat.le_of_ble_eq_true rfl)) dX10_make_17 ⟨Nat.le_refl _, Nat.le_refl _⟩) hP hD hS hA [0] [1, 2, 3] [3, 0, 1, 2] rfl rfl rfl rfl (fun H locs hP hD hS => ?_)
    obtain rfl := Option.some.inj hf
    exact hret _ _ _ _ hP hD hS dX10_make_20
set_option maxHeartbeats 4000000 in
set_option maxRecDepth 100000 in
theorem c_fM_isRectangle (l : Launch) (dC : Nat → ClassId) (dI : Nat → Nat → Nat) (cI cZ cJ cQ : ClassId) (sz : Nat) {x0 : Int32} {x1 : Int32} {x2 : Int32} {x3 : Int32} {out : Int32} (hf : fM_isRectangle x0 x1 x2 x3 = some out) : Met l yX10_isRectangle wsX10_isRectangle ({ frames := 2, cells := 0, slots := 0, locals := 43 } : Room) (va_Pc [.int x0, .int x1, .int x2, .int x3] (wlP (dC, dI) (wlT cI cZ cJ cQ) (wl_fM_isRectangle cI cZ cJ cQ) sz)) (va_Qi (fun (v : Int32) (_ : Unit) => v = out) (wlQ (dC, dI) (va_A (wl_fM_isRectangle cI cZ cJ cQ) sz) (wl_fM_isRectangle cI cZ cJ cQ)) (va_A (wl_fM_isRectangle cI cZ cJ cQ) sz)) 0 0 (va_A (wl_fM_isRectangle cI cZ cJ cQ) sz) := by
  refine wh_ofWz (lv := [(0, .int x0), (1, .int x1), (2, .int x2), (3, .int x3)]) RX10 (by decide) rfl rfl (Nat.le_of_ble_eq_true rfl) rfl ?_
  intro p e s m below meth c A QQ hx hb hml hown hts hP hK hN hD hA hret ls hl
  have hS : va_S A s.heap s.heap [] := va_S.rf
  unfold fM_isRectangle at hf
  refine lv_iload_n hx hb dX10_isRectangle_0 rfl (lv_at hl 0 rfl) ?_
  refine lv_iload_n hx hb dX10_isRectangle_1 rfl (lv_at hl 1 rfl) ?_
  obtain ⟨s1, h_s1, hf⟩ := hf_bind hf
  refine wh_calli (D := (dC, dI)) (ws' := (wl_fM_isRectangle cI cZ cJ cQ)) (va_runS (As := [.int x0, .int x1]) (rest := []) ⟨hx, hb, hml, hown, hts⟩ (c_fM_isCell l dC dI cI cZ cJ cQ _ h_s1) (va_cwS 2 hts gX10_isRectangle_X10_isCell rfl rfl rfl (by decide +kernel) ⟨Nat.le_of_ble_eq_true rfl, Nat.le_of_ble_eq_true rfl⟩) (wh_preS hK hN hP hD [] rfl rfl) rfl rfl hl.1 rfl (lv_room (Nat.le_of_ble_eq_true rfl)) dX10_isRectangle_2 ⟨Nat.le_refl _, Nat.le_refl _⟩) hP hD hS hA [] [] [] rfl rfl rfl rfl (fun H locs hP hD hS => ?_)
  refine lv_if_eq (tgt := 31) hx hb dX10_isRectangle_5 (by decide) (fun cc => ?_) (fun cc => ?_)
  · replace hf := hf_pos cc hf
    refine lv_iconst (v := 0) hx hb dX10_isRectangle_31 (by decide) ?_
    obtain rfl := Option.some.inj hf
    exact hret _ _ _ _ (by decide) hP hD hS dX10_isRectangle_32
  · replace hf := hf_neg cc hf
    refine lv_iload_n hx hb dX10_isRectangle_8 rfl (lv_at hl 2 rfl) ?_
    refine lv_iload_n hx hb dX10_isRectangle_9 rfl (lv_at hl 0 rfl) ?_
    refine lv_iconst (v := 5) hx hb dX10_isRectangle_10 (by decide) ?_
    obtain ⟨s2, h_s2, hf⟩ := hf_bind hf
    refine wh_calli (D := (dC, dI)) (ws' := (wl_fM_isRectangle cI cZ cJ cQ)) (va_runS (As := [.int x2, .int x0, .int (5 : Int32)]) (rest := []) ⟨hx, hb, hml, hown, hts⟩ (c_fM_in l dC dI cI cZ cJ cQ _ h_s2) (va_cwS 3 hts gX10_isRectangle_X10_in rfl rfl rfl (by decide +kernel) ⟨Nat.le_of_ble_eq_true rfl, Nat.le_of_ble_eq_true rfl⟩) (wh_preS hK hN hP hD [] rfl rfl) rfl rfl hl.1 rfl (lv_room (Nat.le_of_ble_eq_true rfl)) dX10_isRectangle_11 ⟨Nat.le_refl _, Nat.le_refl _⟩) hP hD hS hA [] [] [] rfl rfl rfl rfl (fun H locs hP hD hS => ?_)
    refine lv_if_eq (tgt := 31) hx hb dX10_isRectangle_14 (by decide) (fun cc => ?_) (fun cc => ?_)
    · replace hf := hf_pos cc hf
      refine lv_iconst (v := 0) hx hb dX10_isRectangle_31 (by decide) ?_
      obtain rfl := Option.some.inj hf
      exact hret _ _ _ _ (by decide) hP hD hS dX10_isRectangle_32
    · replace hf := hf_neg cc hf
      refine lv_iload_n hx hb dX10_isRectangle_17 rfl (lv_at hl 3 rfl) ?_
      refine lv_iload_n hx hb dX10_isRectangle_18 rfl (lv_at hl 1 rfl) ?_
      refine lv_bipush (v := 6) hx hb dX10_isRectangle_19 (by decide) ?_
      obtain ⟨s3, h_s3, hf⟩ := hf_bind hf
      refine wh_calli (D := (dC, dI)) (ws' := (wl_fM_isRectangle cI cZ cJ cQ)) (va_runS (As := [.int x3, .int x1, .int (6 : Int32)]) (rest := []) ⟨hx, hb, hml, hown, hts⟩ (c_fM_in l dC dI cI cZ cJ cQ _ h_s3) (va_cwS 3 hts gX10_isRectangle_X10_in rfl rfl rfl (by decide +kernel) ⟨Nat.le_of_ble_eq_true rfl, Nat.le_of_ble_eq_true rfl⟩) (wh_preS hK hN hP hD [] rfl rfl) rfl rfl hl.1 rfl (lv_room (Nat.le_of_ble_eq_true rfl)) dX10_isRectangle_21 ⟨Nat.le_refl _, Nat.le_refl _⟩) hP hD hS hA [] [] [] rfl rfl rfl rfl (fun H locs hP hD hS => ?_)
      refine lv_if_eq (tgt := 31) hx hb dX10_isRectangle_24 (by decide) (fun cc => ?_) (fun cc => ?_)
      · replace hf := hf_pos cc hf
        refine lv_iconst (v := 0) hx hb dX10_isRectangle_31 (by decide) ?_
        obtain rfl := Option.some.inj hf
        exact hret _ _ _ _ (by decide) hP hD hS dX10_isRectangle_32
      · replace hf := hf_neg cc hf
        refine lv_iconst (v := 1) hx hb dX10_isRectangle_27 (by decide) ?_
        refine lv_goto (tgt := 32) hx hb dX10_isRectangle_28 (by decide) ?_
        obtain rfl := Option.some.inj hf
        exact hret _ _ _ _ (by decide) hP hD hS dX10_isRectangle_32
set_option maxHeartbeats 4000000 in
set_option maxRecDepth 100000 in
theorem c_fM_draw (l : Launch) (dC : Nat → ClassId) (dI : Nat → Nat → Nat) (cI cZ cJ cQ : ClassId) (a_0 a_0s a_0before a_0slots a_0isKept a_0buffer a_0cells a_0owner a_0code a_0table a_0isOver a_0isRuled a_0all a_0some a_0chosen a_0last a_0corner a_0wide a_0cuts a_0aside : Nat) (length_0 : Int32) (many_0 : Int32) (round_0 : Int32) (seed_0 : Int64) (hash_0 : Int64) (sz : Nat) {F : Nat} {x1 : Int32} {x2 : Int32} {x3 : Int32} {x4 : Int32} {thrown_0 : Int32} {s_0 : Nat → Int32} {known_0 : Int32} {before_0 : Nat → Int32} {out : Int32 × Int32 × (Nat → Int32) × Int32 × (Nat → Int32)} (hf : fM_draw F x1 x2 x3 x4 thrown_0 s_0 known_0 before_0 = some out) : Met l yX10_draw wsX10_draw ({ frames := 3, cells := 0, slots := 0, locals := 69 } : Room) (va_Pc [.ref a_0, .int x1, .int x2, .int x3, .int x4] (wlP (dC, dI) (wlT cI cZ cJ cQ) (wl_fM_draw cI cZ cJ cQ a_0 a_0s a_0before a_0slots a_0isKept a_0buffer a_0cells a_0owner a_0code a_0table a_0isOver a_0isRuled a_0all a_0some a_0chosen a_0last a_0corner a_0wide a_0cuts a_0aside known_0 length_0 thrown_0 many_0 round_0 seed_0 hash_0 s_0 before_0) sz)) (va_Qi (fun (v : Int32) (_ : Unit) => v = out.1) (wlQ (dC, dI) (va_A (wl_fM_draw cI cZ cJ cQ a_0 a_0s a_0before a_0slots a_0isKept a_0buffer a_0cells a_0owner a_0code a_0table a_0isOver a_0isRuled a_0all a_0some a_0chosen a_0last a_0corner a_0wide a_0cuts a_0aside known_0 length_0 thrown_0 many_0 round_0 seed_0 hash_0 s_0 before_0) sz) (wl_fM_draw cI cZ cJ cQ a_0 a_0s a_0before a_0slots a_0isKept a_0buffer a_0cells a_0owner a_0code a_0table a_0isOver a_0isRuled a_0all a_0some a_0chosen a_0last a_0corner a_0wide a_0cuts a_0aside out.2.2.2.1 length_0 out.2.1 many_0 round_0 seed_0 hash_0 out.2.2.2.2 out.2.2.1)) (va_A (wl_fM_draw cI cZ cJ cQ a_0 a_0s a_0before a_0slots a_0isKept a_0buffer a_0cells a_0owner a_0code a_0table a_0isOver a_0isRuled a_0all a_0some a_0chosen a_0last a_0corner a_0wide a_0cuts a_0aside known_0 length_0 thrown_0 many_0 round_0 seed_0 hash_0 s_0 before_0) sz)) 0 0 (va_A (wl_fM_draw cI cZ cJ cQ a_0 a_0s a_0before a_0slots a_0isKept a_0buffer a_0cells a_0owner a_0code a_0table a_0isOver a_0isRuled a_0all a_0some a_0chosen a_0last a_0corner a_0wide a_0cuts a_0aside known_0 length_0 thrown_0 many_0 round_0 seed_0 hash_0 s_0 before_0) sz) := by
  refine wh_ofWi (lv := [(0, .ref a_0), (1, .int x1), (2, .int x2), (3, .int x3), (4, .int x4)]) RX10 (by decide) rfl rfl (Nat.le_of_ble_eq_true rfl) rfl ?_
  intro p e s m below meth c A QQ hx hb hml hown hts hP hK hN hD hA hret ls hl
  have hS : va_S A s.heap s.heap [] := va_S.rf
  have hiX10 : ∀ w ∈ wsX100, w ∈ wsX10_draw := (fun _ h => List.mem_cons_of_mem _ (List.mem_append_right _ (h)))
  unfold fM_draw at hf
  refine lv_aload_n hx hb dX10_draw_0 rfl (lv_at hl 0 rfl) ?_
  refine lv_iconst (v := 0) hx hb dX10_draw_1 (by decide) ?_
  refine wh_put (D := (dC, dI)) (ci := 10) (C := RX10) (T := TX10) (N := 26) (ty := .int) (v := .int (0 : Int32)) (ws' := (wl_fM_draw cI cZ cJ cQ a_0 a_0s a_0before a_0slots a_0isKept a_0buffer a_0cells a_0owner a_0code a_0table a_0isOver a_0isRuled a_0all a_0some a_0chosen a_0last a_0corner a_0wide a_0cuts a_0aside known_0 length_0 (0 : Int32) many_0 round_0 seed_0 hash_0 s_0 before_0)) hx hb hts hiX10 tyX10 tyX10_ok nmX10 hown hK hP hD hS 0 rfl rfl 7 (by decide) (hts (.fieldLink RX10 69 "PaddockFieldsModel" "thrown" "I") (List.mem_cons_of_mem _ (List.mem_append_left _ (List.mem_append_left _ (List.mem_of_getElem? (i := 0) rfl))))) (fun _ h9 => h9) rfl rfl rfl rfl (Nat.le_of_ble_eq_true rfl) rfl dX10_draw_2 (fun H locs hP hD hS => ?_)
  refine lv_iload_n hx hb dX10_draw_5 rfl (lv_at hl 1 rfl) ?_
  refine lv_iload_n hx hb dX10_draw_6 rfl (lv_at hl 2 rfl) ?_
  refine lv_iload_n hx hb dX10_draw_7 rfl (lv_at hl 3 rfl) ?_
  refine lv_iload hx hb dX10_draw_8 (lv_at hl 4 rfl) ?_
  obtain ⟨s1, h_s1, hf⟩ := hf_bind hf
  refine wh_calli (D := (dC, dI)) (ws' := (wl_fM_draw cI cZ cJ cQ a_0 a_0s a_0before a_0slots a_0isKept a_0buffer a_0cells a_0owner a_0code a_0table a_0isOver a_0isRuled a_0all a_0some a_0chosen a_0last a_0corner a_0wide a_0cuts a_0aside known_0 length_0 (0 : Int32) many_0 round_0 seed_0 hash_0 s_0 before_0)) (va_runS (As := [.int x1, .int x2, .int x3, .int x4]) (rest := []) ⟨hx, hb, hml, hown, hts⟩ (c_fM_isRectangle l dC dI cI cZ cJ cQ _ h_s1) (va_cwS 4 hts gX10_draw_X10_isRectangle rfl rfl rfl (by decide +kernel) ⟨Nat.le_of_ble_eq_true rfl, Nat.le_of_ble_eq_true rfl⟩) (wh_preS hK hN hP hD [] rfl rfl) rfl rfl hl.1 rfl (lv_room (Nat.le_of_ble_eq_true rfl)) dX10_draw_10 ⟨Nat.le_refl _, Nat.le_refl _⟩) hP hD hS hA [] [0, 1, 2] [0, 1, 2] rfl rfl rfl rfl (fun H locs hP hD hS => ?_)
  refine lv_if_ne (tgt := 22) hx hb dX10_draw_13 (by decide) (fun cc => ?_) (fun cc => ?_)
  · replace hf := hf_pos cc hf
    refine lv_aload_n hx hb dX10_draw_22 rfl (lv_at hl 0 rfl) ?_
    refine lv_iload_n hx hb dX10_draw_23 rfl (lv_at hl 1 rfl) ?_
    refine lv_iload_n hx hb dX10_draw_24 rfl (lv_at hl 2 rfl) ?_
    refine lv_iload_n hx hb dX10_draw_25 rfl (lv_at hl 3 rfl) ?_
    refine lv_iload hx hb dX10_draw_26 (lv_at hl 4 rfl) ?_
    obtain ⟨s2, h_s2, hf⟩ := hf_bind hf
    refine wh_calll (D := (dC, dI)) (ws' := (wl_fM_draw cI cZ cJ cQ a_0 a_0s a_0before a_0slots a_0isKept a_0buffer a_0cells a_0owner a_0code a_0table a_0isOver a_0isRuled a_0all a_0some a_0chosen a_0last a_0corner a_0wide a_0cuts a_0aside known_0 length_0 (0 : Int32) many_0 round_0 seed_0 hash_0 s_0 before_0)) (va_runS (As := [.int x1, .int x2, .int x3, .int x4]) (rest := [.ref a_0]) ⟨hx, hb, hml, hown, hts⟩ (c_fM_rectangle l dC dI cI cZ cJ cQ _ h_s2) (va_cwS 4 hts gX10_draw_X10_rectangle rfl rfl rfl (by decide +kernel) ⟨Nat.le_of_ble_eq_true rfl, Nat.le_of_ble_eq_true rfl⟩) (wh_preS hK hN hP hD [] rfl rfl) rfl rfl hl.1 rfl (lv_room (Nat.le_of_ble_eq_true rfl)) dX10_draw_28 ⟨Nat.le_refl _, Nat.le_refl _⟩) hP hD hS hA [] [0, 1, 2] [0, 1, 2] rfl rfl rfl rfl (fun H locs hP hD hS => ?_)
    obtain ⟨s3, h_s3, hf⟩ := hf_bind hf
    refine wh_calli (D := (dC, dI)) (ws' := (wl_fM_draw cI cZ cJ cQ a_0 a_0s a_0before a_0slots a_0isKept a_0buffer a_0cells a_0owner a_0code a_0table a_0isOver a_0isRuled a_0all a_0some a_0chosen a_0last a_0corner a_0wide a_0cuts a_0aside known_0 length_0 (0 : Int32) many_0 round_0 seed_0 hash_0 s_0 before_0)) (va_runV (As := [.long s2]) (rest := []) ⟨hx, hb, hml, hown, hts⟩ (c_fM_against l dC dI cI cZ cJ cQ a_0 a_0s a_0before a_0slots a_0isKept a_0buffer a_0cells a_0owner a_0code a_0table a_0isOver a_0isRuled a_0all a_0some a_0chosen a_0last a_0corner a_0wide a_0cuts a_0aside known_0 length_0 (0 : Int32) many_0 round_0 seed_0 hash_0 _ h_s3) (cwV 1 hts gX10_draw_X10_against rfl rfl rfl (by decide +kernel) ⟨Nat.le_of_ble_eq_true rfl, Nat.le_of_ble_eq_true rfl⟩) (wh_preV (C := RX10) (T := TX10) (N := 26) hK hN hP hD [0, 1] rfl rfl 10 0 rfl rfl) rfl rfl hl.1 rfl (lv_room (Nat.le_of_ble_eq_true rfl)) dX10_draw_31 ⟨Nat.le_refl _, Nat.le_refl _⟩) hP hD hS hA [0, 1] [2] [1, 2, 0] rfl rfl rfl rfl (fun H locs hP hD hS => ?_)
    refine lv_if_eq (tgt := 43) hx hb dX10_draw_34 (by decide) (fun cc => ?_) (fun cc => ?_)
    · replace hf := hf_pos cc hf
      refine lv_aload_n hx hb dX10_draw_43 rfl (lv_at hl 0 rfl) ?_
      obtain ⟨s4, h_s4, hf⟩ := hf_bind hf
      refine wh_callv (D := (dC, dI)) (ws' := (wl_fM_draw cI cZ cJ cQ a_0 a_0s a_0before a_0slots a_0isKept a_0buffer a_0cells a_0owner a_0code a_0table a_0isOver a_0isRuled a_0all a_0some a_0chosen a_0last a_0corner a_0wide a_0cuts a_0aside s4.2 length_0 (0 : Int32) many_0 round_0 seed_0 hash_0 s_0 s4.1)) (va_runV (As := []) (rest := []) ⟨hx, hb, hml, hown, hts⟩ (c_fM_save l dC dI cI cZ cJ cQ a_0 a_0before a_0s a_0slots a_0isKept a_0buffer a_0cells a_0owner a_0code a_0table a_0isOver a_0isRuled a_0all a_0some a_0chosen a_0last a_0corner a_0wide a_0cuts a_0aside length_0 (0 : Int32) many_0 round_0 seed_0 hash_0 _ h_s4) (cwV 0 hts gX10_draw_X10_save rfl rfl rfl (by decide +kernel) ⟨Nat.le_of_ble_eq_true rfl, Nat.le_of_ble_eq_true rfl⟩) (wh_preV (C := RX10) (T := TX10) (N := 26) hK hN hP hD [0, 2, 1] rfl rfl 10 0 rfl rfl) rfl rfl hl.1 rfl (lv_room (Nat.le_of_ble_eq_true rfl)) dX10_draw_44 ⟨Nat.le_refl _, Nat.le_refl _⟩) hP hD hS hA [0, 2, 1] [] [0, 2, 1] rfl rfl rfl rfl (fun H locs hP hD hS => ?_)
      refine lv_aload_n hx hb dX10_draw_47 rfl (lv_at hl 0 rfl) ?_
      refine lv_iload_n hx hb dX10_draw_48 rfl (lv_at hl 1 rfl) ?_
      refine lv_iload_n hx hb dX10_draw_49 rfl (lv_at hl 2 rfl) ?_
      refine lv_iload_n hx hb dX10_draw_50 rfl (lv_at hl 3 rfl) ?_
      refine lv_iload hx hb dX10_draw_51 (lv_at hl 4 rfl) ?_
      obtain ⟨s5, h_s5, hf⟩ := hf_bind hf
      refine wh_calll (D := (dC, dI)) (ws' := (wl_fM_draw cI cZ cJ cQ a_0 a_0s a_0before a_0slots a_0isKept a_0buffer a_0cells a_0owner a_0code a_0table a_0isOver a_0isRuled a_0all a_0some a_0chosen a_0last a_0corner a_0wide a_0cuts a_0aside s4.2 length_0 (0 : Int32) many_0 round_0 seed_0 hash_0 s_0 s4.1)) (va_runS (As := [.int x1, .int x2, .int x3, .int x4]) (rest := [.ref a_0]) ⟨hx, hb, hml, hown, hts⟩ (c_fM_rectangle l dC dI cI cZ cJ cQ _ h_s5) (va_cwS 4 hts gX10_draw_X10_rectangle rfl rfl rfl (by decide +kernel) ⟨Nat.le_of_ble_eq_true rfl, Nat.le_of_ble_eq_true rfl⟩) (wh_preS hK hN hP hD [] rfl rfl) rfl rfl hl.1 rfl (lv_room (Nat.le_of_ble_eq_true rfl)) dX10_draw_53 ⟨Nat.le_refl _, Nat.le_refl _⟩) hP hD hS hA [] [0, 1, 2] [0, 1, 2] rfl rfl rfl rfl (fun H locs hP hD hS => ?_)
      obtain ⟨s6, h_s6, hf⟩ := hf_bind hf
      refine wh_callv (D := (dC, dI)) (ws' := (wl_fM_draw cI cZ cJ cQ a_0 a_0s a_0before a_0slots a_0isKept a_0buffer a_0cells a_0owner a_0code a_0table a_0isOver a_0isRuled a_0all a_0some a_0chosen a_0last a_0corner a_0wide a_0cuts a_0aside s4.2 length_0 (0 : Int32) many_0 round_0 seed_0 hash_0 s6 s4.1)) (va_runV (As := [.long s5]) (rest := []) ⟨hx, hb, hml, hown, hts⟩ (c_fM_draws l dC dI cI cZ cJ cQ a_0 a_0s a_0before a_0slots a_0isKept a_0buffer a_0cells a_0owner a_0code a_0table a_0isOver a_0isRuled a_0all a_0some a_0chosen a_0last a_0corner a_0wide a_0cuts a_0aside s4.2 length_0 (0 : Int32) many_0 round_0 seed_0 hash_0 _ h_s6) (cwV 1 hts gX10_draw_X10_draws rfl rfl rfl (by decide +kernel) ⟨Nat.le_of_ble_eq_true rfl, Nat.le_of_ble_eq_true rfl⟩) (wh_preV (C := RX10) (T := TX10) (N := 26) hK hN hP hD [0, 1] rfl rfl 10 0 rfl rfl) rfl rfl hl.1 rfl (lv_room (Nat.le_of_ble_eq_true rfl)) dX10_draw_56 ⟨Nat.le_refl _, Nat.le_refl _⟩) hP hD hS hA [0, 1] [2] [1, 2, 0] rfl rfl rfl rfl (fun H locs hP hD hS => ?_)
      refine lv_aload_n hx hb dX10_draw_59 rfl (lv_at hl 0 rfl) ?_
      obtain ⟨s7, h_s7, hf⟩ := hf_bind hf
      refine wh_calll (D := (dC, dI)) (ws' := (wl_fM_draw cI cZ cJ cQ a_0 a_0s a_0before a_0slots a_0isKept a_0buffer a_0cells a_0owner a_0code a_0table a_0isOver a_0isRuled a_0all a_0some a_0chosen a_0last a_0corner a_0wide a_0cuts a_0aside s4.2 length_0 (0 : Int32) many_0 round_0 seed_0 hash_0 s6 s4.1)) (va_runV (As := []) (rest := []) ⟨hx, hb, hml, hown, hts⟩ (c_fM_taken l dC dI cI cZ cJ cQ a_0 a_0s a_0before a_0slots a_0isKept a_0buffer a_0cells a_0owner a_0code a_0table a_0isOver a_0isRuled a_0all a_0some a_0chosen a_0last a_0corner a_0wide a_0cuts a_0aside s4.2 length_0 (0 : Int32) many_0 round_0 seed_0 hash_0 _ h_s7) (cwV 0 hts gX10_draw_X10_taken rfl rfl rfl (by decide +kernel) ⟨Nat.le_of_ble_eq_true rfl, Nat.le_of_ble_eq_true rfl⟩) (wh_preV (C := RX10) (T := TX10) (N := 26) hK hN hP hD [0, 1] rfl rfl 10 0 rfl rfl) rfl rfl hl.1 rfl (lv_room (Nat.le_of_ble_eq_true rfl)) dX10_draw_60 ⟨Nat.le_refl _, Nat.le_refl _⟩) hP hD hS hA [0, 1] [2] [1, 2, 0] rfl rfl rfl rfl (fun H locs hP hD hS => ?_)
      obtain ⟨s8, h_s8, hf⟩ := hf_bind hf
      refine wh_calli (D := (dC, dI)) (ws' := (wl_fM_draw cI cZ cJ cQ a_0 a_0s a_0before a_0slots a_0isKept a_0buffer a_0cells a_0owner a_0code a_0table a_0isOver a_0isRuled a_0all a_0some a_0chosen a_0last a_0corner a_0wide a_0cuts a_0aside s4.2 length_0 (0 : Int32) many_0 round_0 seed_0 hash_0 s6 s4.1)) (va_runS (As := [.long s7]) (rest := []) ⟨hx, hb, hml, hown, hts⟩ (c_fM_bits l dC dI cI cZ cJ cQ _ h_s8) (va_cwS 1 hts gX10_draw_X10_bits rfl rfl rfl (by decide +kernel) ⟨Nat.le_of_ble_eq_true rfl, Nat.le_of_ble_eq_true rfl⟩) (wh_preS hK hN hP hD [] rfl rfl) rfl rfl hl.1 rfl (lv_room (Nat.le_of_ble_eq_true rfl)) dX10_draw_63 ⟨Nat.le_refl _, Nat.le_refl _⟩) hP hD hS hA [] [0, 1, 2] [0, 1, 2] rfl rfl rfl rfl (fun H locs hP hD hS => ?_)
      obtain rfl := Option.some.inj hf
      exact hret _ _ _ _ hP hD hS dX10_draw_66
    · replace hf := hf_neg cc hf
      refine lv_aload_n hx hb dX10_draw_37 rfl (lv_at hl 0 rfl) ?_
      refine lv_iconst (v := 2) hx hb dX10_draw_38 (by decide) ?_
      obtain ⟨s9, h_s9, hf⟩ := hf_bind hf
      refine wh_calli (D := (dC, dI)) (ws' := (wl_fM_draw cI cZ cJ cQ a_0 a_0s a_0before a_0slots a_0isKept a_0buffer a_0cells a_0owner a_0code a_0table a_0isOver a_0isRuled a_0all a_0some a_0chosen a_0last a_0corner a_0wide a_0cuts a_0aside known_0 length_0 s9.2 many_0 round_0 seed_0 hash_0 s_0 before_0)) (va_runV (As := [.int (2 : Int32)]) (rest := []) ⟨hx, hb, hml, hown, hts⟩ (c_fM_throwing l dC dI cI cZ cJ cQ a_0 a_0s a_0before a_0slots a_0isKept a_0buffer a_0cells a_0owner a_0code a_0table a_0isOver a_0isRuled a_0all a_0some a_0chosen a_0last a_0corner a_0wide a_0cuts a_0aside known_0 length_0 many_0 round_0 seed_0 hash_0 _ h_s9) (cwV 1 hts gX10_draw_X10_throwing rfl rfl rfl (by decide +kernel) ⟨Nat.le_of_ble_eq_true rfl, Nat.le_of_ble_eq_true rfl⟩) (wh_preV (C := RX10) (T := TX10) (N := 26) hK hN hP hD [0] rfl rfl 10 0 rfl rfl) rfl rfl hl.1 rfl (lv_room (Nat.le_of_ble_eq_true rfl)) dX10_draw_39 ⟨Nat.le_refl _, Nat.le_refl _⟩) hP hD hS hA [0] [1, 2] [2, 0, 1] rfl rfl rfl rfl (fun H locs hP hD hS => ?_)
      obtain rfl := Option.some.inj hf
      exact hret _ _ _ _ hP hD hS dX10_draw_42
  · replace hf := hf_neg (not_not_intro cc) hf
    refine lv_aload_n hx hb dX10_draw_16 rfl (lv_at hl 0 rfl) ?_
    refine lv_iconst (v := 1) hx hb dX10_draw_17 (by decide) ?_
    obtain ⟨s10, h_s10, hf⟩ := hf_bind hf
    refine wh_calli (D := (dC, dI)) (ws' := (wl_fM_draw cI cZ cJ cQ a_0 a_0s a_0before a_0slots a_0isKept a_0buffer a_0cells a_0owner a_0code a_0table a_0isOver a_0isRuled a_0all a_0some a_0chosen a_0last a_0corner a_0wide a_0cuts a_0aside known_0 length_0 s10.2 many_0 round_0 seed_0 hash_0 s_0 before_0)) (va_runV (As := [.int (1 : Int32)]) (rest := []) ⟨hx, hb, hml, hown, hts⟩ (c_fM_throwing l dC dI cI cZ cJ cQ a_0 a_0s a_0before a_0slots a_0isKept a_0buffer a_0cells a_0owner a_0code a_0table a_0isOver a_0isRuled a_0all a_0some a_0chosen a_0last a_0corner a_0wide a_0cuts a_0aside known_0 length_0 many_0 round_0 seed_0 hash_0 _ h_s10) (cwV 1 hts gX10_draw_X10_throwing rfl rfl rfl (by decide +kernel) ⟨Nat.le_of_ble_eq_true rfl, Nat.le_of_ble_eq_true rfl⟩) (wh_preV (C := RX10) (T := TX10) (N := 26) hK hN hP hD [0] rfl rfl 10 0 rfl rfl) rfl rfl hl.1 rfl (lv_room (Nat.le_of_ble_eq_true rfl)) dX10_draw_18 ⟨Nat.le_refl _, Nat.le_refl _⟩) hP hD hS hA [0] [1, 2] [2, 0, 1] rfl rfl rfl rfl (fun H locs hP hD hS => ?_)
    obtain rfl := Option.some.inj hf
    exact hret _ _ _ _ hP hD hS dX10_draw_21
set_option maxHeartbeats 4000000 in
set_option maxRecDepth 100000 in
theorem c_fM_isThere (l : Launch) (dC : Nat → ClassId) (dI : Nat → Nat → Nat) (cI cZ cJ cQ : ClassId) (a_0 a_0s a_0before a_0slots a_0isKept a_0buffer a_0cells a_0owner a_0code a_0table a_0isOver a_0isRuled a_0all a_0some a_0chosen a_0last a_0corner a_0wide a_0cuts a_0aside : Nat) (known_0 : Int32) (length_0 : Int32) (many_0 : Int32) (round_0 : Int32) (seed_0 : Int64) (hash_0 : Int64) (sz : Nat) {x1 : Int32} {x2 : Int32} {x3 : Int32} {s_0 : Nat → Int32} {thrown_0 : Int32} {out : Int32 × Int32} (hf : fM_isThere x1 x2 x3 s_0 thrown_0 = some out) : Met l yX10_isThere wsX10_isThere ({ frames := 2, cells := 0, slots := 0, locals := 43 } : Room) (va_Pc [.ref a_0, .int x1, .int x2, .int x3] (wlP (dC, dI) (wlT cI cZ cJ cQ) (wl_fM_isThere cI cZ cJ cQ a_0 a_0s a_0before a_0slots a_0isKept a_0buffer a_0cells a_0owner a_0code a_0table a_0isOver a_0isRuled a_0all a_0some a_0chosen a_0last a_0corner a_0wide a_0cuts a_0aside known_0 length_0 thrown_0 many_0 round_0 seed_0 hash_0 s_0) sz)) (va_Qi (fun (v : Int32) (_ : Unit) => v = out.1) (wlQ (dC, dI) (va_A (wl_fM_isThere cI cZ cJ cQ a_0 a_0s a_0before a_0slots a_0isKept a_0buffer a_0cells a_0owner a_0code a_0table a_0isOver a_0isRuled a_0all a_0some a_0chosen a_0last a_0corner a_0wide a_0cuts a_0aside known_0 length_0 thrown_0 many_0 round_0 seed_0 hash_0 s_0) sz) (wl_fM_isThere cI cZ cJ cQ a_0 a_0s a_0before a_0slots a_0isKept a_0buffer a_0cells a_0owner a_0code a_0table a_0isOver a_0isRuled a_0all a_0some a_0chosen a_0last a_0corner a_0wide a_0cuts a_0aside known_0 length_0 out.2 many_0 round_0 seed_0 hash_0 s_0)) (va_A (wl_fM_isThere cI cZ cJ cQ a_0 a_0s a_0before a_0slots a_0isKept a_0buffer a_0cells a_0owner a_0code a_0table a_0isOver a_0isRuled a_0all a_0some a_0chosen a_0last a_0corner a_0wide a_0cuts a_0aside known_0 length_0 thrown_0 many_0 round_0 seed_0 hash_0 s_0) sz)) 0 0 (va_A (wl_fM_isThere cI cZ cJ cQ a_0 a_0s a_0before a_0slots a_0isKept a_0buffer a_0cells a_0owner a_0code a_0table a_0isOver a_0isRuled a_0all a_0some a_0chosen a_0last a_0corner a_0wide a_0cuts a_0aside known_0 length_0 thrown_0 many_0 round_0 seed_0 hash_0 s_0) sz) := by
  refine wh_ofWz (lv := [(0, .ref a_0), (1, .int x1), (2, .int x2), (3, .int x3)]) RX10 (by decide) rfl rfl (Nat.le_of_ble_eq_true rfl) rfl ?_
  intro p e s m below meth c A QQ hx hb hml hown hts hP hK hN hD hA hret ls hl
  have hS : va_S A s.heap s.heap [] := va_S.rf
  have hiX10 : ∀ w ∈ wsX100, w ∈ wsX10_isThere := (fun _ h => List.mem_cons_of_mem _ (List.mem_append_right _ (h)))
  unfold fM_isThere at hf
  refine lv_aload_n hx hb dX10_isThere_0 rfl (lv_at hl 0 rfl) ?_
  refine lv_iload_n hx hb dX10_isThere_1 rfl (lv_at hl 1 rfl) ?_
  refine lv_iload_n hx hb dX10_isThere_2 rfl (lv_at hl 2 rfl) ?_
  obtain ⟨s1, h_s1, hf⟩ := hf_bind hf
  refine wh_calli (D := (dC, dI)) (ws' := (wl_fM_isThere cI cZ cJ cQ a_0 a_0s a_0before a_0slots a_0isKept a_0buffer a_0cells a_0owner a_0code a_0table a_0isOver a_0isRuled a_0all a_0some a_0chosen a_0last a_0corner a_0wide a_0cuts a_0aside known_0 length_0 thrown_0 many_0 round_0 seed_0 hash_0 s_0)) (va_runS (As := [.int x1, .int x2]) (rest := [.ref a_0]) ⟨hx, hb, hml, hown, hts⟩ (c_fM_isCell l dC dI cI cZ cJ cQ _ h_s1) (va_cwS 2 hts gX10_isThere_X10_isCell rfl rfl rfl (by decide +kernel) ⟨Nat.le_of_ble_eq_true rfl, Nat.le_of_ble_eq_true rfl⟩) (wh_preS hK hN hP hD [] rfl rfl) rfl rfl hl.1 rfl (lv_room (Nat.le_of_ble_eq_true rfl)) dX10_isThere_3 ⟨Nat.le_refl _, Nat.le_refl _⟩) hP hD hS hA [] [0, 1] [0, 1] rfl rfl rfl rfl (fun H locs hP hD hS => ?_)
  obtain ⟨j3, h_j3, hf⟩ := hf_bind hf
  have hJ_1 : ∀ (H : Heap) (locs : List Loc) (ls : Array Slot), lv_has ls 4 [(0, .ref a_0)] → va_P (dC, dI) vwCl (wl_fM_isThere cI cZ cJ cQ a_0 a_0s a_0before a_0slots a_0isKept a_0buffer a_0cells a_0owner a_0code a_0table a_0isOver a_0isRuled a_0all a_0some a_0chosen a_0last a_0corner a_0wide a_0cuts a_0aside known_0 length_0 thrown_0 many_0 round_0 seed_0 hash_0 s_0) H → va_D A (wl_fM_isThere cI cZ cJ cQ a_0 a_0s a_0before a_0slots a_0isKept a_0buffer a_0cells a_0owner a_0code a_0table a_0isOver a_0isRuled a_0all a_0some a_0chosen a_0last a_0corner a_0wide a_0cuts a_0aside known_0 length_0 thrown_0 many_0 round_0 seed_0 hash_0 s_0) → va_S A s.heap H locs → W p l e ({ frames := 2, cells := 0, slots := 0, locals := 43 } : Room) s m [.ref a_0, .int x1, .int x2, .int x3].toArray below meth c H locs 0 0 QQ (F0 m 39 ls [.int j3, .ref a_0]) := by
    intro H locs ls hl hP hD hS
    refine wh_put (D := (dC, dI)) (ci := 10) (C := RX10) (T := TX10) (N := 26) (ty := .int) (v := .int j3) (ws' := (wl_fM_isThere cI cZ cJ cQ a_0 a_0s a_0before a_0slots a_0isKept a_0buffer a_0cells a_0owner a_0code a_0table a_0isOver a_0isRuled a_0all a_0some a_0chosen a_0last a_0corner a_0wide a_0cuts a_0aside known_0 length_0 j3 many_0 round_0 seed_0 hash_0 s_0)) hx hb hts hiX10 tyX10 tyX10_ok nmX10 hown hK hP hD hS 0 rfl rfl 7 (by decide) (hts (.fieldLink RX10 69 "PaddockFieldsModel" "thrown" "I") (List.mem_cons_of_mem _ (List.mem_append_left _ (List.mem_of_getElem? (i := 1) rfl)))) (fun _ h9 => h9) rfl rfl rfl rfl (Nat.le_of_ble_eq_true rfl) rfl dX10_isThere_39 (fun H locs hP hD hS => ?_)
    refine lv_aload_n hx hb dX10_isThere_42 rfl (lv_at hl 0 rfl) ?_
    refine va_get (D := (dC, dI)) (ci := 10) (C := RX10) (T := TX10) (N := 26) hx hb hts hiX10 hown hK hP 0 rfl rfl 7 (by decide) (hts (.fieldLink RX10 69 "PaddockFieldsModel" "thrown" "I") (List.mem_cons_of_mem _ (List.mem_append_left _ (List.mem_of_getElem? (i := 1) rfl)))) (fun _ h9 => h9) rfl dX10_isThere_43 ?_
    refine lv_if_ne (tgt := 53) hx hb dX10_isThere_46 (by decide) (fun cc => ?_) (fun cc => ?_)
    · replace hf := hf_pos cc hf
      refine lv_iconst (v := 0) hx hb dX10_isThere_53 (by decide) ?_
      obtain rfl := Option.some.inj hf
      exact hret _ _ _ _ (show narrow .boolean (.int (0 : Int32)) = .int (0 : Int32) by decide) hP hD hS dX10_isThere_54
    · replace hf := hf_neg (not_not_intro cc) hf
      refine lv_iconst (v := 1) hx hb dX10_isThere_49 (by decide) ?_
      refine lv_goto (tgt := 54) hx hb dX10_isThere_50 (by decide) ?_
      obtain rfl := Option.some.inj hf
      exact hret _ _ _ _ (show narrow .boolean (.int (1 : Int32)) = .int (1 : Int32) by decide) hP hD hS dX10_isThere_54
  clear hf
  have hf := h_j3
  clear h_j3
  refine lv_if_ne (tgt := 13) hx hb dX10_isThere_6 (by decide) (fun cc => ?_) (fun cc => ?_)
  · replace hf := hf_pos cc hf
    refine lv_iload_n hx hb dX10_isThere_13 rfl (lv_at hl 3 rfl) ?_
    refine lv_if_eq (tgt := 38) hx hb dX10_isThere_14 (by decide) (fun cc => ?_) (fun cc => ?_)
    · replace hf := hf_pos cc hf
      refine lv_iconst (v := 0) hx hb dX10_isThere_38 (by decide) ?_
      obtain rfl := Option.some.inj hf
      exact hJ_1 _ _ _ (lv_sub hl [0] rfl) hP hD hS
    · replace hf := hf_neg cc hf
      refine lv_aload_n hx hb dX10_isThere_17 rfl (lv_at hl 0 rfl) ?_
      refine va_get (D := (dC, dI)) (ci := 10) (C := RX10) (T := TX10) (N := 26) hx hb hts hiX10 hown hK hP 0 rfl rfl 0 (by decide) (hts (.fieldLink RX10 7 "PaddockFieldsModel" "s" "[I") (List.mem_cons_of_mem _ (List.mem_append_left _ (List.mem_of_getElem? (i := 0) rfl)))) (fun _ h9 => h9) rfl dX10_isThere_18 ?_
      refine lv_bipush (v := 42) hx hb dX10_isThere_21 (by decide) ?_
      refine lv_bipush (v := 7) hx hb dX10_isThere_23 (by decide) ?_
      refine lv_iload_n hx hb dX10_isThere_25 rfl (lv_at hl 1 rfl) ?_
      refine lv_imul hx hb dX10_isThere_26 ?_
      refine lv_iadd hx hb dX10_isThere_27 ?_
      refine lv_iload_n hx hb dX10_isThere_28 rfl (lv_at hl 2 rfl) ?_
      refine lv_iadd hx hb dX10_isThere_29 ?_
      obtain ⟨v2, h_v2, hf⟩ := hf_bind hf
      refine wh_ldI (D := (dC, dI)) hx hb hK hP 1 0 rfl rfl h_v2 dX10_isThere_30 ?_
      refine lv_if_ne (tgt := 38) hx hb dX10_isThere_31 (by decide) (fun cc => ?_) (fun cc => ?_)
      · replace hf := hf_pos cc hf
        refine lv_iconst (v := 0) hx hb dX10_isThere_38 (by decide) ?_
        obtain rfl := Option.some.inj hf
        exact hJ_1 _ _ _ (lv_sub hl [0] rfl) hP hD hS
      · replace hf := hf_neg (not_not_intro cc) hf
        refine lv_iconst (v := 2) hx hb dX10_isThere_34 (by decide) ?_
        refine lv_goto (tgt := 39) hx hb dX10_isThere_35 (by decide) ?_
        obtain rfl := Option.some.inj hf
        exact hJ_1 _ _ _ (lv_sub hl [0] rfl) hP hD hS
  · replace hf := hf_neg (not_not_intro cc) hf
    refine lv_iconst (v := 1) hx hb dX10_isThere_9 (by decide) ?_
    refine lv_goto (tgt := 39) hx hb dX10_isThere_10 (by decide) ?_
    obtain rfl := Option.some.inj hf
    exact hJ_1 _ _ _ (lv_sub hl [0] rfl) hP hD hS
set_option maxHeartbeats 4000000 in
set_option maxRecDepth 100000 in
theorem c_fM_erase (l : Launch) (dC : Nat → ClassId) (dI : Nat → Nat → Nat) (cI cZ cJ cQ : ClassId) (a_0 a_0s a_0before a_0slots a_0isKept a_0buffer a_0cells a_0owner a_0code a_0table a_0isOver a_0isRuled a_0all a_0some a_0chosen a_0last a_0corner a_0wide a_0cuts a_0aside : Nat) (length_0 : Int32) (many_0 : Int32) (round_0 : Int32) (seed_0 : Int64) (hash_0 : Int64) (sz : Nat) {F : Nat} {x1 : Int32} {x2 : Int32} {s_0 : Nat → Int32} {thrown_0 : Int32} {known_0 : Int32} {before_0 : Nat → Int32} {out : Int32 × Int32 × (Nat → Int32) × Int32 × (Nat → Int32)} (hf : fM_erase F x1 x2 s_0 thrown_0 known_0 before_0 = some out) : Met l yX10_erase wsX10_erase ({ frames := 3, cells := 0, slots := 0, locals := 66 } : Room) (va_Pc [.ref a_0, .int x1, .int x2] (wlP (dC, dI) (wlT cI cZ cJ cQ) (wl_fM_erase cI cZ cJ cQ a_0 a_0s a_0before a_0slots a_0isKept a_0buffer a_0cells a_0owner a_0code a_0table a_0isOver a_0isRuled a_0all a_0some a_0chosen a_0last a_0corner a_0wide a_0cuts a_0aside known_0 length_0 thrown_0 many_0 round_0 seed_0 hash_0 s_0 before_0) sz)) (va_Qi (fun (v : Int32) (_ : Unit) => v = out.1) (wlQ (dC, dI) (va_A (wl_fM_erase cI cZ cJ cQ a_0 a_0s a_0before a_0slots a_0isKept a_0buffer a_0cells a_0owner a_0code a_0table a_0isOver a_0isRuled a_0all a_0some a_0chosen a_0last a_0corner a_0wide a_0cuts a_0aside known_0 length_0 thrown_0 many_0 round_0 seed_0 hash_0 s_0 before_0) sz) (wl_fM_erase cI cZ cJ cQ a_0 a_0s a_0before a_0slots a_0isKept a_0buffer a_0cells a_0owner a_0code a_0table a_0isOver a_0isRuled a_0all a_0some a_0chosen a_0last a_0corner a_0wide a_0cuts a_0aside out.2.2.2.1 length_0 out.2.1 many_0 round_0 seed_0 hash_0 out.2.2.2.2 out.2.2.1)) (va_A (wl_fM_erase cI cZ cJ cQ a_0 a_0s a_0before a_0slots a_0isKept a_0buffer a_0cells a_0owner a_0code a_0table a_0isOver a_0isRuled a_0all a_0some a_0chosen a_0last a_0corner a_0wide a_0cuts a_0aside known_0 length_0 thrown_0 many_0 round_0 seed_0 hash_0 s_0 before_0) sz)) 0 0 (va_A (wl_fM_erase cI cZ cJ cQ a_0 a_0s a_0before a_0slots a_0isKept a_0buffer a_0cells a_0owner a_0code a_0table a_0isOver a_0isRuled a_0all a_0some a_0chosen a_0last a_0corner a_0wide a_0cuts a_0aside known_0 length_0 thrown_0 many_0 round_0 seed_0 hash_0 s_0 before_0) sz) := by
  refine wh_ofWi (lv := [(0, .ref a_0), (1, .int x1), (2, .int x2)]) RX10 (by decide) rfl rfl (Nat.le_of_ble_eq_true rfl) rfl ?_
  intro p e s m below meth c A QQ hx hb hml hown hts hP hK hN hD hA hret ls hl
  have hS : va_S A s.heap s.heap [] := va_S.rf
  have hiX10 : ∀ w ∈ wsX100, w ∈ wsX10_erase := (fun _ h => List.mem_cons_of_mem _ (List.mem_append_right _ (h)))
  unfold fM_erase at hf
  refine lv_aload_n hx hb dX10_erase_0 rfl (lv_at hl 0 rfl) ?_
  refine lv_iload_n hx hb dX10_erase_1 rfl (lv_at hl 1 rfl) ?_
  refine lv_iload_n hx hb dX10_erase_2 rfl (lv_at hl 2 rfl) ?_
  refine lv_iconst (v := 1) hx hb dX10_erase_3 (by decide) ?_
  obtain ⟨s1, h_s1, hf⟩ := hf_bind hf
  refine wh_calli (D := (dC, dI)) (ws' := (wl_fM_erase cI cZ cJ cQ a_0 a_0s a_0before a_0slots a_0isKept a_0buffer a_0cells a_0owner a_0code a_0table a_0isOver a_0isRuled a_0all a_0some a_0chosen a_0last a_0corner a_0wide a_0cuts a_0aside known_0 length_0 s1.2 many_0 round_0 seed_0 hash_0 s_0 before_0)) (va_runV (As := [.int x1, .int x2, .int (1 : Int32)]) (rest := []) ⟨hx, hb, hml, hown, hts⟩ (c_fM_isThere l dC dI cI cZ cJ cQ a_0 a_0s a_0before a_0slots a_0isKept a_0buffer a_0cells a_0owner a_0code a_0table a_0isOver a_0isRuled a_0all a_0some a_0chosen a_0last a_0corner a_0wide a_0cuts a_0aside known_0 length_0 many_0 round_0 seed_0 hash_0 _ h_s1) (cwV 3 hts gX10_erase_X10_isThere rfl rfl rfl (by decide +kernel) ⟨Nat.le_of_ble_eq_true rfl, Nat.le_of_ble_eq_true rfl⟩) (wh_preV (C := RX10) (T := TX10) (N := 26) hK hN hP hD [0, 1] rfl rfl 10 0 rfl rfl) rfl rfl hl.1 rfl (lv_room (Nat.le_of_ble_eq_true rfl)) dX10_erase_4 ⟨Nat.le_refl _, Nat.le_refl _⟩) hP hD hS hA [0, 1] [2] [1, 2, 0] rfl rfl rfl rfl (fun H locs hP hD hS => ?_)
  refine lv_if_ne (tgt := 12) hx hb dX10_erase_7 (by decide) (fun cc => ?_) (fun cc => ?_)
  · replace hf := hf_pos cc hf
    refine lv_aload_n hx hb dX10_erase_12 rfl (lv_at hl 0 rfl) ?_
    obtain ⟨s2, h_s2, hf⟩ := hf_bind hf
    refine wh_callv (D := (dC, dI)) (ws' := (wl_fM_erase cI cZ cJ cQ a_0 a_0s a_0before a_0slots a_0isKept a_0buffer a_0cells a_0owner a_0code a_0table a_0isOver a_0isRuled a_0all a_0some a_0chosen a_0last a_0corner a_0wide a_0cuts a_0aside s2.2 length_0 s1.2 many_0 round_0 seed_0 hash_0 s_0 s2.1)) (va_runV (As := []) (rest := []) ⟨hx, hb, hml, hown, hts⟩ (c_fM_save l dC dI cI cZ cJ cQ a_0 a_0before a_0s a_0slots a_0isKept a_0buffer a_0cells a_0owner a_0code a_0table a_0isOver a_0isRuled a_0all a_0some a_0chosen a_0last a_0corner a_0wide a_0cuts a_0aside length_0 s1.2 many_0 round_0 seed_0 hash_0 _ h_s2) (cwV 0 hts gX10_erase_X10_save rfl rfl rfl (by decide +kernel) ⟨Nat.le_of_ble_eq_true rfl, Nat.le_of_ble_eq_true rfl⟩) (wh_preV (C := RX10) (T := TX10) (N := 26) hK hN hP hD [0, 2, 1] rfl rfl 10 0 rfl rfl) rfl rfl hl.1 rfl (lv_room (Nat.le_of_ble_eq_true rfl)) dX10_erase_13 ⟨Nat.le_refl _, Nat.le_refl _⟩) hP hD hS hA [0, 2, 1] [] [0, 2, 1] rfl rfl rfl rfl (fun H locs hP hD hS => ?_)
    refine lv_aload_n hx hb dX10_erase_16 rfl (lv_at hl 0 rfl) ?_
    refine lv_bipush (v := 7) hx hb dX10_erase_17 (by decide) ?_
    refine lv_iload_n hx hb dX10_erase_19 rfl (lv_at hl 1 rfl) ?_
    refine lv_imul hx hb dX10_erase_20 ?_
    refine lv_iload_n hx hb dX10_erase_21 rfl (lv_at hl 2 rfl) ?_
    refine lv_iadd hx hb dX10_erase_22 ?_
    obtain ⟨s3, h_s3, hf⟩ := hf_bind hf
    refine wh_calll (D := (dC, dI)) (ws' := (wl_fM_erase cI cZ cJ cQ a_0 a_0s a_0before a_0slots a_0isKept a_0buffer a_0cells a_0owner a_0code a_0table a_0isOver a_0isRuled a_0all a_0some a_0chosen a_0last a_0corner a_0wide a_0cuts a_0aside s2.2 length_0 s1.2 many_0 round_0 seed_0 hash_0 s_0 s2.1)) (va_runV (As := [.int (((7 : Int32) * x1) + x2)]) (rest := []) ⟨hx, hb, hml, hown, hts⟩ (c_fM_fieldOf l dC dI cI cZ cJ cQ a_0 a_0s a_0before a_0slots a_0isKept a_0buffer a_0cells a_0owner a_0code a_0table a_0isOver a_0isRuled a_0all a_0some a_0chosen a_0last a_0corner a_0wide a_0cuts a_0aside s2.2 length_0 s1.2 many_0 round_0 seed_0 hash_0 _ h_s3) (cwV 1 hts gX10_erase_X10_fieldOf rfl rfl rfl (by decide +kernel) ⟨Nat.le_of_ble_eq_true rfl, Nat.le_of_ble_eq_true rfl⟩) (wh_preV (C := RX10) (T := TX10) (N := 26) hK hN hP hD [0, 1] rfl rfl 10 0 rfl rfl) rfl rfl hl.1 rfl (lv_room (Nat.le_of_ble_eq_true rfl)) dX10_erase_23 ⟨Nat.le_refl _, Nat.le_refl _⟩) hP hD hS hA [0, 1] [2] [1, 2, 0] rfl rfl rfl rfl (fun H locs hP hD hS => ?_)
    refine lv_lstore_n (lv' := [(3, .long s3), (0, .ref a_0), (1, .int x1), (2, .int x2)]) hx hb dX10_erase_26 rfl hl (by decide) rfl (fun ls hl => ?_)
    refine lv_iconst (v := 0) hx hb dX10_erase_27 (by decide) ?_
    refine lv_istore (lv' := [(5, .int (0 : Int32)), (3, .long s3), (0, .ref a_0), (1, .int x1), (2, .int x2)]) hx hb dX10_erase_28 hl (by decide) rfl (fun ls hl => ?_)
    obtain ⟨r8, h_r8, hf⟩ := hf_bind hf
    have hE_1 : ∀ (H : Heap) (locs : List Loc) (ls : Array Slot), lv_has ls 6 [(3, .long s3)] → va_P (dC, dI) vwCl (wl_fM_erase cI cZ cJ cQ a_0 a_0s a_0before a_0slots a_0isKept a_0buffer a_0cells a_0owner a_0code a_0table a_0isOver a_0isRuled a_0all a_0some a_0chosen a_0last a_0corner a_0wide a_0cuts a_0aside s2.2 length_0 s1.2 many_0 round_0 seed_0 hash_0 r8.2 s2.1) H → va_D A (wl_fM_erase cI cZ cJ cQ a_0 a_0s a_0before a_0slots a_0isKept a_0buffer a_0cells a_0owner a_0code a_0table a_0isOver a_0isRuled a_0all a_0some a_0chosen a_0last a_0corner a_0wide a_0cuts a_0aside s2.2 length_0 s1.2 many_0 round_0 seed_0 hash_0 r8.2 s2.1) → va_S A s.heap H locs → W p l e ({ frames := 3, cells := 0, slots := 0, locals := 66 } : Room) s m [.ref a_0, .int x1, .int x2].toArray below meth c H locs 0 0 QQ (F0 m 76 ls []) := by
      intro H locs ls hl hP hD hS
      refine lv_lload_n hx hb dX10_erase_76 rfl (lv_at hl 0 rfl) ?_
      obtain ⟨s9, h_s9, hf⟩ := hf_bind hf
      refine wh_calli (D := (dC, dI)) (ws' := (wl_fM_erase cI cZ cJ cQ a_0 a_0s a_0before a_0slots a_0isKept a_0buffer a_0cells a_0owner a_0code a_0table a_0isOver a_0isRuled a_0all a_0some a_0chosen a_0last a_0corner a_0wide a_0cuts a_0aside s2.2 length_0 s1.2 many_0 round_0 seed_0 hash_0 r8.2 s2.1)) (va_runS (As := [.long s3]) (rest := []) ⟨hx, hb, hml, hown, hts⟩ (c_fM_bits l dC dI cI cZ cJ cQ _ h_s9) (va_cwS 1 hts gX10_erase_X10_bits rfl rfl rfl (by decide +kernel) ⟨Nat.le_of_ble_eq_true rfl, Nat.le_of_ble_eq_true rfl⟩) (wh_preS hK hN hP hD [] rfl rfl) rfl rfl hl.1 rfl (lv_room (Nat.le_of_ble_eq_true rfl)) dX10_erase_77 ⟨Nat.le_refl _, Nat.le_refl _⟩) hP hD hS hA [] [0, 1, 2] [0, 1, 2] rfl rfl rfl rfl (fun H locs hP hD hS => ?_)
      obtain rfl := Option.some.inj hf
      exact hret _ _ _ _ hP hD hS dX10_erase_80
    have hL_2 : ∀ (N : Nat) (l5_3 : Int32) (s_0_4 : Nat → Int32), fM_erase_L30 F s3 N l5_3 s_0_4 = some r8 → ∀ (H : Heap) (locs : List Loc) (ls : Array Slot), lv_has ls 6 [(0, .ref a_0), (3, .long s3), (5, .int l5_3)] → va_P (dC, dI) vwCl (wl_fM_erase cI cZ cJ cQ a_0 a_0s a_0before a_0slots a_0isKept a_0buffer a_0cells a_0owner a_0code a_0table a_0isOver a_0isRuled a_0all a_0some a_0chosen a_0last a_0corner a_0wide a_0cuts a_0aside s2.2 length_0 s1.2 many_0 round_0 seed_0 hash_0 s_0_4 s2.1) H → va_D A (wl_fM_erase cI cZ cJ cQ a_0 a_0s a_0before a_0slots a_0isKept a_0buffer a_0cells a_0owner a_0code a_0table a_0isOver a_0isRuled a_0all a_0some a_0chosen a_0last a_0corner a_0wide a_0cuts a_0aside s2.2 length_0 s1.2 many_0 round_0 seed_0 hash_0 s_0_4 s2.1) → va_S A s.heap H locs → W p l e ({ frames := 3, cells := 0, slots := 0, locals := 66 } : Room) s m [.ref a_0, .int x1, .int x2].toArray below meth c H locs 0 0 QQ (F0 m 30 ls []) := by
      intro N
      induction N with
      | zero => intro l5_3 s_0_4 hf; exact nomatch (show none = some _ from hf)
      | succ N ih =>
        intro l5_3 s_0_4 hf H locs ls hl hP hD hS
        rw [fM_erase_L30] at hf
        refine lv_iload hx hb dX10_erase_30 (lv_at hl 2 rfl) ?_
        refine lv_bipush (v := 42) hx hb dX10_erase_32 (by decide) ?_
        refine lv_icmp_ge (tgt := 76) hx hb dX10_erase_34 (by decide) (fun cc => ?_) (fun cc => ?_)
        · replace hf := hf_pos cc hf
          obtain rfl := Option.some.inj hf
          exact hE_1 _ _ _ (lv_sub hl [1] rfl) hP hD hS
        · replace hf := hf_neg cc hf
          refine lv_aload_n hx hb dX10_erase_37 rfl (lv_at hl 0 rfl) ?_
          refine va_get (D := (dC, dI)) (ci := 10) (C := RX10) (T := TX10) (N := 26) hx hb hts hiX10 hown hK hP 0 rfl rfl 0 (by decide) (hts (.fieldLink RX10 7 "PaddockFieldsModel" "s" "[I") (List.mem_cons_of_mem _ (List.mem_append_left _ (List.mem_append_left _ (List.mem_of_getElem? (i := 0) rfl))))) (fun _ h9 => h9) rfl dX10_erase_38 ?_
          refine lv_bipush (v := 42) hx hb dX10_erase_41 (by decide) ?_
          refine lv_iload hx hb dX10_erase_43 (lv_at hl 2 rfl) ?_
          refine lv_iadd hx hb dX10_erase_45 ?_
          refine lv_lload_n hx hb dX10_erase_46 rfl (lv_at hl 1 rfl) ?_
          refine lv_iload hx hb dX10_erase_47 (lv_at hl 2 rfl) ?_
          obtain ⟨s4, h_s4, hf⟩ := hf_bind hf
          refine wh_calli (D := (dC, dI)) (ws' := (wl_fM_erase cI cZ cJ cQ a_0 a_0s a_0before a_0slots a_0isKept a_0buffer a_0cells a_0owner a_0code a_0table a_0isOver a_0isRuled a_0all a_0some a_0chosen a_0last a_0corner a_0wide a_0cuts a_0aside s2.2 length_0 s1.2 many_0 round_0 seed_0 hash_0 s_0_4 s2.1)) (va_runS (As := [.long s3, .int l5_3]) (rest := [.int ((42 : Int32) + l5_3), .ref a_0s]) ⟨hx, hb, hml, hown, hts⟩ (c_fM_has l dC dI cI cZ cJ cQ _ h_s4) (va_cwS 2 hts gX10_erase_X10_has rfl rfl rfl (by decide +kernel) ⟨Nat.le_of_ble_eq_true rfl, Nat.le_of_ble_eq_true rfl⟩) (wh_preS hK hN hP hD [] rfl rfl) rfl rfl hl.1 rfl (lv_room (Nat.le_of_ble_eq_true rfl)) dX10_erase_49 ⟨Nat.le_refl _, Nat.le_refl _⟩) hP hD hS hA [] [0, 1, 2] [0, 1, 2] rfl rfl rfl rfl (fun H locs hP hD hS => ?_)
          obtain ⟨j6, h_j6, hf⟩ := hf_bind hf
          have hJ_5 : ∀ (H : Heap) (locs : List Loc) (ls : Array Slot), lv_has ls 6 [(0, .ref a_0), (3, .long s3), (5, .int l5_3)] → va_P (dC, dI) vwCl (wl_fM_erase cI cZ cJ cQ a_0 a_0s a_0before a_0slots a_0isKept a_0buffer a_0cells a_0owner a_0code a_0table a_0isOver a_0isRuled a_0all a_0some a_0chosen a_0last a_0corner a_0wide a_0cuts a_0aside s2.2 length_0 s1.2 many_0 round_0 seed_0 hash_0 s_0_4 s2.1) H → va_D A (wl_fM_erase cI cZ cJ cQ a_0 a_0s a_0before a_0slots a_0isKept a_0buffer a_0cells a_0owner a_0code a_0table a_0isOver a_0isRuled a_0all a_0some a_0chosen a_0last a_0corner a_0wide a_0cuts a_0aside s2.2 length_0 s1.2 many_0 round_0 seed_0 hash_0 s_0_4 s2.1) → va_S A s.heap H locs → W p l e ({ frames := 3, cells := 0, slots := 0, locals := 66 } : Room) s m [.ref a_0, .int x1, .int x2].toArray below meth c H locs 0 0 QQ (F0 m 69 ls [.int j6, .int ((42 : Int32) + l5_3), .ref a_0s]) := by
            intro H locs ls hl hP hD hS
            obtain ⟨w7, h_w7, hf⟩ := hf_bind hf
            refine wh_stI (D := (dC, dI)) (ws' := (wl_fM_erase cI cZ cJ cQ a_0 a_0s a_0before a_0slots a_0isKept a_0buffer a_0cells a_0owner a_0code a_0table a_0isOver a_0isRuled a_0all a_0some a_0chosen a_0last a_0corner a_0wide a_0cuts a_0aside s2.2 length_0 s1.2 many_0 round_0 seed_0 hash_0 w7 s2.1)) hx hb hK hP hD hS 1 0 rfl rfl rfl h_w7 dX10_erase_69 (fun H locs hP hD hS => ?_)
            refine lv_iinc (v := (l5_3 + (1 : Int32))) (lv' := [(5, .int (l5_3 + (1 : Int32))), (0, .ref a_0), (3, .long s3)]) hx hb dX10_erase_70 hl (k := 2) rfl rfl (by decide) rfl (fun ls hl => ?_)
            refine lv_goto (tgt := 30) hx hb dX10_erase_73 (by decide) ?_
            exact ih _ _ hf _ _ _ (lv_sub hl [1, 2, 0] rfl) hP hD hS
          clear hf
          have hf := h_j6
          clear h_j6
          refine lv_if_eq (tgt := 59) hx hb dX10_erase_52 (by decide) (fun cc => ?_) (fun cc => ?_)
          · replace hf := hf_pos cc hf
            refine lv_aload_n hx hb dX10_erase_59 rfl (lv_at hl 0 rfl) ?_
            refine va_get (D := (dC, dI)) (ci := 10) (C := RX10) (T := TX10) (N := 26) hx hb hts hiX10 hown hK hP 0 rfl rfl 0 (by decide) (hts (.fieldLink RX10 7 "PaddockFieldsModel" "s" "[I") (List.mem_cons_of_mem _ (List.mem_append_left _ (List.mem_append_left _ (List.mem_of_getElem? (i := 0) rfl))))) (fun _ h9 => h9) rfl dX10_erase_60 ?_
            refine lv_bipush (v := 42) hx hb dX10_erase_63 (by decide) ?_
            refine lv_iload hx hb dX10_erase_65 (lv_at hl 2 rfl) ?_
            refine lv_iadd hx hb dX10_erase_67 ?_
            obtain ⟨v5, h_v5, hf⟩ := hf_bind hf
            refine wh_ldI (D := (dC, dI)) hx hb hK hP 1 0 rfl rfl h_v5 dX10_erase_68 ?_
            obtain rfl := Option.some.inj hf
            exact hJ_5 _ _ _ (lv_sub hl [0, 1, 2] rfl) hP hD hS
          · replace hf := hf_neg cc hf
            refine lv_iconst (v := 0) hx hb dX10_erase_55 (by decide) ?_
            refine lv_goto (tgt := 69) hx hb dX10_erase_56 (by decide) ?_
            obtain rfl := Option.some.inj hf
            exact hJ_5 _ _ _ (lv_sub hl [0, 1, 2] rfl) hP hD hS
    exact hL_2 _ _ _ h_r8 _ _ _ (lv_sub hl [2, 1, 0] rfl) hP hD hS
  · replace hf := hf_neg (not_not_intro cc) hf
    refine lv_iconst (v := 0) hx hb dX10_erase_10 (by decide) ?_
    obtain rfl := Option.some.inj hf
    exact hret _ _ _ _ hP hD hS dX10_erase_11
set_option maxHeartbeats 4000000 in
set_option maxRecDepth 100000 in
theorem c_fM_eraseAll (l : Launch) (dC : Nat → ClassId) (dI : Nat → Nat → Nat) (cI cZ cJ cQ : ClassId) (a_0 a_0before a_0s a_0slots a_0isKept a_0buffer a_0cells a_0owner a_0code a_0table a_0isOver a_0isRuled a_0all a_0some a_0chosen a_0last a_0corner a_0wide a_0cuts a_0aside : Nat) (length_0 : Int32) (many_0 : Int32) (round_0 : Int32) (seed_0 : Int64) (hash_0 : Int64) (sz : Nat) {F : Nat} {thrown_0 : Int32} {known_0 : Int32} {before_0 : Nat → Int32} {s_0 : Nat → Int32} {out : Int32 × Int32 × (Nat → Int32) × Int32 × (Nat → Int32)} (hf : fM_eraseAll F thrown_0 known_0 before_0 s_0 = some out) : Met l yX10_eraseAll wsX10_eraseAll ({ frames := 1, cells := 0, slots := 0, locals := 22 } : Room) (va_Pc [.ref a_0] (wlP (dC, dI) (wlT cI cZ cJ cQ) (wl_fM_eraseAll cI cZ cJ cQ a_0 a_0before a_0s a_0slots a_0isKept a_0buffer a_0cells a_0owner a_0code a_0table a_0isOver a_0isRuled a_0all a_0some a_0chosen a_0last a_0corner a_0wide a_0cuts a_0aside known_0 length_0 thrown_0 many_0 round_0 seed_0 hash_0 before_0 s_0) sz)) (va_Qi (fun (v : Int32) (_ : Unit) => v = out.1) (wlQ (dC, dI) (va_A (wl_fM_eraseAll cI cZ cJ cQ a_0 a_0before a_0s a_0slots a_0isKept a_0buffer a_0cells a_0owner a_0code a_0table a_0isOver a_0isRuled a_0all a_0some a_0chosen a_0last a_0corner a_0wide a_0cuts a_0aside known_0 length_0 thrown_0 many_0 round_0 seed_0 hash_0 before_0 s_0) sz) (wl_fM_eraseAll cI cZ cJ cQ a_0 a_0before a_0s a_0slots a_0isKept a_0buffer a_0cells a_0owner a_0code a_0table a_0isOver a_0isRuled a_0all a_0some a_0chosen a_0last a_0corner a_0wide a_0cuts a_0aside out.2.2.2.1 length_0 out.2.1 many_0 round_0 seed_0 hash_0 out.2.2.1 out.2.2.2.2)) (va_A (wl_fM_eraseAll cI cZ cJ cQ a_0 a_0before a_0s a_0slots a_0isKept a_0buffer a_0cells a_0owner a_0code a_0table a_0isOver a_0isRuled a_0all a_0some a_0chosen a_0last a_0corner a_0wide a_0cuts a_0aside known_0 length_0 thrown_0 many_0 round_0 seed_0 hash_0 before_0 s_0) sz)) 0 0 (va_A (wl_fM_eraseAll cI cZ cJ cQ a_0 a_0before a_0s a_0slots a_0isKept a_0buffer a_0cells a_0owner a_0code a_0table a_0isOver a_0isRuled a_0all a_0some a_0chosen a_0last a_0corner a_0wide a_0cuts a_0aside known_0 length_0 thrown_0 many_0 round_0 seed_0 hash_0 before_0 s_0) sz) := by
  refine wh_ofWi (lv := [(0, .ref a_0)]) RX10 (by decide) rfl rfl (Nat.le_of_ble_eq_true rfl) rfl ?_
  intro p e s m below meth c A QQ hx hb hml hown hts hP hK hN hD hA hret ls hl
  have hS : va_S A s.heap s.heap [] := va_S.rf
  have hiX10 : ∀ w ∈ wsX100, w ∈ wsX10_eraseAll := (fun _ h => List.mem_cons_of_mem _ (List.mem_append_right _ (h)))
  unfold fM_eraseAll at hf
  refine lv_aload_n hx hb dX10_eraseAll_0 rfl (lv_at hl 0 rfl) ?_
  refine lv_iconst (v := 0) hx hb dX10_eraseAll_1 (by decide) ?_
  refine wh_put (D := (dC, dI)) (ci := 10) (C := RX10) (T := TX10) (N := 26) (ty := .int) (v := .int (0 : Int32)) (ws' := (wl_fM_eraseAll cI cZ cJ cQ a_0 a_0before a_0s a_0slots a_0isKept a_0buffer a_0cells a_0owner a_0code a_0table a_0isOver a_0isRuled a_0all a_0some a_0chosen a_0last a_0corner a_0wide a_0cuts a_0aside known_0 length_0 (0 : Int32) many_0 round_0 seed_0 hash_0 before_0 s_0)) hx hb hts hiX10 tyX10 tyX10_ok nmX10 hown hK hP hD hS 0 rfl rfl 7 (by decide) (hts (.fieldLink RX10 69 "PaddockFieldsModel" "thrown" "I") (List.mem_cons_of_mem _ (List.mem_append_left _ (List.mem_of_getElem? (i := 0) rfl)))) (fun _ h9 => h9) rfl rfl rfl rfl (Nat.le_of_ble_eq_true rfl) rfl dX10_eraseAll_2 (fun H locs hP hD hS => ?_)
  refine lv_aload_n hx hb dX10_eraseAll_5 rfl (lv_at hl 0 rfl) ?_
  obtain ⟨s1, h_s1, hf⟩ := hf_bind hf
  refine wh_callv (D := (dC, dI)) (ws' := (wl_fM_eraseAll cI cZ cJ cQ a_0 a_0before a_0s a_0slots a_0isKept a_0buffer a_0cells a_0owner a_0code a_0table a_0isOver a_0isRuled a_0all a_0some a_0chosen a_0last a_0corner a_0wide a_0cuts a_0aside s1.2 length_0 (0 : Int32) many_0 round_0 seed_0 hash_0 s1.1 s_0)) (va_runV (As := []) (rest := []) ⟨hx, hb, hml, hown, hts⟩ (c_fM_save l dC dI cI cZ cJ cQ a_0 a_0before a_0s a_0slots a_0isKept a_0buffer a_0cells a_0owner a_0code a_0table a_0isOver a_0isRuled a_0all a_0some a_0chosen a_0last a_0corner a_0wide a_0cuts a_0aside length_0 (0 : Int32) many_0 round_0 seed_0 hash_0 _ h_s1) (cwV 0 hts gX10_eraseAll_X10_save rfl rfl rfl (by decide +kernel) ⟨Nat.le_of_ble_eq_true rfl, Nat.le_of_ble_eq_true rfl⟩) (wh_preV (C := RX10) (T := TX10) (N := 26) hK hN hP hD [0, 1, 2] rfl rfl 10 0 rfl rfl) rfl rfl hl.1 rfl (lv_room (Nat.le_of_ble_eq_true rfl)) dX10_eraseAll_6 ⟨Nat.le_refl _, Nat.le_refl _⟩) hP hD hS hA [0, 1, 2] [] [0, 1, 2] rfl rfl rfl rfl (fun H locs hP hD hS => ?_)
  refine lv_aload_n hx hb dX10_eraseAll_9 rfl (lv_at hl 0 rfl) ?_
  obtain ⟨s2, h_s2, hf⟩ := hf_bind hf
  refine wh_calli (D := (dC, dI)) (ws' := (wl_fM_eraseAll cI cZ cJ cQ a_0 a_0before a_0s a_0slots a_0isKept a_0buffer a_0cells a_0owner a_0code a_0table a_0isOver a_0isRuled a_0all a_0some a_0chosen a_0last a_0corner a_0wide a_0cuts a_0aside s1.2 length_0 (0 : Int32) many_0 round_0 seed_0 hash_0 s1.1 s_0)) (va_runV (As := []) (rest := []) ⟨hx, hb, hml, hown, hts⟩ (c_fM_allFields l dC dI cI cZ cJ cQ a_0 a_0s a_0before a_0slots a_0isKept a_0buffer a_0cells a_0owner a_0code a_0table a_0isOver a_0isRuled a_0all a_0some a_0chosen a_0last a_0corner a_0wide a_0cuts a_0aside s1.2 length_0 (0 : Int32) many_0 round_0 seed_0 hash_0 _ h_s2) (cwV 0 hts gX10_eraseAll_X10_allFields rfl rfl rfl (by decide +kernel) ⟨Nat.le_of_ble_eq_true rfl, Nat.le_of_ble_eq_true rfl⟩) (wh_preV (C := RX10) (T := TX10) (N := 26) hK hN hP hD [0, 2] rfl rfl 10 0 rfl rfl) rfl rfl hl.1 rfl (lv_room (Nat.le_of_ble_eq_true rfl)) dX10_eraseAll_10 ⟨Nat.le_refl _, Nat.le_refl _⟩) hP hD hS hA [0, 2] [1] [1, 0, 2] rfl rfl rfl rfl (fun H locs hP hD hS => ?_)
  refine lv_istore_n (lv' := [(1, .int s2), (0, .ref a_0)]) hx hb dX10_eraseAll_13 rfl hl (by decide) rfl (fun ls hl => ?_)
  refine lv_iconst (v := 0) hx hb dX10_eraseAll_14 (by decide) ?_
  refine lv_istore_n (lv' := [(2, .int (0 : Int32)), (1, .int s2), (0, .ref a_0)]) hx hb dX10_eraseAll_15 rfl hl (by decide) rfl (fun ls hl => ?_)
  obtain ⟨r4, h_r4, hf⟩ := hf_bind hf
  have hE_1 : ∀ (H : Heap) (locs : List Loc) (ls : Array Slot), lv_has ls 3 [(1, .int s2)] → va_P (dC, dI) vwCl (wl_fM_eraseAll cI cZ cJ cQ a_0 a_0before a_0s a_0slots a_0isKept a_0buffer a_0cells a_0owner a_0code a_0table a_0isOver a_0isRuled a_0all a_0some a_0chosen a_0last a_0corner a_0wide a_0cuts a_0aside s1.2 length_0 (0 : Int32) many_0 round_0 seed_0 hash_0 s1.1 r4.2) H → va_D A (wl_fM_eraseAll cI cZ cJ cQ a_0 a_0before a_0s a_0slots a_0isKept a_0buffer a_0cells a_0owner a_0code a_0table a_0isOver a_0isRuled a_0all a_0some a_0chosen a_0last a_0corner a_0wide a_0cuts a_0aside s1.2 length_0 (0 : Int32) many_0 round_0 seed_0 hash_0 s1.1 r4.2) → va_S A s.heap H locs → W p l e ({ frames := 1, cells := 0, slots := 0, locals := 22 } : Room) s m [.ref a_0].toArray below meth c H locs 0 0 QQ (F0 m 38 ls []) := by
    intro H locs ls hl hP hD hS
    refine lv_iload_n hx hb dX10_eraseAll_38 rfl (lv_at hl 0 rfl) ?_
    obtain rfl := Option.some.inj hf
    exact hret _ _ _ _ hP hD hS dX10_eraseAll_39
  have hL_2 : ∀ (N : Nat) (l2_3 : Int32) (s_0_4 : Nat → Int32), fM_eraseAll_L16 F N l2_3 s_0_4 = some r4 → ∀ (H : Heap) (locs : List Loc) (ls : Array Slot), lv_has ls 3 [(0, .ref a_0), (1, .int s2), (2, .int l2_3)] → va_P (dC, dI) vwCl (wl_fM_eraseAll cI cZ cJ cQ a_0 a_0before a_0s a_0slots a_0isKept a_0buffer a_0cells a_0owner a_0code a_0table a_0isOver a_0isRuled a_0all a_0some a_0chosen a_0last a_0corner a_0wide a_0cuts a_0aside s1.2 length_0 (0 : Int32) many_0 round_0 seed_0 hash_0 s1.1 s_0_4) H → va_D A (wl_fM_eraseAll cI cZ cJ cQ a_0 a_0before a_0s a_0slots a_0isKept a_0buffer a_0cells a_0owner a_0code a_0table a_0isOver a_0isRuled a_0all a_0some a_0chosen a_0last a_0corner a_0wide a_0cuts a_0aside s1.2 length_0 (0 : Int32) many_0 round_0 seed_0 hash_0 s1.1 s_0_4) → va_S A s.heap H locs → W p l e ({ frames := 1, cells := 0, slots := 0, locals := 22 } : Room) s m [.ref a_0].toArray below meth c H locs 0 0 QQ (F0 m 16 ls []) := by
    intro N
    induction N with
    | zero => intro l2_3 s_0_4 hf; exact nomatch (show none = some _ from hf)
    | succ N ih =>
      intro l2_3 s_0_4 hf H locs ls hl hP hD hS
      rw [fM_eraseAll_L16] at hf
      refine lv_iload_n hx hb dX10_eraseAll_16 rfl (lv_at hl 2 rfl) ?_
      refine lv_bipush (v := 42) hx hb dX10_eraseAll_17 (by decide) ?_
      refine lv_icmp_ge (tgt := 38) hx hb dX10_eraseAll_19 (by decide) (fun cc => ?_) (fun cc => ?_)
      · replace hf := hf_pos cc hf
        obtain rfl := Option.some.inj hf
        exact hE_1 _ _ _ (lv_sub hl [1] rfl) hP hD hS
      · replace hf := hf_neg cc hf
        refine lv_aload_n hx hb dX10_eraseAll_22 rfl (lv_at hl 0 rfl) ?_
        refine va_get (D := (dC, dI)) (ci := 10) (C := RX10) (T := TX10) (N := 26) hx hb hts hiX10 hown hK hP 0 rfl rfl 0 (by decide) (hts (.fieldLink RX10 7 "PaddockFieldsModel" "s" "[I") (List.mem_cons_of_mem _ (List.mem_append_left _ (List.mem_of_getElem? (i := 1) rfl)))) (fun _ h9 => h9) rfl dX10_eraseAll_23 ?_
        refine lv_bipush (v := 42) hx hb dX10_eraseAll_26 (by decide) ?_
        refine lv_iload_n hx hb dX10_eraseAll_28 rfl (lv_at hl 2 rfl) ?_
        refine lv_iadd hx hb dX10_eraseAll_29 ?_
        refine lv_iconst (v := 0) hx hb dX10_eraseAll_30 (by decide) ?_
        obtain ⟨w3, h_w3, hf⟩ := hf_bind hf
        refine wh_stI (D := (dC, dI)) (ws' := (wl_fM_eraseAll cI cZ cJ cQ a_0 a_0before a_0s a_0slots a_0isKept a_0buffer a_0cells a_0owner a_0code a_0table a_0isOver a_0isRuled a_0all a_0some a_0chosen a_0last a_0corner a_0wide a_0cuts a_0aside s1.2 length_0 (0 : Int32) many_0 round_0 seed_0 hash_0 s1.1 w3)) hx hb hK hP hD hS 2 0 rfl rfl rfl h_w3 dX10_eraseAll_31 (fun H locs hP hD hS => ?_)
        refine lv_iinc (v := (l2_3 + (1 : Int32))) (lv' := [(2, .int (l2_3 + (1 : Int32))), (0, .ref a_0), (1, .int s2)]) hx hb dX10_eraseAll_32 hl (k := 2) rfl rfl (by decide) rfl (fun ls hl => ?_)
        refine lv_goto (tgt := 16) hx hb dX10_eraseAll_35 (by decide) ?_
        exact ih _ _ hf _ _ _ (lv_sub hl [1, 2, 0] rfl) hP hD hS
  exact hL_2 _ _ _ h_r4 _ _ _ (lv_sub hl [2, 1, 0] rfl) hP hD hS
set_option maxHeartbeats 4000000 in
set_option maxRecDepth 100000 in
theorem c_fM_settle (l : Launch) (dC : Nat → ClassId) (dI : Nat → Nat → Nat) (cI cZ cJ cQ : ClassId) (a_0 a_0table a_0s a_0cells a_0owner a_0code a_0isOver a_0all a_0some a_0isRuled a_0before a_0slots a_0isKept a_0buffer a_0chosen a_0last a_0corner a_0wide a_0cuts a_0aside : Nat) (length_0 : Int32) (seed_0 : Int64) (hash_0 : Int64) (sz : Nat) {F : Nat} {thrown_0 : Int32} {many_0 : Int32} {table_0 : Nat → Int32} {s_0 : Nat → Int32} {cells_0 : Nat → Int64} {owner_0 : Nat → Int32} {code_0 : Nat → Int32} {isOver_0 : Nat → Int32} {round_0 : Int32} {all_0 : Nat → Int64} {some_0 : Nat → Int64} {isRuled_0 : Nat → Int32} {known_0 : Int32} {before_0 : Nat → Int32} {out : Int32 × Int32 × Int32 × (Nat → Int32) × (Nat → Int64) × (Nat → Int32) × (Nat → Int32) × (Nat → Int32) × Int32 × (Nat → Int64) × (Nat → Int64) × (Nat → Int32) × (Nat → Int32) × Int32 × (Nat → Int32)} (hf : fM_settle F thrown_0 many_0 table_0 s_0 cells_0 owner_0 code_0 isOver_0 round_0 all_0 some_0 isRuled_0 known_0 before_0 = some out) : Met l yX10_settle wsX10_settle ({ frames := 4, cells := 0, slots := 0, locals := 109 } : Room) (va_Pc [.ref a_0] (wlP (dC, dI) (wlT cI cZ cJ cQ) (wl_fM_settle cI cZ cJ cQ a_0 a_0table a_0s a_0cells a_0owner a_0code a_0isOver a_0all a_0some a_0isRuled a_0before a_0slots a_0isKept a_0buffer a_0chosen a_0last a_0corner a_0wide a_0cuts a_0aside known_0 length_0 thrown_0 many_0 round_0 seed_0 hash_0 table_0 s_0 cells_0 owner_0 code_0 isOver_0 all_0 some_0 isRuled_0 before_0) sz)) (va_Qi (fun (v : Int32) (_ : Unit) => v = out.1) (wlQ (dC, dI) (va_A (wl_fM_settle cI cZ cJ cQ a_0 a_0table a_0s a_0cells a_0owner a_0code a_0isOver a_0all a_0some a_0isRuled a_0before a_0slots a_0isKept a_0buffer a_0chosen a_0last a_0corner a_0wide a_0cuts a_0aside known_0 length_0 thrown_0 many_0 round_0 seed_0 hash_0 table_0 s_0 cells_0 owner_0 code_0 isOver_0 all_0 some_0 isRuled_0 before_0) sz) (wl_fM_settle cI cZ cJ cQ a_0 a_0table a_0s a_0cells a_0owner a_0code a_0isOver a_0all a_0some a_0isRuled a_0before a_0slots a_0isKept a_0buffer a_0chosen a_0last a_0corner a_0wide a_0cuts a_0aside out.2.2.2.2.2.2.2.2.2.2.2.2.2.1 length_0 out.2.1 out.2.2.1 out.2.2.2.2.2.2.2.2.1 seed_0 hash_0 out.2.2.2.1 out.2.2.2.2.2.2.2.2.2.2.2.2.2.2 out.2.2.2.2.1 out.2.2.2.2.2.1 out.2.2.2.2.2.2.1 out.2.2.2.2.2.2.2.1 out.2.2.2.2.2.2.2.2.2.1 out.2.2.2.2.2.2.2.2.2.2.1 out.2.2.2.2.2.2.2.2.2.2.2.1 out.2.2.2.2.2.2.2.2.2.2.2.2.1)) (va_A (wl_fM_settle cI cZ cJ cQ a_0 a_0table a_0s a_0cells a_0owner a_0code a_0isOver a_0all a_0some a_0isRuled a_0before a_0slots a_0isKept a_0buffer a_0chosen a_0last a_0corner a_0wide a_0cuts a_0aside known_0 length_0 thrown_0 many_0 round_0 seed_0 hash_0 table_0 s_0 cells_0 owner_0 code_0 isOver_0 all_0 some_0 isRuled_0 before_0) sz)) 0 0 (va_A (wl_fM_settle cI cZ cJ cQ a_0 a_0table a_0s a_0cells a_0owner a_0code a_0isOver a_0all a_0some a_0isRuled a_0before a_0slots a_0isKept a_0buffer a_0chosen a_0last a_0corner a_0wide a_0cuts a_0aside known_0 length_0 thrown_0 many_0 round_0 seed_0 hash_0 table_0 s_0 cells_0 owner_0 code_0 isOver_0 all_0 some_0 isRuled_0 before_0) sz) := by
  refine wh_ofWi (lv := [(0, .ref a_0)]) RX10 (by decide) rfl rfl (Nat.le_of_ble_eq_true rfl) rfl ?_
  intro p e s m below meth c A QQ hx hb hml hown hts hP hK hN hD hA hret ls hl
  have hS : va_S A s.heap s.heap [] := va_S.rf
  have hiX10 : ∀ w ∈ wsX100, w ∈ wsX10_settle := (fun _ h => List.mem_cons_of_mem _ (List.mem_append_right _ (h)))
  unfold fM_settle at hf
  refine lv_aload_n hx hb dX10_settle_0 rfl (lv_at hl 0 rfl) ?_
  refine lv_iconst (v := 0) hx hb dX10_settle_1 (by decide) ?_
  refine wh_put (D := (dC, dI)) (ci := 10) (C := RX10) (T := TX10) (N := 26) (ty := .int) (v := .int (0 : Int32)) (ws' := (wl_fM_settle cI cZ cJ cQ a_0 a_0table a_0s a_0cells a_0owner a_0code a_0isOver a_0all a_0some a_0isRuled a_0before a_0slots a_0isKept a_0buffer a_0chosen a_0last a_0corner a_0wide a_0cuts a_0aside known_0 length_0 (0 : Int32) many_0 round_0 seed_0 hash_0 table_0 s_0 cells_0 owner_0 code_0 isOver_0 all_0 some_0 isRuled_0 before_0)) hx hb hts hiX10 tyX10 tyX10_ok nmX10 hown hK hP hD hS 0 rfl rfl 7 (by decide) (hts (.fieldLink RX10 69 "PaddockFieldsModel" "thrown" "I") (List.mem_cons_of_mem _ (List.mem_append_left _ (List.mem_append_left _ (List.mem_of_getElem? (i := 0) rfl))))) (fun _ h9 => h9) rfl rfl rfl rfl (Nat.le_of_ble_eq_true rfl) rfl dX10_settle_2 (fun H locs hP hD hS => ?_)
  refine lv_aload_n hx hb dX10_settle_5 rfl (lv_at hl 0 rfl) ?_
  obtain ⟨s1, h_s1, hf⟩ := hf_bind hf
  refine wh_callv (D := (dC, dI)) (ws' := (wl_fM_settle cI cZ cJ cQ a_0 a_0table a_0s a_0cells a_0owner a_0code a_0isOver a_0all a_0some a_0isRuled a_0before a_0slots a_0isKept a_0buffer a_0chosen a_0last a_0corner a_0wide a_0cuts a_0aside known_0 length_0 (0 : Int32) s1.1 s1.2.2.2.2.2.2.1 seed_0 hash_0 s1.2.1 s_0 s1.2.2.1 s1.2.2.2.1 s1.2.2.2.2.1 s1.2.2.2.2.2.1 s1.2.2.2.2.2.2.2.1 s1.2.2.2.2.2.2.2.2.1 s1.2.2.2.2.2.2.2.2.2 before_0)) (va_runV (As := []) (rest := []) ⟨hx, hb, hml, hown, hts⟩ (c_fM_rules l dC dI cI cZ cJ cQ a_0 a_0table a_0s a_0cells a_0owner a_0code a_0isOver a_0all a_0some a_0isRuled a_0before a_0slots a_0isKept a_0buffer a_0chosen a_0last a_0corner a_0wide a_0cuts a_0aside known_0 length_0 (0 : Int32) seed_0 hash_0 _ h_s1) (cwV 0 hts gX10_settle_X10_rules rfl rfl rfl (by decide +kernel) ⟨Nat.le_of_ble_eq_true rfl, Nat.le_of_ble_eq_true rfl⟩) (wh_preV (C := RX10) (T := TX10) (N := 26) hK hN hP hD [0, 1, 2, 3, 4, 5, 6, 7, 8, 9] rfl rfl 10 0 rfl rfl) rfl rfl hl.1 rfl (lv_room (Nat.le_of_ble_eq_true rfl)) dX10_settle_6 ⟨Nat.le_refl _, Nat.le_refl _⟩) hP hD hS hA [0, 1, 2, 3, 4, 5, 6, 7, 8, 9] [10] [1, 2, 3, 4, 5, 6, 7, 8, 9, 10, 0] rfl rfl rfl rfl (fun H locs hP hD hS => ?_)
  refine lv_aload_n hx hb dX10_settle_9 rfl (lv_at hl 0 rfl) ?_
  obtain ⟨s2, h_s2, hf⟩ := hf_bind hf
  refine wh_calli (D := (dC, dI)) (ws' := (wl_fM_settle cI cZ cJ cQ a_0 a_0table a_0s a_0cells a_0owner a_0code a_0isOver a_0all a_0some a_0isRuled a_0before a_0slots a_0isKept a_0buffer a_0chosen a_0last a_0corner a_0wide a_0cuts a_0aside known_0 length_0 (0 : Int32) s1.1 s1.2.2.2.2.2.2.1 seed_0 hash_0 s1.2.1 s_0 s1.2.2.1 s1.2.2.2.1 s1.2.2.2.2.1 s1.2.2.2.2.2.1 s1.2.2.2.2.2.2.2.1 s1.2.2.2.2.2.2.2.2.1 s1.2.2.2.2.2.2.2.2.2 before_0)) (va_runV (As := []) (rest := []) ⟨hx, hb, hml, hown, hts⟩ (c_fM_isAgainst l dC dI cI cZ cJ cQ a_0 a_0s a_0some a_0before a_0slots a_0isKept a_0buffer a_0cells a_0owner a_0code a_0table a_0isOver a_0isRuled a_0all a_0chosen a_0last a_0corner a_0wide a_0cuts a_0aside known_0 length_0 (0 : Int32) s1.1 s1.2.2.2.2.2.2.1 seed_0 hash_0 _ h_s2) (cwV 0 hts gX10_settle_X10_isAgainst rfl rfl rfl (by decide +kernel) ⟨Nat.le_of_ble_eq_true rfl, Nat.le_of_ble_eq_true rfl⟩) (wh_preV (C := RX10) (T := TX10) (N := 26) hK hN hP hD [0, 2, 8] rfl rfl 10 0 rfl rfl) rfl rfl hl.1 rfl (lv_room (Nat.le_of_ble_eq_true rfl)) dX10_settle_10 ⟨Nat.le_refl _, Nat.le_refl _⟩) hP hD hS hA [0, 2, 8] [1, 3, 4, 5, 6, 7, 9, 10] [8, 0, 9, 1, 2, 3, 4, 5, 10, 6, 7] rfl rfl rfl rfl (fun H locs hP hD hS => ?_)
  refine lv_if_eq (tgt := 22) hx hb dX10_settle_13 (by decide) (fun cc => ?_) (fun cc => ?_)
  · replace hf := hf_pos cc hf
    refine lv_aload_n hx hb dX10_settle_22 rfl (lv_at hl 0 rfl) ?_
    obtain ⟨s3, h_s3, hf⟩ := hf_bind hf
    refine wh_callv (D := (dC, dI)) (ws' := (wl_fM_settle cI cZ cJ cQ a_0 a_0table a_0s a_0cells a_0owner a_0code a_0isOver a_0all a_0some a_0isRuled a_0before a_0slots a_0isKept a_0buffer a_0chosen a_0last a_0corner a_0wide a_0cuts a_0aside s3.2 length_0 (0 : Int32) s1.1 s1.2.2.2.2.2.2.1 seed_0 hash_0 s1.2.1 s_0 s1.2.2.1 s1.2.2.2.1 s1.2.2.2.2.1 s1.2.2.2.2.2.1 s1.2.2.2.2.2.2.2.1 s1.2.2.2.2.2.2.2.2.1 s1.2.2.2.2.2.2.2.2.2 s3.1)) (va_runV (As := []) (rest := []) ⟨hx, hb, hml, hown, hts⟩ (c_fM_save l dC dI cI cZ cJ cQ a_0 a_0before a_0s a_0slots a_0isKept a_0buffer a_0cells a_0owner a_0code a_0table a_0isOver a_0isRuled a_0all a_0some a_0chosen a_0last a_0corner a_0wide a_0cuts a_0aside length_0 (0 : Int32) s1.1 s1.2.2.2.2.2.2.1 seed_0 hash_0 _ h_s3) (cwV 0 hts gX10_settle_X10_save rfl rfl rfl (by decide +kernel) ⟨Nat.le_of_ble_eq_true rfl, Nat.le_of_ble_eq_true rfl⟩) (wh_preV (C := RX10) (T := TX10) (N := 26) hK hN hP hD [0, 10, 2] rfl rfl 10 0 rfl rfl) rfl rfl hl.1 rfl (lv_room (Nat.le_of_ble_eq_true rfl)) dX10_settle_23 ⟨Nat.le_refl _, Nat.le_refl _⟩) hP hD hS hA [0, 10, 2] [1, 3, 4, 5, 6, 7, 8, 9] [8, 0, 10, 1, 2, 3, 4, 5, 6, 7, 9] rfl rfl rfl rfl (fun H locs hP hD hS => ?_)
    refine lv_aload_n hx hb dX10_settle_26 rfl (lv_at hl 0 rfl) ?_
    obtain ⟨s4, h_s4, hf⟩ := hf_bind hf
    refine wh_calli (D := (dC, dI)) (ws' := (wl_fM_settle cI cZ cJ cQ a_0 a_0table a_0s a_0cells a_0owner a_0code a_0isOver a_0all a_0some a_0isRuled a_0before a_0slots a_0isKept a_0buffer a_0chosen a_0last a_0corner a_0wide a_0cuts a_0aside s3.2 length_0 (0 : Int32) s1.1 s1.2.2.2.2.2.2.1 seed_0 hash_0 s1.2.1 s_0 s1.2.2.1 s1.2.2.2.1 s1.2.2.2.2.1 s1.2.2.2.2.2.1 s1.2.2.2.2.2.2.2.1 s1.2.2.2.2.2.2.2.2.1 s1.2.2.2.2.2.2.2.2.2 s3.1)) (va_runV (As := []) (rest := []) ⟨hx, hb, hml, hown, hts⟩ (c_fM_sure l dC dI cI cZ cJ cQ a_0 a_0s a_0owner a_0isOver a_0before a_0slots a_0isKept a_0buffer a_0cells a_0code a_0table a_0isRuled a_0all a_0some a_0chosen a_0last a_0corner a_0wide a_0cuts a_0aside s3.2 length_0 (0 : Int32) s1.2.2.2.2.2.2.1 seed_0 hash_0 _ h_s4) (cwV 0 hts gX10_settle_X10_sure rfl rfl rfl (by decide +kernel) ⟨Nat.le_of_ble_eq_true rfl, Nat.le_of_ble_eq_true rfl⟩) (wh_preV (C := RX10) (T := TX10) (N := 26) hK hN hP hD [0, 2, 4, 6] rfl rfl 10 0 rfl rfl) rfl rfl hl.1 rfl (lv_room (Nat.le_of_ble_eq_true rfl)) dX10_settle_27 ⟨Nat.le_refl _, Nat.le_refl _⟩) hP hD hS hA [0, 2, 4, 6] [1, 3, 5, 7, 8, 9, 10] [7, 0, 8, 1, 9, 2, 10, 3, 4, 5, 6] rfl rfl rfl rfl (fun H locs hP hD hS => ?_)
    refine lv_istore_n (lv' := [(1, .int s4), (0, .ref a_0)]) hx hb dX10_settle_30 rfl hl (by decide) rfl (fun ls hl => ?_)
    refine lv_iconst (v := 0) hx hb dX10_settle_31 (by decide) ?_
    refine lv_istore_n (lv' := [(2, .int (0 : Int32)), (1, .int s4), (0, .ref a_0)]) hx hb dX10_settle_32 rfl hl (by decide) rfl (fun ls hl => ?_)
    obtain ⟨r10, h_r10, hf⟩ := hf_bind hf
    have hE_1 : ∀ (H : Heap) (locs : List Loc) (ls : Array Slot), lv_has ls 3 [(0, .ref a_0), (1, .int s4)] → va_P (dC, dI) vwCl (wl_fM_settle cI cZ cJ cQ a_0 a_0table a_0s a_0cells a_0owner a_0code a_0isOver a_0all a_0some a_0isRuled a_0before a_0slots a_0isKept a_0buffer a_0chosen a_0last a_0corner a_0wide a_0cuts a_0aside s3.2 length_0 (0 : Int32) s1.1 s1.2.2.2.2.2.2.1 seed_0 hash_0 s1.2.1 s_0 s1.2.2.1 s1.2.2.2.1 s1.2.2.2.2.1 s1.2.2.2.2.2.1 s1.2.2.2.2.2.2.2.1 s1.2.2.2.2.2.2.2.2.1 r10.2 s3.1) H → va_D A (wl_fM_settle cI cZ cJ cQ a_0 a_0table a_0s a_0cells a_0owner a_0code a_0isOver a_0all a_0some a_0isRuled a_0before a_0slots a_0isKept a_0buffer a_0chosen a_0last a_0corner a_0wide a_0cuts a_0aside s3.2 length_0 (0 : Int32) s1.1 s1.2.2.2.2.2.2.1 seed_0 hash_0 s1.2.1 s_0 s1.2.2.1 s1.2.2.2.1 s1.2.2.2.2.1 s1.2.2.2.2.2.1 s1.2.2.2.2.2.2.2.1 s1.2.2.2.2.2.2.2.2.1 r10.2 s3.1) → va_S A s.heap H locs → W p l e ({ frames := 4, cells := 0, slots := 0, locals := 109 } : Room) s m [.ref a_0].toArray below meth c H locs 0 0 QQ (F0 m 81 ls []) := by
      intro H locs ls hl hP hD hS
      refine lv_iconst (v := 0) hx hb dX10_settle_81 (by decide) ?_
      refine lv_istore_n (lv' := [(2, .int (0 : Int32)), (0, .ref a_0), (1, .int s4)]) hx hb dX10_settle_82 rfl hl (by decide) rfl (fun ls hl => ?_)
      obtain ⟨r15, h_r15, hf⟩ := hf_bind hf
      have hE_2 : ∀ (H : Heap) (locs : List Loc) (ls : Array Slot), lv_has ls 3 [(1, .int s4)] → va_P (dC, dI) vwCl (wl_fM_settle cI cZ cJ cQ a_0 a_0table a_0s a_0cells a_0owner a_0code a_0isOver a_0all a_0some a_0isRuled a_0before a_0slots a_0isKept a_0buffer a_0chosen a_0last a_0corner a_0wide a_0cuts a_0aside s3.2 length_0 (0 : Int32) s1.1 s1.2.2.2.2.2.2.1 seed_0 hash_0 s1.2.1 r15.2 s1.2.2.1 s1.2.2.2.1 s1.2.2.2.2.1 s1.2.2.2.2.2.1 s1.2.2.2.2.2.2.2.1 s1.2.2.2.2.2.2.2.2.1 r10.2 s3.1) H → va_D A (wl_fM_settle cI cZ cJ cQ a_0 a_0table a_0s a_0cells a_0owner a_0code a_0isOver a_0all a_0some a_0isRuled a_0before a_0slots a_0isKept a_0buffer a_0chosen a_0last a_0corner a_0wide a_0cuts a_0aside s3.2 length_0 (0 : Int32) s1.1 s1.2.2.2.2.2.2.1 seed_0 hash_0 s1.2.1 r15.2 s1.2.2.1 s1.2.2.2.1 s1.2.2.2.2.1 s1.2.2.2.2.2.1 s1.2.2.2.2.2.2.2.1 s1.2.2.2.2.2.2.2.2.1 r10.2 s3.1) → va_S A s.heap H locs → W p l e ({ frames := 4, cells := 0, slots := 0, locals := 109 } : Room) s m [.ref a_0].toArray below meth c H locs 0 0 QQ (F0 m 116 ls []) := by
        intro H locs ls hl hP hD hS
        refine lv_iload_n hx hb dX10_settle_116 rfl (lv_at hl 0 rfl) ?_
        obtain rfl := Option.some.inj hf
        exact hret _ _ _ _ hP hD hS dX10_settle_117
      have hL_3 : ∀ (N : Nat) (l2_4 : Int32) (s_0_5 : Nat → Int32), fM_settle_L83 F s1.1 s1.2.2.1 r10.2 N l2_4 s_0_5 = some r15 → ∀ (H : Heap) (locs : List Loc) (ls : Array Slot), lv_has ls 3 [(0, .ref a_0), (1, .int s4), (2, .int l2_4)] → va_P (dC, dI) vwCl (wl_fM_settle cI cZ cJ cQ a_0 a_0table a_0s a_0cells a_0owner a_0code a_0isOver a_0all a_0some a_0isRuled a_0before a_0slots a_0isKept a_0buffer a_0chosen a_0last a_0corner a_0wide a_0cuts a_0aside s3.2 length_0 (0 : Int32) s1.1 s1.2.2.2.2.2.2.1 seed_0 hash_0 s1.2.1 s_0_5 s1.2.2.1 s1.2.2.2.1 s1.2.2.2.2.1 s1.2.2.2.2.2.1 s1.2.2.2.2.2.2.2.1 s1.2.2.2.2.2.2.2.2.1 r10.2 s3.1) H → va_D A (wl_fM_settle cI cZ cJ cQ a_0 a_0table a_0s a_0cells a_0owner a_0code a_0isOver a_0all a_0some a_0isRuled a_0before a_0slots a_0isKept a_0buffer a_0chosen a_0last a_0corner a_0wide a_0cuts a_0aside s3.2 length_0 (0 : Int32) s1.1 s1.2.2.2.2.2.2.1 seed_0 hash_0 s1.2.1 s_0_5 s1.2.2.1 s1.2.2.2.1 s1.2.2.2.2.1 s1.2.2.2.2.2.1 s1.2.2.2.2.2.2.2.1 s1.2.2.2.2.2.2.2.2.1 r10.2 s3.1) → va_S A s.heap H locs → W p l e ({ frames := 4, cells := 0, slots := 0, locals := 109 } : Room) s m [.ref a_0].toArray below meth c H locs 0 0 QQ (F0 m 83 ls []) := by
        intro N
        induction N with
        | zero => intro l2_4 s_0_5 hf; exact nomatch (show none = some _ from hf)
        | succ N ih =>
          intro l2_4 s_0_5 hf H locs ls hl hP hD hS
          rw [fM_settle_L83] at hf
          refine lv_iload_n hx hb dX10_settle_83 rfl (lv_at hl 2 rfl) ?_
          refine lv_aload_n hx hb dX10_settle_84 rfl (lv_at hl 0 rfl) ?_
          refine va_get (D := (dC, dI)) (ci := 10) (C := RX10) (T := TX10) (N := 26) hx hb hts hiX10 hown hK hP 0 rfl rfl 11 (by decide) (hts (.fieldLink RX10 102 "PaddockFieldsModel" "many" "I") (List.mem_cons_of_mem _ (List.mem_append_left _ (List.mem_append_left _ (List.mem_of_getElem? (i := 1) rfl))))) (fun _ h9 => h9) rfl dX10_settle_85 ?_
          refine lv_icmp_ge (tgt := 116) hx hb dX10_settle_88 (by decide) (fun cc => ?_) (fun cc => ?_)
          · replace hf := hf_pos cc hf
            obtain rfl := Option.some.inj hf
            exact hE_2 _ _ _ (lv_sub hl [1] rfl) hP hD hS
          · replace hf := hf_neg cc hf
            refine lv_aload_n hx hb dX10_settle_91 rfl (lv_at hl 0 rfl) ?_
            refine va_get (D := (dC, dI)) (ci := 10) (C := RX10) (T := TX10) (N := 26) hx hb hts hiX10 hown hK hP 0 rfl rfl 14 (by decide) (hts (.fieldLink RX10 42 "PaddockFieldsModel" "isRuled" "[Z") (List.mem_cons_of_mem _ (List.mem_append_left _ (List.mem_append_left _ (List.mem_of_getElem? (i := 2) rfl))))) (fun _ h9 => h9) rfl dX10_settle_92 ?_
            refine lv_iload_n hx hb dX10_settle_95 rfl (lv_at hl 2 rfl) ?_
            obtain ⟨v11, h_v11, hf⟩ := hf_bind hf
            refine wh_ldZ (D := (dC, dI)) hx hb hK hP 9 1 rfl rfl h_v11 dX10_settle_96 ?_
            obtain ⟨j14, h_j14, hf⟩ := hf_bind hf
            have hJ_6 : ∀ (H : Heap) (locs : List Loc) (ls : Array Slot), lv_has ls 3 [(0, .ref a_0), (1, .int s4), (2, .int l2_4)] → va_P (dC, dI) vwCl (wl_fM_settle cI cZ cJ cQ a_0 a_0table a_0s a_0cells a_0owner a_0code a_0isOver a_0all a_0some a_0isRuled a_0before a_0slots a_0isKept a_0buffer a_0chosen a_0last a_0corner a_0wide a_0cuts a_0aside s3.2 length_0 (0 : Int32) s1.1 s1.2.2.2.2.2.2.1 seed_0 hash_0 s1.2.1 j14 s1.2.2.1 s1.2.2.2.1 s1.2.2.2.2.1 s1.2.2.2.2.2.1 s1.2.2.2.2.2.2.2.1 s1.2.2.2.2.2.2.2.2.1 r10.2 s3.1) H → va_D A (wl_fM_settle cI cZ cJ cQ a_0 a_0table a_0s a_0cells a_0owner a_0code a_0isOver a_0all a_0some a_0isRuled a_0before a_0slots a_0isKept a_0buffer a_0chosen a_0last a_0corner a_0wide a_0cuts a_0aside s3.2 length_0 (0 : Int32) s1.1 s1.2.2.2.2.2.2.1 seed_0 hash_0 s1.2.1 j14 s1.2.2.1 s1.2.2.2.1 s1.2.2.2.2.1 s1.2.2.2.2.2.1 s1.2.2.2.2.2.2.2.1 s1.2.2.2.2.2.2.2.2.1 r10.2 s3.1) → va_S A s.heap H locs → W p l e ({ frames := 4, cells := 0, slots := 0, locals := 109 } : Room) s m [.ref a_0].toArray below meth c H locs 0 0 QQ (F0 m 110 ls []) := by
              intro H locs ls hl hP hD hS
              refine lv_iinc (v := (l2_4 + (1 : Int32))) (lv' := [(2, .int (l2_4 + (1 : Int32))), (0, .ref a_0), (1, .int s4)]) hx hb dX10_settle_110 hl (k := 2) rfl rfl (by decide) rfl (fun ls hl => ?_)
              refine lv_goto (tgt := 83) hx hb dX10_settle_113 (by decide) ?_
              exact ih _ _ hf _ _ _ (lv_sub hl [1, 2, 0] rfl) hP hD hS
            clear hf
            have hf := h_j14
            clear h_j14
            refine lv_if_eq (tgt := 110) hx hb dX10_settle_97 (by decide) (fun cc => ?_) (fun cc => ?_)
            · replace hf := hf_pos cc hf
              obtain rfl := Option.some.inj hf
              exact hJ_6 _ _ _ (lv_sub hl [0, 1, 2] rfl) hP hD hS
            · replace hf := hf_neg cc hf
              refine lv_aload_n hx hb dX10_settle_100 rfl (lv_at hl 0 rfl) ?_
              refine lv_aload_n hx hb dX10_settle_101 rfl (lv_at hl 0 rfl) ?_
              refine va_get (D := (dC, dI)) (ci := 10) (C := RX10) (T := TX10) (N := 26) hx hb hts hiX10 hown hK hP 0 rfl rfl 8 (by decide) (hts (.fieldLink RX10 26 "PaddockFieldsModel" "cells" "[J") (List.mem_cons_of_mem _ (List.mem_append_left _ (List.mem_append_left _ (List.mem_of_getElem? (i := 5) rfl))))) (fun _ h9 => h9) rfl dX10_settle_102 ?_
              refine lv_iload_n hx hb dX10_settle_105 rfl (lv_at hl 2 rfl) ?_
              obtain ⟨v12, h_v12, hf⟩ := hf_bind hf
              refine wh_ldJ (D := (dC, dI)) hx hb hK hP 3 2 rfl rfl h_v12 dX10_settle_106 ?_
              obtain ⟨s13, h_s13, hf⟩ := hf_bind hf
              refine wh_callv (D := (dC, dI)) (ws' := (wl_fM_settle cI cZ cJ cQ a_0 a_0table a_0s a_0cells a_0owner a_0code a_0isOver a_0all a_0some a_0isRuled a_0before a_0slots a_0isKept a_0buffer a_0chosen a_0last a_0corner a_0wide a_0cuts a_0aside s3.2 length_0 (0 : Int32) s1.1 s1.2.2.2.2.2.2.1 seed_0 hash_0 s1.2.1 s13 s1.2.2.1 s1.2.2.2.1 s1.2.2.2.2.1 s1.2.2.2.2.2.1 s1.2.2.2.2.2.2.2.1 s1.2.2.2.2.2.2.2.2.1 r10.2 s3.1)) (va_runV (As := [.long v12]) (rest := []) ⟨hx, hb, hml, hown, hts⟩ (c_fM_draws l dC dI cI cZ cJ cQ a_0 a_0s a_0before a_0slots a_0isKept a_0buffer a_0cells a_0owner a_0code a_0table a_0isOver a_0isRuled a_0all a_0some a_0chosen a_0last a_0corner a_0wide a_0cuts a_0aside s3.2 length_0 (0 : Int32) s1.1 s1.2.2.2.2.2.2.1 seed_0 hash_0 _ h_s13) (cwV 1 hts gX10_settle_X10_draws rfl rfl rfl (by decide +kernel) ⟨Nat.le_of_ble_eq_true rfl, Nat.le_of_ble_eq_true rfl⟩) (wh_preV (C := RX10) (T := TX10) (N := 26) hK hN hP hD [0, 2] rfl rfl 10 0 rfl rfl) rfl rfl hl.1 rfl (lv_room (Nat.le_of_ble_eq_true rfl)) dX10_settle_107 ⟨Nat.le_refl _, Nat.le_refl _⟩) hP hD hS hA [0, 2] [1, 3, 4, 5, 6, 7, 8, 9, 10] [9, 0, 10, 1, 2, 3, 4, 5, 6, 7, 8] rfl rfl rfl rfl (fun H locs hP hD hS => ?_)
              obtain rfl := Option.some.inj hf
              exact hJ_6 _ _ _ (lv_sub hl [0, 1, 2] rfl) hP hD hS
      exact hL_3 _ _ _ h_r15 _ _ _ (lv_sub hl [1, 2, 0] rfl) hP hD hS
    have hL_7 : ∀ (N : Nat) (l2_8 : Int32) (isRuled_0_9 : Nat → Int32), fM_settle_L33 F s1.1 s1.2.2.2.1 s1.2.2.2.2.2.1 N l2_8 isRuled_0_9 = some r10 → ∀ (H : Heap) (locs : List Loc) (ls : Array Slot), lv_has ls 3 [(0, .ref a_0), (1, .int s4), (2, .int l2_8)] → va_P (dC, dI) vwCl (wl_fM_settle cI cZ cJ cQ a_0 a_0table a_0s a_0cells a_0owner a_0code a_0isOver a_0all a_0some a_0isRuled a_0before a_0slots a_0isKept a_0buffer a_0chosen a_0last a_0corner a_0wide a_0cuts a_0aside s3.2 length_0 (0 : Int32) s1.1 s1.2.2.2.2.2.2.1 seed_0 hash_0 s1.2.1 s_0 s1.2.2.1 s1.2.2.2.1 s1.2.2.2.2.1 s1.2.2.2.2.2.1 s1.2.2.2.2.2.2.2.1 s1.2.2.2.2.2.2.2.2.1 isRuled_0_9 s3.1) H → va_D A (wl_fM_settle cI cZ cJ cQ a_0 a_0table a_0s a_0cells a_0owner a_0code a_0isOver a_0all a_0some a_0isRuled a_0before a_0slots a_0isKept a_0buffer a_0chosen a_0last a_0corner a_0wide a_0cuts a_0aside s3.2 length_0 (0 : Int32) s1.1 s1.2.2.2.2.2.2.1 seed_0 hash_0 s1.2.1 s_0 s1.2.2.1 s1.2.2.2.1 s1.2.2.2.2.1 s1.2.2.2.2.2.1 s1.2.2.2.2.2.2.2.1 s1.2.2.2.2.2.2.2.2.1 isRuled_0_9 s3.1) → va_S A s.heap H locs → W p l e ({ frames := 4, cells := 0, slots := 0, locals := 109 } : Room) s m [.ref a_0].toArray below meth c H locs 0 0 QQ (F0 m 33 ls []) := by
      intro N
      induction N with
      | zero => intro l2_8 isRuled_0_9 hf; exact nomatch (show none = some _ from hf)
      | succ N ih =>
        intro l2_8 isRuled_0_9 hf H locs ls hl hP hD hS
        rw [fM_settle_L33] at hf
        refine lv_iload_n hx hb dX10_settle_33 rfl (lv_at hl 2 rfl) ?_
        refine lv_aload_n hx hb dX10_settle_34 rfl (lv_at hl 0 rfl) ?_
        refine va_get (D := (dC, dI)) (ci := 10) (C := RX10) (T := TX10) (N := 26) hx hb hts hiX10 hown hK hP 0 rfl rfl 11 (by decide) (hts (.fieldLink RX10 102 "PaddockFieldsModel" "many" "I") (List.mem_cons_of_mem _ (List.mem_append_left _ (List.mem_append_left _ (List.mem_of_getElem? (i := 1) rfl))))) (fun _ h9 => h9) rfl dX10_settle_35 ?_
        refine lv_icmp_ge (tgt := 81) hx hb dX10_settle_38 (by decide) (fun cc => ?_) (fun cc => ?_)
        · replace hf := hf_pos cc hf
          obtain rfl := Option.some.inj hf
          exact hE_1 _ _ _ (lv_sub hl [0, 1] rfl) hP hD hS
        · replace hf := hf_neg cc hf
          refine lv_aload_n hx hb dX10_settle_41 rfl (lv_at hl 0 rfl) ?_
          refine va_get (D := (dC, dI)) (ci := 10) (C := RX10) (T := TX10) (N := 26) hx hb hts hiX10 hown hK hP 0 rfl rfl 14 (by decide) (hts (.fieldLink RX10 42 "PaddockFieldsModel" "isRuled" "[Z") (List.mem_cons_of_mem _ (List.mem_append_left _ (List.mem_append_left _ (List.mem_of_getElem? (i := 2) rfl))))) (fun _ h9 => h9) rfl dX10_settle_42 ?_
          refine lv_iload_n hx hb dX10_settle_45 rfl (lv_at hl 2 rfl) ?_
          refine lv_aload_n hx hb dX10_settle_46 rfl (lv_at hl 0 rfl) ?_
          refine va_get (D := (dC, dI)) (ci := 10) (C := RX10) (T := TX10) (N := 26) hx hb hts hiX10 hown hK hP 0 rfl rfl 13 (by decide) (hts (.fieldLink RX10 39 "PaddockFieldsModel" "isOver" "[Z") (List.mem_cons_of_mem _ (List.mem_append_left _ (List.mem_append_left _ (List.mem_of_getElem? (i := 3) rfl))))) (fun _ h9 => h9) rfl dX10_settle_47 ?_
          refine lv_iload_n hx hb dX10_settle_50 rfl (lv_at hl 2 rfl) ?_
          obtain ⟨v5, h_v5, hf⟩ := hf_bind hf
          refine wh_ldZ (D := (dC, dI)) hx hb hK hP 6 1 rfl rfl h_v5 dX10_settle_51 ?_
          obtain ⟨j8, h_j8, hf⟩ := hf_bind hf
          have hJ_10 : ∀ (H : Heap) (locs : List Loc) (ls : Array Slot), lv_has ls 3 [(0, .ref a_0), (1, .int s4), (2, .int l2_8)] → va_P (dC, dI) vwCl (wl_fM_settle cI cZ cJ cQ a_0 a_0table a_0s a_0cells a_0owner a_0code a_0isOver a_0all a_0some a_0isRuled a_0before a_0slots a_0isKept a_0buffer a_0chosen a_0last a_0corner a_0wide a_0cuts a_0aside s3.2 length_0 (0 : Int32) s1.1 s1.2.2.2.2.2.2.1 seed_0 hash_0 s1.2.1 s_0 s1.2.2.1 s1.2.2.2.1 s1.2.2.2.2.1 s1.2.2.2.2.2.1 s1.2.2.2.2.2.2.2.1 s1.2.2.2.2.2.2.2.2.1 isRuled_0_9 s3.1) H → va_D A (wl_fM_settle cI cZ cJ cQ a_0 a_0table a_0s a_0cells a_0owner a_0code a_0isOver a_0all a_0some a_0isRuled a_0before a_0slots a_0isKept a_0buffer a_0chosen a_0last a_0corner a_0wide a_0cuts a_0aside s3.2 length_0 (0 : Int32) s1.1 s1.2.2.2.2.2.2.1 seed_0 hash_0 s1.2.1 s_0 s1.2.2.1 s1.2.2.2.1 s1.2.2.2.2.1 s1.2.2.2.2.2.1 s1.2.2.2.2.2.2.2.1 s1.2.2.2.2.2.2.2.2.1 isRuled_0_9 s3.1) → va_S A s.heap H locs → W p l e ({ frames := 4, cells := 0, slots := 0, locals := 109 } : Room) s m [.ref a_0].toArray below meth c H locs 0 0 QQ (F0 m 74 ls [.int j8, .int l2_8, .ref a_0isRuled]) := by
            intro H locs ls hl hP hD hS
            obtain ⟨w9, h_w9, hf⟩ := hf_bind hf
            refine wh_stZ (D := (dC, dI)) (ws' := (wl_fM_settle cI cZ cJ cQ a_0 a_0table a_0s a_0cells a_0owner a_0code a_0isOver a_0all a_0some a_0isRuled a_0before a_0slots a_0isKept a_0buffer a_0chosen a_0last a_0corner a_0wide a_0cuts a_0aside s3.2 length_0 (0 : Int32) s1.1 s1.2.2.2.2.2.2.1 seed_0 hash_0 s1.2.1 s_0 s1.2.2.1 s1.2.2.2.1 s1.2.2.2.2.1 s1.2.2.2.2.2.1 s1.2.2.2.2.2.2.2.1 s1.2.2.2.2.2.2.2.2.1 w9 s3.1)) hx hb hK hP hD hS 9 1 rfl rfl rfl h_w9 dX10_settle_74 (fun H locs hP hD hS => ?_)
            refine lv_iinc (v := (l2_8 + (1 : Int32))) (lv' := [(2, .int (l2_8 + (1 : Int32))), (0, .ref a_0), (1, .int s4)]) hx hb dX10_settle_75 hl (k := 2) rfl rfl (by decide) rfl (fun ls hl => ?_)
            refine lv_goto (tgt := 33) hx hb dX10_settle_78 (by decide) ?_
            exact ih _ _ hf _ _ _ (lv_sub hl [1, 2, 0] rfl) hP hD hS
          clear hf
          have hf := h_j8
          clear h_j8
          refine lv_if_ne (tgt := 73) hx hb dX10_settle_52 (by decide) (fun cc => ?_) (fun cc => ?_)
          · replace hf := hf_pos cc hf
            refine lv_iconst (v := 0) hx hb dX10_settle_73 (by decide) ?_
            obtain rfl := Option.some.inj hf
            exact hJ_10 _ _ _ (lv_sub hl [0, 1, 2] rfl) hP hD hS
          · replace hf := hf_neg (not_not_intro cc) hf
            refine lv_aload_n hx hb dX10_settle_55 rfl (lv_at hl 0 rfl) ?_
            refine lv_aload_n hx hb dX10_settle_56 rfl (lv_at hl 0 rfl) ?_
            refine va_get (D := (dC, dI)) (ci := 10) (C := RX10) (T := TX10) (N := 26) hx hb hts hiX10 hown hK hP 0 rfl rfl 9 (by decide) (hts (.fieldLink RX10 30 "PaddockFieldsModel" "owner" "[I") (List.mem_cons_of_mem _ (List.mem_append_left _ (List.mem_append_left _ (List.mem_of_getElem? (i := 4) rfl))))) (fun _ h9 => h9) rfl dX10_settle_57 ?_
            refine lv_iload_n hx hb dX10_settle_60 rfl (lv_at hl 2 rfl) ?_
            obtain ⟨v6, h_v6, hf⟩ := hf_bind hf
            refine wh_ldI (D := (dC, dI)) hx hb hK hP 4 0 rfl rfl h_v6 dX10_settle_61 ?_
            obtain ⟨s7, h_s7, hf⟩ := hf_bind hf
            refine wh_calli (D := (dC, dI)) (ws' := (wl_fM_settle cI cZ cJ cQ a_0 a_0table a_0s a_0cells a_0owner a_0code a_0isOver a_0all a_0some a_0isRuled a_0before a_0slots a_0isKept a_0buffer a_0chosen a_0last a_0corner a_0wide a_0cuts a_0aside s3.2 length_0 (0 : Int32) s1.1 s1.2.2.2.2.2.2.1 seed_0 hash_0 s1.2.1 s_0 s1.2.2.1 s1.2.2.2.1 s1.2.2.2.2.1 s1.2.2.2.2.2.1 s1.2.2.2.2.2.2.2.1 s1.2.2.2.2.2.2.2.2.1 isRuled_0_9 s3.1)) (va_runV (As := [.int v6]) (rest := [.int l2_8, .ref a_0isRuled]) ⟨hx, hb, hml, hown, hts⟩ (c_fM_leftIn l dC dI cI cZ cJ cQ a_0 a_0owner a_0isOver a_0s a_0before a_0slots a_0isKept a_0buffer a_0cells a_0code a_0table a_0isRuled a_0all a_0some a_0chosen a_0last a_0corner a_0wide a_0cuts a_0aside s3.2 length_0 (0 : Int32) s1.2.2.2.2.2.2.1 seed_0 hash_0 _ h_s7) (cwV 1 hts gX10_settle_X10_leftIn rfl rfl rfl (by decide +kernel) ⟨Nat.le_of_ble_eq_true rfl, Nat.le_of_ble_eq_true rfl⟩) (wh_preV (C := RX10) (T := TX10) (N := 26) hK hN hP hD [0, 4, 6] rfl rfl 10 0 rfl rfl) rfl rfl hl.1 rfl (lv_room (Nat.le_of_ble_eq_true rfl)) dX10_settle_62 ⟨Nat.le_refl _, Nat.le_refl _⟩) hP hD hS hA [0, 4, 6] [1, 2, 3, 5, 7, 8, 9, 10] [8, 0, 1, 2, 9, 3, 10, 4, 5, 6, 7] rfl rfl rfl rfl (fun H locs hP hD hS => ?_)
            refine lv_iconst (v := 1) hx hb dX10_settle_65 (by decide) ?_
            refine lv_icmp_ne (tgt := 73) hx hb dX10_settle_66 (by decide) (fun cc => ?_) (fun cc => ?_)
            · replace hf := hf_pos cc hf
              refine lv_iconst (v := 0) hx hb dX10_settle_73 (by decide) ?_
              obtain rfl := Option.some.inj hf
              exact hJ_10 _ _ _ (lv_sub hl [0, 1, 2] rfl) hP hD hS
            · replace hf := hf_neg (not_not_intro cc) hf
              refine lv_iconst (v := 1) hx hb dX10_settle_69 (by decide) ?_
              refine lv_goto (tgt := 74) hx hb dX10_settle_70 (by decide) ?_
              obtain rfl := Option.some.inj hf
              exact hJ_10 _ _ _ (lv_sub hl [0, 1, 2] rfl) hP hD hS
    exact hL_7 _ _ _ h_r10 _ _ _ (lv_sub hl [2, 1, 0] rfl) hP hD hS
  · replace hf := hf_neg cc hf
    refine lv_aload_n hx hb dX10_settle_16 rfl (lv_at hl 0 rfl) ?_
    refine lv_iconst (v := 1) hx hb dX10_settle_17 (by decide) ?_
    obtain ⟨s16, h_s16, hf⟩ := hf_bind hf
    refine wh_calli (D := (dC, dI)) (ws' := (wl_fM_settle cI cZ cJ cQ a_0 a_0table a_0s a_0cells a_0owner a_0code a_0isOver a_0all a_0some a_0isRuled a_0before a_0slots a_0isKept a_0buffer a_0chosen a_0last a_0corner a_0wide a_0cuts a_0aside known_0 length_0 s16.2 s1.1 s1.2.2.2.2.2.2.1 seed_0 hash_0 s1.2.1 s_0 s1.2.2.1 s1.2.2.2.1 s1.2.2.2.2.1 s1.2.2.2.2.2.1 s1.2.2.2.2.2.2.2.1 s1.2.2.2.2.2.2.2.2.1 s1.2.2.2.2.2.2.2.2.2 before_0)) (va_runV (As := [.int (1 : Int32)]) (rest := []) ⟨hx, hb, hml, hown, hts⟩ (c_fM_throwing l dC dI cI cZ cJ cQ a_0 a_0s a_0before a_0slots a_0isKept a_0buffer a_0cells a_0owner a_0code a_0table a_0isOver a_0isRuled a_0all a_0some a_0chosen a_0last a_0corner a_0wide a_0cuts a_0aside known_0 length_0 s1.1 s1.2.2.2.2.2.2.1 seed_0 hash_0 _ h_s16) (cwV 1 hts gX10_settle_X10_throwing rfl rfl rfl (by decide +kernel) ⟨Nat.le_of_ble_eq_true rfl, Nat.le_of_ble_eq_true rfl⟩) (wh_preV (C := RX10) (T := TX10) (N := 26) hK hN hP hD [0] rfl rfl 10 0 rfl rfl) rfl rfl hl.1 rfl (lv_room (Nat.le_of_ble_eq_true rfl)) dX10_settle_18 ⟨Nat.le_refl _, Nat.le_refl _⟩) hP hD hS hA [0] [1, 2, 3, 4, 5, 6, 7, 8, 9, 10] [10, 0, 1, 2, 3, 4, 5, 6, 7, 8, 9] rfl rfl rfl rfl (fun H locs hP hD hS => ?_)
    obtain rfl := Option.some.inj hf
    exact hret _ _ _ _ hP hD hS dX10_settle_21
set_option maxHeartbeats 4000000 in
set_option maxRecDepth 100000 in
theorem c_fM_finish (l : Launch) (dC : Nat → ClassId) (dI : Nat → Nat → Nat) (cI cZ cJ cQ : ClassId) (a_0 a_0table a_0s a_0cells a_0owner a_0code a_0last a_0chosen a_0corner a_0wide a_0before a_0slots a_0isKept a_0buffer a_0isOver a_0isRuled a_0all a_0some a_0cuts a_0aside : Nat) (length_0 : Int32) (round_0 : Int32) (seed_0 : Int64) (hash_0 : Int64) (sz : Nat) {F : Nat} {thrown_0 : Int32} {many_0 : Int32} {table_0 : Nat → Int32} {s_0 : Nat → Int32} {cells_0 : Nat → Int64} {owner_0 : Nat → Int32} {code_0 : Nat → Int32} {last_0 : Nat → Int32} {chosen_0 : Nat → Int32} {corner_0 : Nat → Int32} {wide_0 : Nat → Int32} {known_0 : Int32} {before_0 : Nat → Int32} {out : Int32 × Int32 × Int32 × (Nat → Int32) × (Nat → Int64) × (Nat → Int32) × (Nat → Int32) × (Nat → Int32) × (Nat → Int32) × (Nat → Int32) × (Nat → Int32) × (Nat → Int32) × Int32 × (Nat → Int32)} (hf : fM_finish F thrown_0 many_0 table_0 s_0 cells_0 owner_0 code_0 last_0 chosen_0 corner_0 wide_0 known_0 before_0 = some out) : Met l yX10_finish wsX10_finish ({ frames := 4, cells := 0, slots := 0, locals := 115 } : Room) (va_Pc [.ref a_0] (wlP (dC, dI) (wlT cI cZ cJ cQ) (wl_fM_finish cI cZ cJ cQ a_0 a_0table a_0s a_0cells a_0owner a_0code a_0last a_0chosen a_0corner a_0wide a_0before a_0slots a_0isKept a_0buffer a_0isOver a_0isRuled a_0all a_0some a_0cuts a_0aside known_0 length_0 thrown_0 many_0 round_0 seed_0 hash_0 table_0 s_0 cells_0 owner_0 code_0 last_0 chosen_0 corner_0 wide_0 before_0) sz)) (va_Qi (fun (v : Int32) (_ : Unit) => v = out.1) (wlQ (dC, dI) (va_A (wl_fM_finish cI cZ cJ cQ a_0 a_0table a_0s a_0cells a_0owner a_0code a_0last a_0chosen a_0corner a_0wide a_0before a_0slots a_0isKept a_0buffer a_0isOver a_0isRuled a_0all a_0some a_0cuts a_0aside known_0 length_0 thrown_0 many_0 round_0 seed_0 hash_0 table_0 s_0 cells_0 owner_0 code_0 last_0 chosen_0 corner_0 wide_0 before_0) sz) (wl_fM_finish cI cZ cJ cQ a_0 a_0table a_0s a_0cells a_0owner a_0code a_0last a_0chosen a_0corner a_0wide a_0before a_0slots a_0isKept a_0buffer a_0isOver a_0isRuled a_0all a_0some a_0cuts a_0aside out.2.2.2.2.2.2.2.2.2.2.2.2.1 length_0 out.2.1 out.2.2.1 round_0 seed_0 hash_0 out.2.2.2.1 out.2.2.2.2.2.2.2.2.2.2.2.2.2 out.2.2.2.2.1 out.2.2.2.2.2.1 out.2.2.2.2.2.2.1 out.2.2.2.2.2.2.2.1 out.2.2.2.2.2.2.2.2.1 out.2.2.2.2.2.2.2.2.2.1 out.2.2.2.2.2.2.2.2.2.2.1 out.2.2.2.2.2.2.2.2.2.2.2.1)) (va_A (wl_fM_finish cI cZ cJ cQ a_0 a_0table a_0s a_0cells a_0owner a_0code a_0last a_0chosen a_0corner a_0wide a_0before a_0slots a_0isKept a_0buffer a_0isOver a_0isRuled a_0all a_0some a_0cuts a_0aside known_0 length_0 thrown_0 many_0 round_0 seed_0 hash_0 table_0 s_0 cells_0 owner_0 code_0 last_0 chosen_0 corner_0 wide_0 before_0) sz)) 0 0 (va_A (wl_fM_finish cI cZ cJ cQ a_0 a_0table a_0s a_0cells a_0owner a_0code a_0last a_0chosen a_0corner a_0wide a_0before a_0slots a_0isKept a_0buffer a_0isOver a_0isRuled a_0all a_0some a_0cuts a_0aside known_0 length_0 thrown_0 many_0 round_0 seed_0 hash_0 table_0 s_0 cells_0 owner_0 code_0 last_0 chosen_0 corner_0 wide_0 before_0) sz) := by
  refine wh_ofWi (lv := [(0, .ref a_0)]) RX10 (by decide) rfl rfl (Nat.le_of_ble_eq_true rfl) rfl ?_
  intro p e s m below meth c A QQ hx hb hml hown hts hP hK hN hD hA hret ls hl
  have hS : va_S A s.heap s.heap [] := va_S.rf
  have hiX10 : ∀ w ∈ wsX100, w ∈ wsX10_finish := (fun _ h => List.mem_cons_of_mem _ (List.mem_append_right _ (h)))
  unfold fM_finish at hf
  refine lv_aload_n hx hb dX10_finish_0 rfl (lv_at hl 0 rfl) ?_
  refine lv_iconst (v := 0) hx hb dX10_finish_1 (by decide) ?_
  refine wh_put (D := (dC, dI)) (ci := 10) (C := RX10) (T := TX10) (N := 26) (ty := .int) (v := .int (0 : Int32)) (ws' := (wl_fM_finish cI cZ cJ cQ a_0 a_0table a_0s a_0cells a_0owner a_0code a_0last a_0chosen a_0corner a_0wide a_0before a_0slots a_0isKept a_0buffer a_0isOver a_0isRuled a_0all a_0some a_0cuts a_0aside known_0 length_0 (0 : Int32) many_0 round_0 seed_0 hash_0 table_0 s_0 cells_0 owner_0 code_0 last_0 chosen_0 corner_0 wide_0 before_0)) hx hb hts hiX10 tyX10 tyX10_ok nmX10 hown hK hP hD hS 0 rfl rfl 7 (by decide) (hts (.fieldLink RX10 69 "PaddockFieldsModel" "thrown" "I") (List.mem_cons_of_mem _ (List.mem_append_left _ (List.mem_append_left _ (List.mem_of_getElem? (i := 0) rfl))))) (fun _ h9 => h9) rfl rfl rfl rfl (Nat.le_of_ble_eq_true rfl) rfl dX10_finish_2 (fun H locs hP hD hS => ?_)
  refine lv_aload_n hx hb dX10_finish_5 rfl (lv_at hl 0 rfl) ?_
  refine lv_iconst (v := 1) hx hb dX10_finish_6 (by decide) ?_
  obtain ⟨s1, h_s1, hf⟩ := hf_bind hf
  refine wh_calli (D := (dC, dI)) (ws' := (wl_fM_finish cI cZ cJ cQ a_0 a_0table a_0s a_0cells a_0owner a_0code a_0last a_0chosen a_0corner a_0wide a_0before a_0slots a_0isKept a_0buffer a_0isOver a_0isRuled a_0all a_0some a_0cuts a_0aside known_0 length_0 (0 : Int32) s1.2.1 round_0 seed_0 hash_0 s1.2.2.1 s_0 s1.2.2.2.1 s1.2.2.2.2.1 s1.2.2.2.2.2.1 s1.2.2.2.2.2.2.1 s1.2.2.2.2.2.2.2.1 s1.2.2.2.2.2.2.2.2.1 s1.2.2.2.2.2.2.2.2.2 before_0)) (va_runV (As := [.int (1 : Int32)]) (rest := []) ⟨hx, hb, hml, hown, hts⟩ (c_fM_ways l dC dI cI cZ cJ cQ a_0 a_0table a_0s a_0cells a_0owner a_0code a_0last a_0chosen a_0corner a_0wide a_0before a_0slots a_0isKept a_0buffer a_0isOver a_0isRuled a_0all a_0some a_0cuts a_0aside known_0 length_0 (0 : Int32) round_0 seed_0 hash_0 _ h_s1) (cwV 1 hts gX10_finish_X10_ways rfl rfl rfl (by decide +kernel) ⟨Nat.le_of_ble_eq_true rfl, Nat.le_of_ble_eq_true rfl⟩) (wh_preV (C := RX10) (T := TX10) (N := 26) hK hN hP hD [0, 1, 2, 3, 4, 5, 6, 7, 8, 9] rfl rfl 10 0 rfl rfl) rfl rfl hl.1 rfl (lv_room (Nat.le_of_ble_eq_true rfl)) dX10_finish_7 ⟨Nat.le_refl _, Nat.le_refl _⟩) hP hD hS hA [0, 1, 2, 3, 4, 5, 6, 7, 8, 9] [10] [1, 2, 3, 4, 5, 6, 7, 8, 9, 10, 0] rfl rfl rfl rfl (fun H locs hP hD hS => ?_)
  refine lv_if_ne (tgt := 19) hx hb dX10_finish_10 (by decide) (fun cc => ?_) (fun cc => ?_)
  · replace hf := hf_pos cc hf
    refine lv_aload_n hx hb dX10_finish_19 rfl (lv_at hl 0 rfl) ?_
    obtain ⟨s2, h_s2, hf⟩ := hf_bind hf
    refine wh_callv (D := (dC, dI)) (ws' := (wl_fM_finish cI cZ cJ cQ a_0 a_0table a_0s a_0cells a_0owner a_0code a_0last a_0chosen a_0corner a_0wide a_0before a_0slots a_0isKept a_0buffer a_0isOver a_0isRuled a_0all a_0some a_0cuts a_0aside s2.2 length_0 (0 : Int32) s1.2.1 round_0 seed_0 hash_0 s1.2.2.1 s_0 s1.2.2.2.1 s1.2.2.2.2.1 s1.2.2.2.2.2.1 s1.2.2.2.2.2.2.1 s1.2.2.2.2.2.2.2.1 s1.2.2.2.2.2.2.2.2.1 s1.2.2.2.2.2.2.2.2.2 s2.1)) (va_runV (As := []) (rest := []) ⟨hx, hb, hml, hown, hts⟩ (c_fM_save l dC dI cI cZ cJ cQ a_0 a_0before a_0s a_0slots a_0isKept a_0buffer a_0cells a_0owner a_0code a_0table a_0isOver a_0isRuled a_0all a_0some a_0chosen a_0last a_0corner a_0wide a_0cuts a_0aside length_0 (0 : Int32) s1.2.1 round_0 seed_0 hash_0 _ h_s2) (cwV 0 hts gX10_finish_X10_save rfl rfl rfl (by decide +kernel) ⟨Nat.le_of_ble_eq_true rfl, Nat.le_of_ble_eq_true rfl⟩) (wh_preV (C := RX10) (T := TX10) (N := 26) hK hN hP hD [0, 10, 2] rfl rfl 10 0 rfl rfl) rfl rfl hl.1 rfl (lv_room (Nat.le_of_ble_eq_true rfl)) dX10_finish_20 ⟨Nat.le_refl _, Nat.le_refl _⟩) hP hD hS hA [0, 10, 2] [1, 3, 4, 5, 6, 7, 8, 9] [8, 0, 10, 1, 2, 3, 4, 5, 6, 7, 9] rfl rfl rfl rfl (fun H locs hP hD hS => ?_)
    refine lv_aload_n hx hb dX10_finish_23 rfl (lv_at hl 0 rfl) ?_
    obtain ⟨s3, h_s3, hf⟩ := hf_bind hf
    refine wh_calli (D := (dC, dI)) (ws' := (wl_fM_finish cI cZ cJ cQ a_0 a_0table a_0s a_0cells a_0owner a_0code a_0last a_0chosen a_0corner a_0wide a_0before a_0slots a_0isKept a_0buffer a_0isOver a_0isRuled a_0all a_0some a_0cuts a_0aside s2.2 length_0 (0 : Int32) s1.2.1 round_0 seed_0 hash_0 s1.2.2.1 s_0 s1.2.2.2.1 s1.2.2.2.2.1 s1.2.2.2.2.2.1 s1.2.2.2.2.2.2.1 s1.2.2.2.2.2.2.2.1 s1.2.2.2.2.2.2.2.2.1 s1.2.2.2.2.2.2.2.2.2 s2.1)) (va_runV (As := []) (rest := []) ⟨hx, hb, hml, hown, hts⟩ (c_fM_allFields l dC dI cI cZ cJ cQ a_0 a_0s a_0before a_0slots a_0isKept a_0buffer a_0cells a_0owner a_0code a_0table a_0isOver a_0isRuled a_0all a_0some a_0chosen a_0last a_0corner a_0wide a_0cuts a_0aside s2.2 length_0 (0 : Int32) s1.2.1 round_0 seed_0 hash_0 _ h_s3) (cwV 0 hts gX10_finish_X10_allFields rfl rfl rfl (by decide +kernel) ⟨Nat.le_of_ble_eq_true rfl, Nat.le_of_ble_eq_true rfl⟩) (wh_preV (C := RX10) (T := TX10) (N := 26) hK hN hP hD [0, 2] rfl rfl 10 0 rfl rfl) rfl rfl hl.1 rfl (lv_room (Nat.le_of_ble_eq_true rfl)) dX10_finish_24 ⟨Nat.le_refl _, Nat.le_refl _⟩) hP hD hS hA [0, 2] [1, 3, 4, 5, 6, 7, 8, 9, 10] [9, 0, 10, 1, 2, 3, 4, 5, 6, 7, 8] rfl rfl rfl rfl (fun H locs hP hD hS => ?_)
    refine lv_istore_n (lv' := [(1, .int s3), (0, .ref a_0)]) hx hb dX10_finish_27 rfl hl (by decide) rfl (fun ls hl => ?_)
    refine lv_iconst (v := 0) hx hb dX10_finish_28 (by decide) ?_
    refine lv_istore_n (lv' := [(2, .int (0 : Int32)), (1, .int s3), (0, .ref a_0)]) hx hb dX10_finish_29 rfl hl (by decide) rfl (fun ls hl => ?_)
    obtain ⟨r6, h_r6, hf⟩ := hf_bind hf
    have hE_1 : ∀ (H : Heap) (locs : List Loc) (ls : Array Slot), lv_has ls 3 [(0, .ref a_0), (1, .int s3)] → va_P (dC, dI) vwCl (wl_fM_finish cI cZ cJ cQ a_0 a_0table a_0s a_0cells a_0owner a_0code a_0last a_0chosen a_0corner a_0wide a_0before a_0slots a_0isKept a_0buffer a_0isOver a_0isRuled a_0all a_0some a_0cuts a_0aside s2.2 length_0 (0 : Int32) s1.2.1 round_0 seed_0 hash_0 s1.2.2.1 r6.2 s1.2.2.2.1 s1.2.2.2.2.1 s1.2.2.2.2.2.1 s1.2.2.2.2.2.2.1 s1.2.2.2.2.2.2.2.1 s1.2.2.2.2.2.2.2.2.1 s1.2.2.2.2.2.2.2.2.2 s2.1) H → va_D A (wl_fM_finish cI cZ cJ cQ a_0 a_0table a_0s a_0cells a_0owner a_0code a_0last a_0chosen a_0corner a_0wide a_0before a_0slots a_0isKept a_0buffer a_0isOver a_0isRuled a_0all a_0some a_0cuts a_0aside s2.2 length_0 (0 : Int32) s1.2.1 round_0 seed_0 hash_0 s1.2.2.1 r6.2 s1.2.2.2.1 s1.2.2.2.2.1 s1.2.2.2.2.2.1 s1.2.2.2.2.2.2.1 s1.2.2.2.2.2.2.2.1 s1.2.2.2.2.2.2.2.2.1 s1.2.2.2.2.2.2.2.2.2 s2.1) → va_S A s.heap H locs → W p l e ({ frames := 4, cells := 0, slots := 0, locals := 115 } : Room) s m [.ref a_0].toArray below meth c H locs 0 0 QQ (F0 m 59 ls []) := by
      intro H locs ls hl hP hD hS
      refine lv_aload_n hx hb dX10_finish_59 rfl (lv_at hl 0 rfl) ?_
      obtain ⟨s7, h_s7, hf⟩ := hf_bind hf
      refine wh_calli (D := (dC, dI)) (ws' := (wl_fM_finish cI cZ cJ cQ a_0 a_0table a_0s a_0cells a_0owner a_0code a_0last a_0chosen a_0corner a_0wide a_0before a_0slots a_0isKept a_0buffer a_0isOver a_0isRuled a_0all a_0some a_0cuts a_0aside s2.2 length_0 (0 : Int32) s1.2.1 round_0 seed_0 hash_0 s1.2.2.1 r6.2 s1.2.2.2.1 s1.2.2.2.2.1 s1.2.2.2.2.2.1 s1.2.2.2.2.2.2.1 s1.2.2.2.2.2.2.2.1 s1.2.2.2.2.2.2.2.2.1 s1.2.2.2.2.2.2.2.2.2 s2.1)) (va_runV (As := []) (rest := []) ⟨hx, hb, hml, hown, hts⟩ (c_fM_allFields l dC dI cI cZ cJ cQ a_0 a_0s a_0before a_0slots a_0isKept a_0buffer a_0cells a_0owner a_0code a_0table a_0isOver a_0isRuled a_0all a_0some a_0chosen a_0last a_0corner a_0wide a_0cuts a_0aside s2.2 length_0 (0 : Int32) s1.2.1 round_0 seed_0 hash_0 _ h_s7) (cwV 0 hts gX10_finish_X10_allFields rfl rfl rfl (by decide +kernel) ⟨Nat.le_of_ble_eq_true rfl, Nat.le_of_ble_eq_true rfl⟩) (wh_preV (C := RX10) (T := TX10) (N := 26) hK hN hP hD [0, 2] rfl rfl 10 0 rfl rfl) rfl rfl hl.1 rfl (lv_room (Nat.le_of_ble_eq_true rfl)) dX10_finish_60 ⟨Nat.le_refl _, Nat.le_refl _⟩) hP hD hS hA [0, 2] [1, 3, 4, 5, 6, 7, 8, 9, 10] [9, 0, 10, 1, 2, 3, 4, 5, 6, 7, 8] rfl rfl rfl rfl (fun H locs hP hD hS => ?_)
      refine lv_iload_n hx hb dX10_finish_63 rfl (lv_at hl 1 rfl) ?_
      refine lv_isub hx hb dX10_finish_64 ?_
      obtain rfl := Option.some.inj hf
      exact hret _ _ _ _ hP hD hS dX10_finish_65
    have hL_2 : ∀ (N : Nat) (l2_3 : Int32) (s_0_4 : Nat → Int32), fM_finish_L30 F s1.2.2.2.2.2.2.2.2.1 N l2_3 s_0_4 = some r6 → ∀ (H : Heap) (locs : List Loc) (ls : Array Slot), lv_has ls 3 [(0, .ref a_0), (1, .int s3), (2, .int l2_3)] → va_P (dC, dI) vwCl (wl_fM_finish cI cZ cJ cQ a_0 a_0table a_0s a_0cells a_0owner a_0code a_0last a_0chosen a_0corner a_0wide a_0before a_0slots a_0isKept a_0buffer a_0isOver a_0isRuled a_0all a_0some a_0cuts a_0aside s2.2 length_0 (0 : Int32) s1.2.1 round_0 seed_0 hash_0 s1.2.2.1 s_0_4 s1.2.2.2.1 s1.2.2.2.2.1 s1.2.2.2.2.2.1 s1.2.2.2.2.2.2.1 s1.2.2.2.2.2.2.2.1 s1.2.2.2.2.2.2.2.2.1 s1.2.2.2.2.2.2.2.2.2 s2.1) H → va_D A (wl_fM_finish cI cZ cJ cQ a_0 a_0table a_0s a_0cells a_0owner a_0code a_0last a_0chosen a_0corner a_0wide a_0before a_0slots a_0isKept a_0buffer a_0isOver a_0isRuled a_0all a_0some a_0cuts a_0aside s2.2 length_0 (0 : Int32) s1.2.1 round_0 seed_0 hash_0 s1.2.2.1 s_0_4 s1.2.2.2.1 s1.2.2.2.2.1 s1.2.2.2.2.2.1 s1.2.2.2.2.2.2.1 s1.2.2.2.2.2.2.2.1 s1.2.2.2.2.2.2.2.2.1 s1.2.2.2.2.2.2.2.2.2 s2.1) → va_S A s.heap H locs → W p l e ({ frames := 4, cells := 0, slots := 0, locals := 115 } : Room) s m [.ref a_0].toArray below meth c H locs 0 0 QQ (F0 m 30 ls []) := by
      intro N
      induction N with
      | zero => intro l2_3 s_0_4 hf; exact nomatch (show none = some _ from hf)
      | succ N ih =>
        intro l2_3 s_0_4 hf H locs ls hl hP hD hS
        rw [fM_finish_L30] at hf
        refine lv_iload_n hx hb dX10_finish_30 rfl (lv_at hl 2 rfl) ?_
        refine lv_bipush (v := 42) hx hb dX10_finish_31 (by decide) ?_
        refine lv_icmp_ge (tgt := 59) hx hb dX10_finish_33 (by decide) (fun cc => ?_) (fun cc => ?_)
        · replace hf := hf_pos cc hf
          obtain rfl := Option.some.inj hf
          exact hE_1 _ _ _ (lv_sub hl [0, 1] rfl) hP hD hS
        · replace hf := hf_neg cc hf
          refine lv_aload_n hx hb dX10_finish_36 rfl (lv_at hl 0 rfl) ?_
          refine va_get (D := (dC, dI)) (ci := 10) (C := RX10) (T := TX10) (N := 26) hx hb hts hiX10 hown hK hP 0 rfl rfl 0 (by decide) (hts (.fieldLink RX10 7 "PaddockFieldsModel" "s" "[I") (List.mem_cons_of_mem _ (List.mem_append_left _ (List.mem_append_left _ (List.mem_of_getElem? (i := 1) rfl))))) (fun _ h9 => h9) rfl dX10_finish_37 ?_
          refine lv_bipush (v := 42) hx hb dX10_finish_40 (by decide) ?_
          refine lv_iload_n hx hb dX10_finish_42 rfl (lv_at hl 2 rfl) ?_
          refine lv_iadd hx hb dX10_finish_43 ?_
          refine lv_aload_n hx hb dX10_finish_44 rfl (lv_at hl 0 rfl) ?_
          refine va_get (D := (dC, dI)) (ci := 10) (C := RX10) (T := TX10) (N := 26) hx hb hts hiX10 hown hK hP 0 rfl rfl 20 (by decide) (hts (.fieldLink RX10 57 "PaddockFieldsModel" "corner" "[I") (List.mem_cons_of_mem _ (List.mem_append_left _ (List.mem_append_left _ (List.mem_of_getElem? (i := 2) rfl))))) (fun _ h9 => h9) rfl dX10_finish_45 ?_
          refine lv_iload_n hx hb dX10_finish_48 rfl (lv_at hl 2 rfl) ?_
          obtain ⟨v4, h_v4, hf⟩ := hf_bind hf
          refine wh_ldI (D := (dC, dI)) hx hb hK hP 8 0 rfl rfl h_v4 dX10_finish_49 ?_
          refine lv_iconst (v := 1) hx hb dX10_finish_50 (by decide) ?_
          refine lv_iadd hx hb dX10_finish_51 ?_
          obtain ⟨w5, h_w5, hf⟩ := hf_bind hf
          refine wh_stI (D := (dC, dI)) (ws' := (wl_fM_finish cI cZ cJ cQ a_0 a_0table a_0s a_0cells a_0owner a_0code a_0last a_0chosen a_0corner a_0wide a_0before a_0slots a_0isKept a_0buffer a_0isOver a_0isRuled a_0all a_0some a_0cuts a_0aside s2.2 length_0 (0 : Int32) s1.2.1 round_0 seed_0 hash_0 s1.2.2.1 w5 s1.2.2.2.1 s1.2.2.2.2.1 s1.2.2.2.2.2.1 s1.2.2.2.2.2.2.1 s1.2.2.2.2.2.2.2.1 s1.2.2.2.2.2.2.2.2.1 s1.2.2.2.2.2.2.2.2.2 s2.1)) hx hb hK hP hD hS 2 0 rfl rfl rfl h_w5 dX10_finish_52 (fun H locs hP hD hS => ?_)
          refine lv_iinc (v := (l2_3 + (1 : Int32))) (lv' := [(2, .int (l2_3 + (1 : Int32))), (0, .ref a_0), (1, .int s3)]) hx hb dX10_finish_53 hl (k := 2) rfl rfl (by decide) rfl (fun ls hl => ?_)
          refine lv_goto (tgt := 30) hx hb dX10_finish_56 (by decide) ?_
          exact ih _ _ hf _ _ _ (lv_sub hl [1, 2, 0] rfl) hP hD hS
    exact hL_2 _ _ _ h_r6 _ _ _ (lv_sub hl [2, 1, 0] rfl) hP hD hS
  · replace hf := hf_neg (not_not_intro cc) hf
    refine lv_aload_n hx hb dX10_finish_13 rfl (lv_at hl 0 rfl) ?_
    refine lv_iconst (v := 1) hx hb dX10_finish_14 (by decide) ?_
    obtain ⟨s8, h_s8, hf⟩ := hf_bind hf
    refine wh_calli (D := (dC, dI)) (ws' := (wl_fM_finish cI cZ cJ cQ a_0 a_0table a_0s a_0cells a_0owner a_0code a_0last a_0chosen a_0corner a_0wide a_0before a_0slots a_0isKept a_0buffer a_0isOver a_0isRuled a_0all a_0some a_0cuts a_0aside known_0 length_0 s8.2 s1.2.1 round_0 seed_0 hash_0 s1.2.2.1 s_0 s1.2.2.2.1 s1.2.2.2.2.1 s1.2.2.2.2.2.1 s1.2.2.2.2.2.2.1 s1.2.2.2.2.2.2.2.1 s1.2.2.2.2.2.2.2.2.1 s1.2.2.2.2.2.2.2.2.2 before_0)) (va_runV (As := [.int (1 : Int32)]) (rest := []) ⟨hx, hb, hml, hown, hts⟩ (c_fM_throwing l dC dI cI cZ cJ cQ a_0 a_0s a_0before a_0slots a_0isKept a_0buffer a_0cells a_0owner a_0code a_0table a_0isOver a_0isRuled a_0all a_0some a_0chosen a_0last a_0corner a_0wide a_0cuts a_0aside known_0 length_0 s1.2.1 round_0 seed_0 hash_0 _ h_s8) (cwV 1 hts gX10_finish_X10_throwing rfl rfl rfl (by decide +kernel) ⟨Nat.le_of_ble_eq_true rfl, Nat.le_of_ble_eq_true rfl⟩) (wh_preV (C := RX10) (T := TX10) (N := 26) hK hN hP hD [0] rfl rfl 10 0 rfl rfl) rfl rfl hl.1 rfl (lv_room (Nat.le_of_ble_eq_true rfl)) dX10_finish_15 ⟨Nat.le_refl _, Nat.le_refl _⟩) hP hD hS hA [0] [1, 2, 3, 4, 5, 6, 7, 8, 9, 10] [10, 0, 1, 2, 3, 4, 5, 6, 7, 8, 9] rfl rfl rfl rfl (fun H locs hP hD hS => ?_)
    obtain rfl := Option.some.inj hf
    exact hret _ _ _ _ hP hD hS dX10_finish_18
set_option maxHeartbeats 4000000 in
set_option maxRecDepth 100000 in
theorem c_fM_append (l : Launch) (dC : Nat → ClassId) (dI : Nat → Nat → Nat) (cI cZ cJ cQ : ClassId) (a_0 a_0buffer a_0s a_0before a_0slots a_0isKept a_0cells a_0owner a_0code a_0table a_0isOver a_0isRuled a_0all a_0some a_0chosen a_0last a_0corner a_0wide a_0cuts a_0aside : Nat) (known_0 : Int32) (many_0 : Int32) (round_0 : Int32) (seed_0 : Int64) (hash_0 : Int64) (sz : Nat) {x1 : Int32} {thrown_0 : Int32} {length_0 : Int32} {buffer_0 : Nat → Int32} {out : Int32 × Int32 × (Nat → Int32) × Int32} (hf : fM_append x1 thrown_0 length_0 buffer_0 = some out) : Met l yX10_append wsX10_append ({ frames := 1, cells := 0, slots := 0, locals := 22 } : Room) (va_Pc [.ref a_0, .int x1] (wlP (dC, dI) (wlT cI cZ cJ cQ) (wl_fM_append cI cZ cJ cQ a_0 a_0buffer a_0s a_0before a_0slots a_0isKept a_0cells a_0owner a_0code a_0table a_0isOver a_0isRuled a_0all a_0some a_0chosen a_0last a_0corner a_0wide a_0cuts a_0aside known_0 length_0 thrown_0 many_0 round_0 seed_0 hash_0 buffer_0) sz)) (va_Qi (fun (v : Int32) (_ : Unit) => v = out.1) (wlQ (dC, dI) (va_A (wl_fM_append cI cZ cJ cQ a_0 a_0buffer a_0s a_0before a_0slots a_0isKept a_0cells a_0owner a_0code a_0table a_0isOver a_0isRuled a_0all a_0some a_0chosen a_0last a_0corner a_0wide a_0cuts a_0aside known_0 length_0 thrown_0 many_0 round_0 seed_0 hash_0 buffer_0) sz) (wl_fM_append cI cZ cJ cQ a_0 a_0buffer a_0s a_0before a_0slots a_0isKept a_0cells a_0owner a_0code a_0table a_0isOver a_0isRuled a_0all a_0some a_0chosen a_0last a_0corner a_0wide a_0cuts a_0aside known_0 out.2.2.2 out.2.1 many_0 round_0 seed_0 hash_0 out.2.2.1)) (va_A (wl_fM_append cI cZ cJ cQ a_0 a_0buffer a_0s a_0before a_0slots a_0isKept a_0cells a_0owner a_0code a_0table a_0isOver a_0isRuled a_0all a_0some a_0chosen a_0last a_0corner a_0wide a_0cuts a_0aside known_0 length_0 thrown_0 many_0 round_0 seed_0 hash_0 buffer_0) sz)) 0 0 (va_A (wl_fM_append cI cZ cJ cQ a_0 a_0buffer a_0s a_0before a_0slots a_0isKept a_0cells a_0owner a_0code a_0table a_0isOver a_0isRuled a_0all a_0some a_0chosen a_0last a_0corner a_0wide a_0cuts a_0aside known_0 length_0 thrown_0 many_0 round_0 seed_0 hash_0 buffer_0) sz) := by
  refine wh_ofWi (lv := [(0, .ref a_0), (1, .int x1)]) RX10 (by decide) rfl rfl (Nat.le_of_ble_eq_true rfl) rfl ?_
  intro p e s m below meth c A QQ hx hb hml hown hts hP hK hN hD hA hret ls hl
  have hS : va_S A s.heap s.heap [] := va_S.rf
  have hiX10 : ∀ w ∈ wsX100, w ∈ wsX10_append := (fun _ h => List.mem_cons_of_mem _ (List.mem_append_right _ (h)))
  unfold fM_append at hf
  refine lv_aload_n hx hb dX10_append_0 rfl (lv_at hl 0 rfl) ?_
  refine lv_iconst (v := 0) hx hb dX10_append_1 (by decide) ?_
  refine wh_put (D := (dC, dI)) (ci := 10) (C := RX10) (T := TX10) (N := 26) (ty := .int) (v := .int (0 : Int32)) (ws' := (wl_fM_append cI cZ cJ cQ a_0 a_0buffer a_0s a_0before a_0slots a_0isKept a_0cells a_0owner a_0code a_0table a_0isOver a_0isRuled a_0all a_0some a_0chosen a_0last a_0corner a_0wide a_0cuts a_0aside known_0 length_0 (0 : Int32) many_0 round_0 seed_0 hash_0 buffer_0)) hx hb hts hiX10 tyX10 tyX10_ok nmX10 hown hK hP hD hS 0 rfl rfl 7 (by decide) (hts (.fieldLink RX10 69 "PaddockFieldsModel" "thrown" "I") (List.mem_cons_of_mem _ (List.mem_append_left _ (List.mem_of_getElem? (i := 0) rfl)))) (fun _ h9 => h9) rfl rfl rfl rfl (Nat.le_of_ble_eq_true rfl) rfl dX10_append_2 (fun H locs hP hD hS => ?_)
  refine lv_iload_n hx hb dX10_append_5 rfl (lv_at hl 1 rfl) ?_
  refine lv_bipush (v := 33) hx hb dX10_append_6 (by decide) ?_
  refine lv_bipush (v := 126) hx hb dX10_append_8 (by decide) ?_
  obtain ⟨s1, h_s1, hf⟩ := hf_bind hf
  refine wh_calli (D := (dC, dI)) (ws' := (wl_fM_append cI cZ cJ cQ a_0 a_0buffer a_0s a_0before a_0slots a_0isKept a_0cells a_0owner a_0code a_0table a_0isOver a_0isRuled a_0all a_0some a_0chosen a_0last a_0corner a_0wide a_0cuts a_0aside known_0 length_0 (0 : Int32) many_0 round_0 seed_0 hash_0 buffer_0)) (va_runS (As := [.int x1, .int (33 : Int32), .int (126 : Int32)]) (rest := []) ⟨hx, hb, hml, hown, hts⟩ (c_fM_in l dC dI cI cZ cJ cQ _ h_s1) (va_cwS 3 hts gX10_append_X10_in rfl rfl rfl (by decide +kernel) ⟨Nat.le_of_ble_eq_true rfl, Nat.le_of_ble_eq_true rfl⟩) (wh_preS hK hN hP hD [] rfl rfl) rfl rfl hl.1 rfl (lv_room (Nat.le_of_ble_eq_true rfl)) dX10_append_10 ⟨Nat.le_refl _, Nat.le_refl _⟩) hP hD hS hA [] [0, 1] [0, 1] rfl rfl rfl rfl (fun H locs hP hD hS => ?_)
  refine lv_if_ne (tgt := 22) hx hb dX10_append_13 (by decide) (fun cc => ?_) (fun cc => ?_)
  · replace hf := hf_pos cc hf
    refine lv_aload_n hx hb dX10_append_22 rfl (lv_at hl 0 rfl) ?_
    refine va_get (D := (dC, dI)) (ci := 10) (C := RX10) (T := TX10) (N := 26) hx hb hts hiX10 hown hK hP 0 rfl rfl 6 (by decide) (hts (.fieldLink RX10 205 "PaddockFieldsModel" "length" "I") (List.mem_cons_of_mem _ (List.mem_append_left _ (List.mem_of_getElem? (i := 1) rfl)))) (fun _ h9 => h9) rfl dX10_append_23 ?_
    refine lv_bipush (v := 60) hx hb dX10_append_26 (by decide) ?_
    refine lv_icmp_ne (tgt := 37) hx hb dX10_append_28 (by decide) (fun cc => ?_) (fun cc => ?_)
    · replace hf := hf_pos cc hf
      refine lv_aload_n hx hb dX10_append_37 rfl (lv_at hl 0 rfl) ?_
      refine va_get (D := (dC, dI)) (ci := 10) (C := RX10) (T := TX10) (N := 26) hx hb hts hiX10 hown hK hP 0 rfl rfl 5 (by decide) (hts (.fieldLink RX10 23 "PaddockFieldsModel" "buffer" "[I") (List.mem_cons_of_mem _ (List.mem_append_left _ (List.mem_of_getElem? (i := 2) rfl)))) (fun _ h9 => h9) rfl dX10_append_38 ?_
      refine lv_aload_n hx hb dX10_append_41 rfl (lv_at hl 0 rfl) ?_
      refine va_get (D := (dC, dI)) (ci := 10) (C := RX10) (T := TX10) (N := 26) hx hb hts hiX10 hown hK hP 0 rfl rfl 6 (by decide) (hts (.fieldLink RX10 205 "PaddockFieldsModel" "length" "I") (List.mem_cons_of_mem _ (List.mem_append_left _ (List.mem_of_getElem? (i := 1) rfl)))) (fun _ h9 => h9) rfl dX10_append_42 ?_
      refine lv_iload_n hx hb dX10_append_45 rfl (lv_at hl 1 rfl) ?_
      obtain ⟨w2, h_w2, hf⟩ := hf_bind hf
      refine wh_stI (D := (dC, dI)) (ws' := (wl_fM_append cI cZ cJ cQ a_0 a_0buffer a_0s a_0before a_0slots a_0isKept a_0cells a_0owner a_0code a_0table a_0isOver a_0isRuled a_0all a_0some a_0chosen a_0last a_0corner a_0wide a_0cuts a_0aside known_0 length_0 (0 : Int32) many_0 round_0 seed_0 hash_0 w2)) hx hb hK hP hD hS 1 0 rfl rfl rfl h_w2 dX10_append_46 (fun H locs hP hD hS => ?_)
      refine lv_aload_n hx hb dX10_append_47 rfl (lv_at hl 0 rfl) ?_
      refine lv_dup hx hb dX10_append_48 rfl ?_
      refine va_get (D := (dC, dI)) (ci := 10) (C := RX10) (T := TX10) (N := 26) hx hb hts hiX10 hown hK hP 0 rfl rfl 6 (by decide) (hts (.fieldLink RX10 205 "PaddockFieldsModel" "length" "I") (List.mem_cons_of_mem _ (List.mem_append_left _ (List.mem_of_getElem? (i := 1) rfl)))) (fun _ h9 => h9) rfl dX10_append_49 ?_
      refine lv_iconst (v := 1) hx hb dX10_append_52 (by decide) ?_
      refine lv_iadd hx hb dX10_append_53 ?_
      refine wh_put (D := (dC, dI)) (ci := 10) (C := RX10) (T := TX10) (N := 26) (ty := .int) (v := .int (length_0 + (1 : Int32))) (ws' := (wl_fM_append cI cZ cJ cQ a_0 a_0buffer a_0s a_0before a_0slots a_0isKept a_0cells a_0owner a_0code a_0table a_0isOver a_0isRuled a_0all a_0some a_0chosen a_0last a_0corner a_0wide a_0cuts a_0aside known_0 (length_0 + (1 : Int32)) (0 : Int32) many_0 round_0 seed_0 hash_0 w2)) hx hb hts hiX10 tyX10 tyX10_ok nmX10 hown hK hP hD hS 0 rfl rfl 6 (by decide) (hts (.fieldLink RX10 205 "PaddockFieldsModel" "length" "I") (List.mem_cons_of_mem _ (List.mem_append_left _ (List.mem_of_getElem? (i := 1) rfl)))) (fun _ h9 => h9) rfl rfl rfl rfl (Nat.le_of_ble_eq_true rfl) rfl dX10_append_54 (fun H locs hP hD hS => ?_)
      refine lv_aload_n hx hb dX10_append_57 rfl (lv_at hl 0 rfl) ?_
      refine va_get (D := (dC, dI)) (ci := 10) (C := RX10) (T := TX10) (N := 26) hx hb hts hiX10 hown hK hP 0 rfl rfl 6 (by decide) (hts (.fieldLink RX10 205 "PaddockFieldsModel" "length" "I") (List.mem_cons_of_mem _ (List.mem_append_left _ (List.mem_of_getElem? (i := 1) rfl)))) (fun _ h9 => h9) rfl dX10_append_58 ?_
      obtain rfl := Option.some.inj hf
      exact hret _ _ _ _ hP hD hS dX10_append_61
    · replace hf := hf_neg (not_not_intro cc) hf
      refine lv_aload_n hx hb dX10_append_31 rfl (lv_at hl 0 rfl) ?_
      refine lv_iconst (v := 2) hx hb dX10_append_32 (by decide) ?_
      obtain ⟨s3, h_s3, hf⟩ := hf_bind hf
      refine wh_calli (D := (dC, dI)) (ws' := (wl_fM_append cI cZ cJ cQ a_0 a_0buffer a_0s a_0before a_0slots a_0isKept a_0cells a_0owner a_0code a_0table a_0isOver a_0isRuled a_0all a_0some a_0chosen a_0last a_0corner a_0wide a_0cuts a_0aside known_0 length_0 s3.2 many_0 round_0 seed_0 hash_0 buffer_0)) (va_runV (As := [.int (2 : Int32)]) (rest := []) ⟨hx, hb, hml, hown, hts⟩ (c_fM_throwing l dC dI cI cZ cJ cQ a_0 a_0s a_0before a_0slots a_0isKept a_0buffer a_0cells a_0owner a_0code a_0table a_0isOver a_0isRuled a_0all a_0some a_0chosen a_0last a_0corner a_0wide a_0cuts a_0aside known_0 length_0 many_0 round_0 seed_0 hash_0 _ h_s3) (cwV 1 hts gX10_append_X10_throwing rfl rfl rfl (by decide +kernel) ⟨Nat.le_of_ble_eq_true rfl, Nat.le_of_ble_eq_true rfl⟩) (wh_preV (C := RX10) (T := TX10) (N := 26) hK hN hP hD [0] rfl rfl 10 0 rfl rfl) rfl rfl hl.1 rfl (lv_room (Nat.le_of_ble_eq_true rfl)) dX10_append_33 ⟨Nat.le_refl _, Nat.le_refl _⟩) hP hD hS hA [0] [1] [1, 0] rfl rfl rfl rfl (fun H locs hP hD hS => ?_)
      obtain rfl := Option.some.inj hf
      exact hret _ _ _ _ hP hD hS dX10_append_36
  · replace hf := hf_neg (not_not_intro cc) hf
    refine lv_aload_n hx hb dX10_append_16 rfl (lv_at hl 0 rfl) ?_
    refine lv_iconst (v := 1) hx hb dX10_append_17 (by decide) ?_
    obtain ⟨s4, h_s4, hf⟩ := hf_bind hf
    refine wh_calli (D := (dC, dI)) (ws' := (wl_fM_append cI cZ cJ cQ a_0 a_0buffer a_0s a_0before a_0slots a_0isKept a_0cells a_0owner a_0code a_0table a_0isOver a_0isRuled a_0all a_0some a_0chosen a_0last a_0corner a_0wide a_0cuts a_0aside known_0 length_0 s4.2 many_0 round_0 seed_0 hash_0 buffer_0)) (va_runV (As := [.int (1 : Int32)]) (rest := []) ⟨hx, hb, hml, hown, hts⟩ (c_fM_throwing l dC dI cI cZ cJ cQ a_0 a_0s a_0before a_0slots a_0isKept a_0buffer a_0cells a_0owner a_0code a_0table a_0isOver a_0isRuled a_0all a_0some a_0chosen a_0last a_0corner a_0wide a_0cuts a_0aside known_0 length_0 many_0 round_0 seed_0 hash_0 _ h_s4) (cwV 1 hts gX10_append_X10_throwing rfl rfl rfl (by decide +kernel) ⟨Nat.le_of_ble_eq_true rfl, Nat.le_of_ble_eq_true rfl⟩) (wh_preV (C := RX10) (T := TX10) (N := 26) hK hN hP hD [0] rfl rfl 10 0 rfl rfl) rfl rfl hl.1 rfl (lv_room (Nat.le_of_ble_eq_true rfl)) dX10_append_18 ⟨Nat.le_refl _, Nat.le_refl _⟩) hP hD hS hA [0] [1] [1, 0] rfl rfl rfl rfl (fun H locs hP hD hS => ?_)
    obtain rfl := Option.some.inj hf
    exact hret _ _ _ _ hP hD hS dX10_append_21
set_option maxHeartbeats 4000000 in
set_option maxRecDepth 100000 in
theorem c_fM_clearBuffer (l : Launch) (dC : Nat → ClassId) (dI : Nat → Nat → Nat) (cI cZ cJ cQ : ClassId) (a_0 a_0s a_0before a_0slots a_0isKept a_0buffer a_0cells a_0owner a_0code a_0table a_0isOver a_0isRuled a_0all a_0some a_0chosen a_0last a_0corner a_0wide a_0cuts a_0aside : Nat) (known_0 : Int32) (many_0 : Int32) (round_0 : Int32) (seed_0 : Int64) (hash_0 : Int64) (sz : Nat) {thrown_0 : Int32} {length_0 : Int32} {out : Int32 × Int32 × Int32} (hf : fM_clearBuffer thrown_0 length_0 = some out) : Met l yX10_clearBuffer wsX10_clearBuffer ({ frames := 0, cells := 0, slots := 0, locals := 0 } : Room) (va_Pc [.ref a_0] (wlP (dC, dI) (wlT cI cZ cJ cQ) (wl_fM_clearBuffer cI cZ cJ cQ a_0 a_0s a_0before a_0slots a_0isKept a_0buffer a_0cells a_0owner a_0code a_0table a_0isOver a_0isRuled a_0all a_0some a_0chosen a_0last a_0corner a_0wide a_0cuts a_0aside known_0 length_0 thrown_0 many_0 round_0 seed_0 hash_0) sz)) (va_Qi (fun (v : Int32) (_ : Unit) => v = out.1) (wlQ (dC, dI) (va_A (wl_fM_clearBuffer cI cZ cJ cQ a_0 a_0s a_0before a_0slots a_0isKept a_0buffer a_0cells a_0owner a_0code a_0table a_0isOver a_0isRuled a_0all a_0some a_0chosen a_0last a_0corner a_0wide a_0cuts a_0aside known_0 length_0 thrown_0 many_0 round_0 seed_0 hash_0) sz) (wl_fM_clearBuffer cI cZ cJ cQ a_0 a_0s a_0before a_0slots a_0isKept a_0buffer a_0cells a_0owner a_0code a_0table a_0isOver a_0isRuled a_0all a_0some a_0chosen a_0last a_0corner a_0wide a_0cuts a_0aside known_0 out.2.2 out.2.1 many_0 round_0 seed_0 hash_0)) (va_A (wl_fM_clearBuffer cI cZ cJ cQ a_0 a_0s a_0before a_0slots a_0isKept a_0buffer a_0cells a_0owner a_0code a_0table a_0isOver a_0isRuled a_0all a_0some a_0chosen a_0last a_0corner a_0wide a_0cuts a_0aside known_0 length_0 thrown_0 many_0 round_0 seed_0 hash_0) sz)) 0 0 (va_A (wl_fM_clearBuffer cI cZ cJ cQ a_0 a_0s a_0before a_0slots a_0isKept a_0buffer a_0cells a_0owner a_0code a_0table a_0isOver a_0isRuled a_0all a_0some a_0chosen a_0last a_0corner a_0wide a_0cuts a_0aside known_0 length_0 thrown_0 many_0 round_0 seed_0 hash_0) sz) := by
  refine wh_ofWi (lv := [(0, .ref a_0)]) RX10 (by decide) rfl rfl (Nat.le_of_ble_eq_true rfl) rfl ?_
  intro p e s m below meth c A QQ hx hb hml hown hts hP hK hN hD hA hret ls hl
  have hS : va_S A s.heap s.heap [] := va_S.rf
  have hiX10 : ∀ w ∈ wsX100, w ∈ wsX10_clearBuffer := (fun _ h => List.mem_cons_of_mem _ (List.mem_append_right _ (h)))
  unfold fM_clearBuffer at hf
  refine lv_aload_n hx hb dX10_clearBuffer_0 rfl (lv_at hl 0 rfl) ?_
  refine lv_iconst (v := 0) hx hb dX10_clearBuffer_1 (by decide) ?_
  refine wh_put (D := (dC, dI)) (ci := 10) (C := RX10) (T := TX10) (N := 26) (ty := .int) (v := .int (0 : Int32)) (ws' := (wl_fM_clearBuffer cI cZ cJ cQ a_0 a_0s a_0before a_0slots a_0isKept a_0buffer a_0cells a_0owner a_0code a_0table a_0isOver a_0isRuled a_0all a_0some a_0chosen a_0last a_0corner a_0wide a_0cuts a_0aside known_0 length_0 (0 : Int32) many_0 round_0 seed_0 hash_0)) hx hb hts hiX10 tyX10 tyX10_ok nmX10 hown hK hP hD hS 0 rfl rfl 7 (by decide) (hts (.fieldLink RX10 69 "PaddockFieldsModel" "thrown" "I") (List.mem_cons_of_mem _ (List.mem_append_left _ (List.mem_of_getElem? (i := 0) rfl)))) (fun _ h9 => h9) rfl rfl rfl rfl (Nat.le_of_ble_eq_true rfl) rfl dX10_clearBuffer_2 (fun H locs hP hD hS => ?_)
  refine lv_aload_n hx hb dX10_clearBuffer_5 rfl (lv_at hl 0 rfl) ?_
  refine va_get (D := (dC, dI)) (ci := 10) (C := RX10) (T := TX10) (N := 26) hx hb hts hiX10 hown hK hP 0 rfl rfl 6 (by decide) (hts (.fieldLink RX10 205 "PaddockFieldsModel" "length" "I") (List.mem_cons_of_mem _ (List.mem_append_left _ (List.mem_of_getElem? (i := 1) rfl)))) (fun _ h9 => h9) rfl dX10_clearBuffer_6 ?_
  refine lv_istore_n (lv' := [(1, .int length_0), (0, .ref a_0)]) hx hb dX10_clearBuffer_9 rfl hl (by decide) rfl (fun ls hl => ?_)
  refine lv_aload_n hx hb dX10_clearBuffer_10 rfl (lv_at hl 1 rfl) ?_
  refine lv_iconst (v := 0) hx hb dX10_clearBuffer_11 (by decide) ?_
  refine wh_put (D := (dC, dI)) (ci := 10) (C := RX10) (T := TX10) (N := 26) (ty := .int) (v := .int (0 : Int32)) (ws' := (wl_fM_clearBuffer cI cZ cJ cQ a_0 a_0s a_0before a_0slots a_0isKept a_0buffer a_0cells a_0owner a_0code a_0table a_0isOver a_0isRuled a_0all a_0some a_0chosen a_0last a_0corner a_0wide a_0cuts a_0aside known_0 (0 : Int32) (0 : Int32) many_0 round_0 seed_0 hash_0)) hx hb hts hiX10 tyX10 tyX10_ok nmX10 hown hK hP hD hS 0 rfl rfl 6 (by decide) (hts (.fieldLink RX10 205 "PaddockFieldsModel" "length" "I") (List.mem_cons_of_mem _ (List.mem_append_left _ (List.mem_of_getElem? (i := 1) rfl)))) (fun _ h9 => h9) rfl rfl rfl rfl (Nat.le_of_ble_eq_true rfl) rfl dX10_clearBuffer_12 (fun H locs hP hD hS => ?_)
  refine lv_iload_n hx hb dX10_clearBuffer_15 rfl (lv_at hl 0 rfl) ?_
  obtain rfl := Option.some.inj hf
  exact hret _ _ _ _ hP hD hS dX10_clearBuffer_16
set_option maxHeartbeats 4000000 in
set_option maxRecDepth 100000 in
theorem c_fM_error (l : Launch) (dC : Nat → ClassId) (dI : Nat → Nat → Nat) (cI cZ cJ cQ : ClassId) (a_0 a_0buffer a_0s a_0before a_0slots a_0isKept a_0cells a_0owner a_0code a_0table a_0isOver a_0isRuled a_0all a_0some a_0chosen a_0last a_0corner a_0wide a_0cuts a_0aside : Nat) (known_0 : Int32) (thrown_0 : Int32) (many_0 : Int32) (round_0 : Int32) (seed_0 : Int64) (hash_0 : Int64) (sz : Nat) {F : Nat} {length_0 : Int32} {buffer_0 : Nat → Int32} {out : Int32} (hf : fM_error F length_0 buffer_0 = some out) : Met l yX10_error wsX10_error ({ frames := 1, cells := 0, slots := 0, locals := 22 } : Room) (va_Pc [.ref a_0] (wlP (dC, dI) (wlT cI cZ cJ cQ) (wl_fM_error cI cZ cJ cQ a_0 a_0buffer a_0s a_0before a_0slots a_0isKept a_0cells a_0owner a_0code a_0table a_0isOver a_0isRuled a_0all a_0some a_0chosen a_0last a_0corner a_0wide a_0cuts a_0aside known_0 length_0 thrown_0 many_0 round_0 seed_0 hash_0 buffer_0) sz)) (va_Qi (fun (v : Int32) (_ : Unit) => v = out) (wlQ (dC, dI) (va_A (wl_fM_error cI cZ cJ cQ a_0 a_0buffer a_0s a_0before a_0slots a_0isKept a_0cells a_0owner a_0code a_0table a_0isOver a_0isRuled a_0all a_0some a_0chosen a_0last a_0corner a_0wide a_0cuts a_0aside known_0 length_0 thrown_0 many_0 round_0 seed_0 hash_0 buffer_0) sz) (wl_fM_error cI cZ cJ cQ a_0 a_0buffer a_0s a_0before a_0slots a_0isKept a_0cells a_0owner a_0code a_0table a_0isOver a_0isRuled a_0all a_0some a_0chosen a_0last a_0corner a_0wide a_0cuts a_0aside known_0 length_0 thrown_0 many_0 round_0 seed_0 hash_0 buffer_0)) (va_A (wl_fM_error cI cZ cJ cQ a_0 a_0buffer a_0s a_0before a_0slots a_0isKept a_0cells a_0owner a_0code a_0table a_0isOver a_0isRuled a_0all a_0some a_0chosen a_0last a_0corner a_0wide a_0cuts a_0aside known_0 length_0 thrown_0 many_0 round_0 seed_0 hash_0 buffer_0) sz)) 0 0 (va_A (wl_fM_error cI cZ cJ cQ a_0 a_0buffer a_0s a_0before a_0slots a_0isKept a_0cells a_0owner a_0code a_0table a_0isOver a_0isRuled a_0all a_0some a_0chosen a_0last a_0corner a_0wide a_0cuts a_0aside known_0 length_0 thrown_0 many_0 round_0 seed_0 hash_0 buffer_0) sz) := by
  refine wh_ofWi (lv := [(0, .ref a_0)]) RX10 (by decide) rfl rfl (Nat.le_of_ble_eq_true rfl) rfl ?_
  intro p e s m below meth c A QQ hx hb hml hown hts hP hK hN hD hA hret ls hl
  have hS : va_S A s.heap s.heap [] := va_S.rf
  have hiX10 : ∀ w ∈ wsX100, w ∈ wsX10_error := (fun _ h => List.mem_cons_of_mem _ (List.mem_append_right _ (h)))
  unfold fM_error at hf
  refine lv_iconst (v := 0) hx hb dX10_error_0 (by decide) ?_
  refine lv_istore_n (lv' := [(1, .int (0 : Int32)), (0, .ref a_0)]) hx hb dX10_error_1 rfl hl (by decide) rfl (fun ls hl => ?_)
  have hL_1 : ∀ (N : Nat) (l1_2 : Int32), fM_error_L2 F length_0 buffer_0 N l1_2 = some out → ∀ (H : Heap) (locs : List Loc) (ls : Array Slot), lv_has ls 4 [(0, .ref a_0), (1, .int l1_2)] → va_P (dC, dI) vwCl (wl_fM_error cI cZ cJ cQ a_0 a_0buffer a_0s a_0before a_0slots a_0isKept a_0cells a_0owner a_0code a_0table a_0isOver a_0isRuled a_0all a_0some a_0chosen a_0last a_0corner a_0wide a_0cuts a_0aside known_0 length_0 thrown_0 many_0 round_0 seed_0 hash_0 buffer_0) H → va_D A (wl_fM_error cI cZ cJ cQ a_0 a_0buffer a_0s a_0before a_0slots a_0isKept a_0cells a_0owner a_0code a_0table a_0isOver a_0isRuled a_0all a_0some a_0chosen a_0last a_0corner a_0wide a_0cuts a_0aside known_0 length_0 thrown_0 many_0 round_0 seed_0 hash_0 buffer_0) → va_S A s.heap H locs → W p l e ({ frames := 1, cells := 0, slots := 0, locals := 22 } : Room) s m [.ref a_0].toArray below meth c H locs 0 0 QQ (F0 m 2 ls []) := by
    intro N
    induction N with
    | zero => intro l1_2 hf; exact nomatch (show none = some _ from hf)
    | succ N ih =>
      intro l1_2 hf H locs ls hl hP hD hS
      rw [fM_error_L2] at hf
      refine lv_iload_n hx hb dX10_error_2 rfl (lv_at hl 1 rfl) ?_
      refine lv_aload_n hx hb dX10_error_3 rfl (lv_at hl 0 rfl) ?_
      refine va_get (D := (dC, dI)) (ci := 10) (C := RX10) (T := TX10) (N := 26) hx hb hts hiX10 hown hK hP 0 rfl rfl 6 (by decide) (hts (.fieldLink RX10 205 "PaddockFieldsModel" "length" "I") (List.mem_cons_of_mem _ (List.mem_append_left _ (List.mem_of_getElem? (i := 0) rfl)))) (fun _ h9 => h9) rfl dX10_error_4 ?_
      refine lv_icmp_ge (tgt := 69) hx hb dX10_error_7 (by decide) (fun cc => ?_) (fun cc => ?_)
      · replace hf := hf_pos cc hf
        refine lv_aload_n hx hb dX10_error_69 rfl (lv_at hl 0 rfl) ?_
        refine va_get (D := (dC, dI)) (ci := 10) (C := RX10) (T := TX10) (N := 26) hx hb hts hiX10 hown hK hP 0 rfl rfl 6 (by decide) (hts (.fieldLink RX10 205 "PaddockFieldsModel" "length" "I") (List.mem_cons_of_mem _ (List.mem_append_left _ (List.mem_of_getElem? (i := 0) rfl)))) (fun _ h9 => h9) rfl dX10_error_70 ?_
        obtain rfl := Option.some.inj hf
        exact hret _ _ _ _ hP hD hS dX10_error_73
      · replace hf := hf_neg cc hf
        refine lv_aload_n hx hb dX10_error_10 rfl (lv_at hl 0 rfl) ?_
        refine va_get (D := (dC, dI)) (ci := 10) (C := RX10) (T := TX10) (N := 26) hx hb hts hiX10 hown hK hP 0 rfl rfl 5 (by decide) (hts (.fieldLink RX10 23 "PaddockFieldsModel" "buffer" "[I") (List.mem_cons_of_mem _ (List.mem_append_left _ (List.mem_of_getElem? (i := 1) rfl)))) (fun _ h9 => h9) rfl dX10_error_11 ?_
        refine lv_iload_n hx hb dX10_error_14 rfl (lv_at hl 1 rfl) ?_
        obtain ⟨v1, h_v1, hf⟩ := hf_bind hf
        refine wh_ldI (D := (dC, dI)) hx hb hK hP 1 0 rfl rfl h_v1 dX10_error_15 ?_
        refine lv_istore_n (lv' := [(2, .int v1), (0, .ref a_0), (1, .int l1_2)]) hx hb dX10_error_16 rfl hl (by decide) rfl (fun ls hl => ?_)
        refine lv_iload_n hx hb dX10_error_17 rfl (lv_at hl 0 rfl) ?_
        refine lv_bipush (v := 46) hx hb dX10_error_18 (by decide) ?_
        obtain ⟨j4, h_j4, hf⟩ := hf_bind hf
        have hJ_3 : ∀ (H : Heap) (locs : List Loc) (ls : Array Slot), lv_has ls 4 [(0, .ref a_0), (1, .int l1_2)] → va_P (dC, dI) vwCl (wl_fM_error cI cZ cJ cQ a_0 a_0buffer a_0s a_0before a_0slots a_0isKept a_0cells a_0owner a_0code a_0table a_0isOver a_0isRuled a_0all a_0some a_0chosen a_0last a_0corner a_0wide a_0cuts a_0aside known_0 length_0 thrown_0 many_0 round_0 seed_0 hash_0 buffer_0) H → va_D A (wl_fM_error cI cZ cJ cQ a_0 a_0buffer a_0s a_0before a_0slots a_0isKept a_0cells a_0owner a_0code a_0table a_0isOver a_0isRuled a_0all a_0some a_0chosen a_0last a_0corner a_0wide a_0cuts a_0aside known_0 length_0 thrown_0 many_0 round_0 seed_0 hash_0 buffer_0) → va_S A s.heap H locs → W p l e ({ frames := 1, cells := 0, slots := 0, locals := 22 } : Room) s m [.ref a_0].toArray below meth c H locs 0 0 QQ (F0 m 50 ls [.int j4]) := by
          intro H locs ls hl hP hD hS
          refine lv_istore_n (lv' := [(3, .int j4), (0, .ref a_0), (1, .int l1_2)]) hx hb dX10_error_50 rfl hl (by decide) rfl (fun ls hl => ?_)
          refine lv_iload_n hx hb dX10_error_51 rfl (lv_at hl 0 rfl) ?_
          refine lv_if_eq (tgt := 61) hx hb dX10_error_52 (by decide) (fun cc => ?_) (fun cc => ?_)
          · replace hf := hf_pos cc hf
            refine lv_iload_n hx hb dX10_error_61 rfl (lv_at hl 2 rfl) ?_
            obtain rfl := Option.some.inj hf
            exact hret _ _ _ _ hP hD hS dX10_error_62
          · replace hf := hf_neg cc hf
            refine lv_iload_n hx hb dX10_error_55 rfl (lv_at hl 2 rfl) ?_
            refine lv_bipush (v := 7) hx hb dX10_error_56 (by decide) ?_
            refine lv_icmp_ne (tgt := 63) hx hb dX10_error_58 (by decide) (fun cc => ?_) (fun cc => ?_)
            · replace hf := hf_pos cc hf
              refine lv_iinc (v := (l1_2 + (1 : Int32))) (lv' := [(1, .int (l1_2 + (1 : Int32))), (3, .int j4), (0, .ref a_0)]) hx hb dX10_error_63 hl (k := 2) rfl rfl (by decide) rfl (fun ls hl => ?_)
              refine lv_goto (tgt := 2) hx hb dX10_error_66 (by decide) ?_
              exact ih _ hf _ _ _ (lv_sub hl [2, 0] rfl) hP hD hS
            · replace hf := hf_neg (not_not_intro cc) hf
              refine lv_iload_n hx hb dX10_error_61 rfl (lv_at hl 2 rfl) ?_
              obtain rfl := Option.some.inj hf
              exact hret _ _ _ _ hP hD hS dX10_error_62
        clear hf
        have hf := h_j4
        clear h_j4
        refine lv_icmp_eq (tgt := 45) hx hb dX10_error_20 (by decide) (fun cc => ?_) (fun cc => ?_)
        · replace hf := hf_pos cc hf
          refine lv_iconst (v := 1) hx hb dX10_error_45 (by decide) ?_
          refine lv_goto (tgt := 50) hx hb dX10_error_46 (by decide) ?_
          obtain rfl := Option.some.inj hf
          exact hJ_3 _ _ _ (lv_sub hl [1, 2] rfl) hP hD hS
        · replace hf := hf_neg cc hf
          refine lv_iload_n hx hb dX10_error_23 rfl (lv_at hl 0 rfl) ?_
          refine lv_bipush (v := 49) hx hb dX10_error_24 (by decide) ?_
          refine lv_bipush (v := 57) hx hb dX10_error_26 (by decide) ?_
          obtain ⟨s2, h_s2, hf⟩ := hf_bind hf
          refine wh_calli (D := (dC, dI)) (ws' := (wl_fM_error cI cZ cJ cQ a_0 a_0buffer a_0s a_0before a_0slots a_0isKept a_0cells a_0owner a_0code a_0table a_0isOver a_0isRuled a_0all a_0some a_0chosen a_0last a_0corner a_0wide a_0cuts a_0aside known_0 length_0 thrown_0 many_0 round_0 seed_0 hash_0 buffer_0)) (va_runS (As := [.int v1, .int (49 : Int32), .int (57 : Int32)]) (rest := []) ⟨hx, hb, hml, hown, hts⟩ (c_fM_in l dC dI cI cZ cJ cQ _ h_s2) (va_cwS 3 hts gX10_error_X10_in rfl rfl rfl (by decide +kernel) ⟨Nat.le_of_ble_eq_true rfl, Nat.le_of_ble_eq_true rfl⟩) (wh_preS hK hN hP hD [] rfl rfl) rfl rfl hl.1 rfl (lv_room (Nat.le_of_ble_eq_true rfl)) dX10_error_28 ⟨Nat.le_refl _, Nat.le_refl _⟩) hP hD hS hA [] [0, 1] [0, 1] rfl rfl rfl rfl (fun H locs hP hD hS => ?_)
          refine lv_if_ne (tgt := 45) hx hb dX10_error_31 (by decide) (fun cc => ?_) (fun cc => ?_)
          · replace hf := hf_pos cc hf
            refine lv_iconst (v := 1) hx hb dX10_error_45 (by decide) ?_
            refine lv_goto (tgt := 50) hx hb dX10_error_46 (by decide) ?_
            obtain rfl := Option.some.inj hf
            exact hJ_3 _ _ _ (lv_sub hl [1, 2] rfl) hP hD hS
          · replace hf := hf_neg (not_not_intro cc) hf
            refine lv_iload_n hx hb dX10_error_34 rfl (lv_at hl 0 rfl) ?_
            refine lv_bipush (v := 97) hx hb dX10_error_35 (by decide) ?_
            refine lv_bipush (v := 107) hx hb dX10_error_37 (by decide) ?_
            obtain ⟨s3, h_s3, hf⟩ := hf_bind hf
            refine wh_calli (D := (dC, dI)) (ws' := (wl_fM_error cI cZ cJ cQ a_0 a_0buffer a_0s a_0before a_0slots a_0isKept a_0cells a_0owner a_0code a_0table a_0isOver a_0isRuled a_0all a_0some a_0chosen a_0last a_0corner a_0wide a_0cuts a_0aside known_0 length_0 thrown_0 many_0 round_0 seed_0 hash_0 buffer_0)) (va_runS (As := [.int v1, .int (97 : Int32), .int (107 : Int32)]) (rest := []) ⟨hx, hb, hml, hown, hts⟩ (c_fM_in l dC dI cI cZ cJ cQ _ h_s3) (va_cwS 3 hts gX10_error_X10_in rfl rfl rfl (by decide +kernel) ⟨Nat.le_of_ble_eq_true rfl, Nat.le_of_ble_eq_true rfl⟩) (wh_preS hK hN hP hD [] rfl rfl) rfl rfl hl.1 rfl (lv_room (Nat.le_of_ble_eq_true rfl)) dX10_error_39 ⟨Nat.le_refl _, Nat.le_refl _⟩) hP hD hS hA [] [0, 1] [0, 1] rfl rfl rfl rfl (fun H locs hP hD hS => ?_)
            refine lv_if_eq (tgt := 49) hx hb dX10_error_42 (by decide) (fun cc => ?_) (fun cc => ?_)
            · replace hf := hf_pos cc hf
              refine lv_iconst (v := 0) hx hb dX10_error_49 (by decide) ?_
              obtain rfl := Option.some.inj hf
              exact hJ_3 _ _ _ (lv_sub hl [1, 2] rfl) hP hD hS
            · replace hf := hf_neg cc hf
              refine lv_iconst (v := 1) hx hb dX10_error_45 (by decide) ?_
              refine lv_goto (tgt := 50) hx hb dX10_error_46 (by decide) ?_
              obtain rfl := Option.some.inj hf
              exact hJ_3 _ _ _ (lv_sub hl [1, 2] rfl) hP hD hS
  exact hL_1 _ _ hf _ _ _ (lv_sub hl [1, 0] rfl) hP hD hS
set_option maxHeartbeats 4000000 in
set_option maxRecDepth 100000 in
theorem c_fM_firstError (l : Launch) (dC : Nat → ClassId) (dI : Nat → Nat → Nat) (cI cZ cJ cQ : ClassId) (a_0 a_0buffer a_0s a_0before a_0slots a_0isKept a_0cells a_0owner a_0code a_0table a_0isOver a_0isRuled a_0all a_0some a_0chosen a_0last a_0corner a_0wide a_0cuts a_0aside : Nat) (known_0 : Int32) (many_0 : Int32) (round_0 : Int32) (seed_0 : Int64) (hash_0 : Int64) (sz : Nat) {F : Nat} {thrown_0 : Int32} {length_0 : Int32} {buffer_0 : Nat → Int32} {out : Int32 × Int32} (hf : fM_firstError F thrown_0 length_0 buffer_0 = some out) : Met l yX10_firstError wsX10_firstError ({ frames := 2, cells := 0, slots := 0, locals := 45 } : Room) (va_Pc [.ref a_0] (wlP (dC, dI) (wlT cI cZ cJ cQ) (wl_fM_firstError cI cZ cJ cQ a_0 a_0buffer a_0s a_0before a_0slots a_0isKept a_0cells a_0owner a_0code a_0table a_0isOver a_0isRuled a_0all a_0some a_0chosen a_0last a_0corner a_0wide a_0cuts a_0aside known_0 length_0 thrown_0 many_0 round_0 seed_0 hash_0 buffer_0) sz)) (va_Qi (fun (v : Int32) (_ : Unit) => v = out.1) (wlQ (dC, dI) (va_A (wl_fM_firstError cI cZ cJ cQ a_0 a_0buffer a_0s a_0before a_0slots a_0isKept a_0cells a_0owner a_0code a_0table a_0isOver a_0isRuled a_0all a_0some a_0chosen a_0last a_0corner a_0wide a_0cuts a_0aside known_0 length_0 thrown_0 many_0 round_0 seed_0 hash_0 buffer_0) sz) (wl_fM_firstError cI cZ cJ cQ a_0 a_0buffer a_0s a_0before a_0slots a_0isKept a_0cells a_0owner a_0code a_0table a_0isOver a_0isRuled a_0all a_0some a_0chosen a_0last a_0corner a_0wide a_0cuts a_0aside known_0 length_0 out.2 many_0 round_0 seed_0 hash_0 buffer_0)) (va_A (wl_fM_firstError cI cZ cJ cQ a_0 a_0buffer a_0s a_0before a_0slots a_0isKept a_0cells a_0owner a_0code a_0table a_0isOver a_0isRuled a_0all a_0some a_0chosen a_0last a_0corner a_0wide a_0cuts a_0aside known_0 length_0 thrown_0 many_0 round_0 seed_0 hash_0 buffer_0) sz)) 0 0 (va_A (wl_fM_firstError cI cZ cJ cQ a_0 a_0buffer a_0s a_0before a_0slots a_0isKept a_0cells a_0owner a_0code a_0table a_0isOver a_0isRuled a_0all a_0some a_0chosen a_0last a_0corner a_0wide a_0cuts a_0aside known_0 length_0 thrown_0 many_0 round_0 seed_0 hash_0 buffer_0) sz) := by
  refine wh_ofWi (lv := [(0, .ref a_0)]) RX10 (by decide) rfl rfl (Nat.le_of_ble_eq_true rfl) rfl ?_
  intro p e s m below meth c A QQ hx hb hml hown hts hP hK hN hD hA hret ls hl
  have hS : va_S A s.heap s.heap [] := va_S.rf
  have hiX10 : ∀ w ∈ wsX100, w ∈ wsX10_firstError := (fun _ h => List.mem_cons_of_mem _ (List.mem_append_right _ (h)))
  unfold fM_firstError at hf
  refine lv_aload_n hx hb dX10_firstError_0 rfl (lv_at hl 0 rfl) ?_
  refine lv_iconst (v := 0) hx hb dX10_firstError_1 (by decide) ?_
  refine wh_put (D := (dC, dI)) (ci := 10) (C := RX10) (T := TX10) (N := 26) (ty := .int) (v := .int (0 : Int32)) (ws' := (wl_fM_firstError cI cZ cJ cQ a_0 a_0buffer a_0s a_0before a_0slots a_0isKept a_0cells a_0owner a_0code a_0table a_0isOver a_0isRuled a_0all a_0some a_0chosen a_0last a_0corner a_0wide a_0cuts a_0aside known_0 length_0 (0 : Int32) many_0 round_0 seed_0 hash_0 buffer_0)) hx hb hts hiX10 tyX10 tyX10_ok nmX10 hown hK hP hD hS 0 rfl rfl 7 (by decide) (hts (.fieldLink RX10 69 "PaddockFieldsModel" "thrown" "I") (List.mem_cons_of_mem _ (List.mem_append_left _ (List.mem_of_getElem? (i := 0) rfl)))) (fun _ h9 => h9) rfl rfl rfl rfl (Nat.le_of_ble_eq_true rfl) rfl dX10_firstError_2 (fun H locs hP hD hS => ?_)
  refine lv_aload_n hx hb dX10_firstError_5 rfl (lv_at hl 0 rfl) ?_
  obtain ⟨s1, h_s1, hf⟩ := hf_bind hf
  refine wh_calli (D := (dC, dI)) (ws' := (wl_fM_firstError cI cZ cJ cQ a_0 a_0buffer a_0s a_0before a_0slots a_0isKept a_0cells a_0owner a_0code a_0table a_0isOver a_0isRuled a_0all a_0some a_0chosen a_0last a_0corner a_0wide a_0cuts a_0aside known_0 length_0 (0 : Int32) many_0 round_0 seed_0 hash_0 buffer_0)) (va_runV (As := []) (rest := []) ⟨hx, hb, hml, hown, hts⟩ (c_fM_error l dC dI cI cZ cJ cQ a_0 a_0buffer a_0s a_0before a_0slots a_0isKept a_0cells a_0owner a_0code a_0table a_0isOver a_0isRuled a_0all a_0some a_0chosen a_0last a_0corner a_0wide a_0cuts a_0aside known_0 (0 : Int32) many_0 round_0 seed_0 hash_0 _ h_s1) (cwV 0 hts gX10_firstError_X10_error rfl rfl rfl (by decide +kernel) ⟨Nat.le_of_ble_eq_true rfl, Nat.le_of_ble_eq_true rfl⟩) (wh_preV (C := RX10) (T := TX10) (N := 26) hK hN hP hD [0, 1] rfl rfl 10 0 rfl rfl) rfl rfl hl.1 rfl (lv_room (Nat.le_of_ble_eq_true rfl)) dX10_firstError_6 ⟨Nat.le_refl _, Nat.le_refl _⟩) hP hD hS hA [0, 1] [] [0, 1] rfl rfl rfl rfl (fun H locs hP hD hS => ?_)
  obtain rfl := Option.some.inj hf
  exact hret _ _ _ _ hP hD hS dX10_firstError_9
set_option maxHeartbeats 4000000 in
set_option maxRecDepth 100000 in
theorem c_fM_writeRow (l : Launch) (dC : Nat → ClassId) (dI : Nat → Nat → Nat) (cI cZ cJ cQ : ClassId) (a_0 a_0buffer a_0s a_0before a_0slots a_0isKept a_0cells a_0owner a_0code a_0table a_0isOver a_0isRuled a_0all a_0some a_0chosen a_0last a_0corner a_0wide a_0cuts a_0aside : Nat) (many_0 : Int32) (round_0 : Int32) (seed_0 : Int64) (hash_0 : Int64) (sz : Nat) {F : Nat} {x1 : Int32} {thrown_0 : Int32} {length_0 : Int32} {buffer_0 : Nat → Int32} {s_0 : Nat → Int32} {known_0 : Int32} {before_0 : Nat → Int32} {out : Int32 × Int32 × (Nat → Int32) × Int32 × (Nat → Int32) × Int32} (hf : fM_writeRow F x1 thrown_0 length_0 buffer_0 s_0 known_0 before_0 = some out) : Met l yX10_writeRow wsX10_writeRow ({ frames := 2, cells := 0, slots := 0, locals := 45 } : Room) (va_Pc [.ref a_0, .int x1] (wlP (dC, dI) (wlT cI cZ cJ cQ) (wl_fM_writeRow cI cZ cJ cQ a_0 a_0buffer a_0s a_0before a_0slots a_0isKept a_0cells a_0owner a_0code a_0table a_0isOver a_0isRuled a_0all a_0some a_0chosen a_0last a_0corner a_0wide a_0cuts a_0aside known_0 length_0 thrown_0 many_0 round_0 seed_0 hash_0 buffer_0 s_0 before_0) sz)) (va_Qi (fun (v : Int32) (_ : Unit) => v = out.1) (wlQ (dC, dI) (va_A (wl_fM_writeRow cI cZ cJ cQ a_0 a_0buffer a_0s a_0before a_0slots a_0isKept a_0cells a_0owner a_0code a_0table a_0isOver a_0isRuled a_0all a_0some a_0chosen a_0last a_0corner a_0wide a_0cuts a_0aside known_0 length_0 thrown_0 many_0 round_0 seed_0 hash_0 buffer_0 s_0 before_0) sz) (wl_fM_writeRow cI cZ cJ cQ a_0 a_0buffer a_0s a_0before a_0slots a_0isKept a_0cells a_0owner a_0code a_0table a_0isOver a_0isRuled a_0all a_0some a_0chosen a_0last a_0corner a_0wide a_0cuts a_0aside out.2.2.2.1 out.2.2.2.2.2 out.2.1 many_0 round_0 seed_0 hash_0 buffer_0 out.2.2.2.2.1 out.2.2.1)) (va_A (wl_fM_writeRow cI cZ cJ cQ a_0 a_0buffer a_0s a_0before a_0slots a_0isKept a_0cells a_0owner a_0code a_0table a_0isOver a_0isRuled a_0all a_0some a_0chosen a_0last a_0corner a_0wide a_0cuts a_0aside known_0 length_0 thrown_0 many_0 round_0 seed_0 hash_0 buffer_0 s_0 before_0) sz)) 0 0 (va_A (wl_fM_writeRow cI cZ cJ cQ a_0 a_0buffer a_0s a_0before a_0slots a_0isKept a_0cells a_0owner a_0code a_0table a_0isOver a_0isRuled a_0all a_0some a_0chosen a_0last a_0corner a_0wide a_0cuts a_0aside known_0 length_0 thrown_0 many_0 round_0 seed_0 hash_0 buffer_0 s_0 before_0) sz) := by
  refine wh_ofWi (lv := [(0, .ref a_0), (1, .int x1)]) RX10 (by decide) rfl rfl (Nat.le_of_ble_eq_true rfl) rfl ?_
  intro p e s m below meth c A QQ hx hb hml hown hts hP hK hN hD hA hret ls hl
  have hS : va_S A s.heap s.heap [] := va_S.rf
  have hiX10 : ∀ w ∈ wsX100, w ∈ wsX10_writeRow := (fun _ h => List.mem_cons_of_mem _ (List.mem_append_right _ (h)))
  unfold fM_writeRow at hf
  refine lv_aload_n hx hb dX10_writeRow_0 rfl (lv_at hl 0 rfl) ?_
  refine lv_iconst (v := 0) hx hb dX10_writeRow_1 (by decide) ?_
  refine wh_put (D := (dC, dI)) (ci := 10) (C := RX10) (T := TX10) (N := 26) (ty := .int) (v := .int (0 : Int32)) (ws' := (wl_fM_writeRow cI cZ cJ cQ a_0 a_0buffer a_0s a_0before a_0slots a_0isKept a_0cells a_0owner a_0code a_0table a_0isOver a_0isRuled a_0all a_0some a_0chosen a_0last a_0corner a_0wide a_0cuts a_0aside known_0 length_0 (0 : Int32) many_0 round_0 seed_0 hash_0 buffer_0 s_0 before_0)) hx hb hts hiX10 tyX10 tyX10_ok nmX10 hown hK hP hD hS 0 rfl rfl 7 (by decide) (hts (.fieldLink RX10 69 "PaddockFieldsModel" "thrown" "I") (List.mem_cons_of_mem _ (List.mem_append_left _ (List.mem_of_getElem? (i := 0) rfl)))) (fun _ h9 => h9) rfl rfl rfl rfl (Nat.le_of_ble_eq_true rfl) rfl dX10_writeRow_2 (fun H locs hP hD hS => ?_)
  refine lv_iload_n hx hb dX10_writeRow_5 rfl (lv_at hl 1 rfl) ?_
  refine lv_iconst (v := 0) hx hb dX10_writeRow_6 (by decide) ?_
  refine lv_iconst (v := 5) hx hb dX10_writeRow_7 (by decide) ?_
  obtain ⟨s1, h_s1, hf⟩ := hf_bind hf
  refine wh_calli (D := (dC, dI)) (ws' := (wl_fM_writeRow cI cZ cJ cQ a_0 a_0buffer a_0s a_0before a_0slots a_0isKept a_0cells a_0owner a_0code a_0table a_0isOver a_0isRuled a_0all a_0some a_0chosen a_0last a_0corner a_0wide a_0cuts a_0aside known_0 length_0 (0 : Int32) many_0 round_0 seed_0 hash_0 buffer_0 s_0 before_0)) (va_runS (As := [.int x1, .int (0 : Int32), .int (5 : Int32)]) (rest := []) ⟨hx, hb, hml, hown, hts⟩ (c_fM_in l dC dI cI cZ cJ cQ _ h_s1) (va_cwS 3 hts gX10_writeRow_X10_in rfl rfl rfl (by decide +kernel) ⟨Nat.le_of_ble_eq_true rfl, Nat.le_of_ble_eq_true rfl⟩) (wh_preS hK hN hP hD [] rfl rfl) rfl rfl hl.1 rfl (lv_room (Nat.le_of_ble_eq_true rfl)) dX10_writeRow_8 ⟨Nat.le_refl _, Nat.le_refl _⟩) hP hD hS hA [] [0, 1, 2, 3] [0, 1, 2, 3] rfl rfl rfl rfl (fun H locs hP hD hS => ?_)
  refine lv_if_ne (tgt := 20) hx hb dX10_writeRow_11 (by decide) (fun cc => ?_) (fun cc => ?_)
  · replace hf := hf_pos cc hf
    refine lv_aload_n hx hb dX10_writeRow_20 rfl (lv_at hl 0 rfl) ?_
    refine va_get (D := (dC, dI)) (ci := 10) (C := RX10) (T := TX10) (N := 26) hx hb hts hiX10 hown hK hP 0 rfl rfl 6 (by decide) (hts (.fieldLink RX10 205 "PaddockFieldsModel" "length" "I") (List.mem_cons_of_mem _ (List.mem_append_left _ (List.mem_of_getElem? (i := 1) rfl)))) (fun _ h9 => h9) rfl dX10_writeRow_21 ?_
    refine lv_bipush (v := 7) hx hb dX10_writeRow_24 (by decide) ?_
    refine lv_icmp_ne (tgt := 40) hx hb dX10_writeRow_26 (by decide) (fun cc => ?_) (fun cc => ?_)
    · replace hf := hf_pos cc hf
      refine lv_aload_n hx hb dX10_writeRow_40 rfl (lv_at hl 0 rfl) ?_
      refine lv_iconst (v := 2) hx hb dX10_writeRow_41 (by decide) ?_
      obtain ⟨s2, h_s2, hf⟩ := hf_bind hf
      refine wh_calli (D := (dC, dI)) (ws' := (wl_fM_writeRow cI cZ cJ cQ a_0 a_0buffer a_0s a_0before a_0slots a_0isKept a_0cells a_0owner a_0code a_0table a_0isOver a_0isRuled a_0all a_0some a_0chosen a_0last a_0corner a_0wide a_0cuts a_0aside known_0 length_0 s2.2 many_0 round_0 seed_0 hash_0 buffer_0 s_0 before_0)) (va_runV (As := [.int (2 : Int32)]) (rest := []) ⟨hx, hb, hml, hown, hts⟩ (c_fM_throwing l dC dI cI cZ cJ cQ a_0 a_0s a_0before a_0slots a_0isKept a_0buffer a_0cells a_0owner a_0code a_0table a_0isOver a_0isRuled a_0all a_0some a_0chosen a_0last a_0corner a_0wide a_0cuts a_0aside known_0 length_0 many_0 round_0 seed_0 hash_0 _ h_s2) (cwV 1 hts gX10_writeRow_X10_throwing rfl rfl rfl (by decide +kernel) ⟨Nat.le_of_ble_eq_true rfl, Nat.le_of_ble_eq_true rfl⟩) (wh_preV (C := RX10) (T := TX10) (N := 26) hK hN hP hD [0] rfl rfl 10 0 rfl rfl) rfl rfl hl.1 rfl (lv_room (Nat.le_of_ble_eq_true rfl)) dX10_writeRow_42 ⟨Nat.le_refl _, Nat.le_refl _⟩) hP hD hS hA [0] [1, 2, 3] [3, 0, 1, 2] rfl rfl rfl rfl (fun H locs hP hD hS => ?_)
      obtain rfl := Option.some.inj hf
      exact hret _ _ _ _ hP hD hS dX10_writeRow_45
    · replace hf := hf_neg (not_not_intro cc) hf
      refine lv_aload_n hx hb dX10_writeRow_29 rfl (lv_at hl 0 rfl) ?_
      obtain ⟨s3, h_s3, hf⟩ := hf_bind hf
      refine wh_calli (D := (dC, dI)) (ws' := (wl_fM_writeRow cI cZ cJ cQ a_0 a_0buffer a_0s a_0before a_0slots a_0isKept a_0cells a_0owner a_0code a_0table a_0isOver a_0isRuled a_0all a_0some a_0chosen a_0last a_0corner a_0wide a_0cuts a_0aside known_0 length_0 (0 : Int32) many_0 round_0 seed_0 hash_0 buffer_0 s_0 before_0)) (va_runV (As := []) (rest := []) ⟨hx, hb, hml, hown, hts⟩ (c_fM_error l dC dI cI cZ cJ cQ a_0 a_0buffer a_0s a_0before a_0slots a_0isKept a_0cells a_0owner a_0code a_0table a_0isOver a_0isRuled a_0all a_0some a_0chosen a_0last a_0corner a_0wide a_0cuts a_0aside known_0 (0 : Int32) many_0 round_0 seed_0 hash_0 _ h_s3) (cwV 0 hts gX10_writeRow_X10_error rfl rfl rfl (by decide +kernel) ⟨Nat.le_of_ble_eq_true rfl, Nat.le_of_ble_eq_true rfl⟩) (wh_preV (C := RX10) (T := TX10) (N := 26) hK hN hP hD [0, 1] rfl rfl 10 0 rfl rfl) rfl rfl hl.1 rfl (lv_room (Nat.le_of_ble_eq_true rfl)) dX10_writeRow_30 ⟨Nat.le_refl _, Nat.le_refl _⟩) hP hD hS hA [0, 1] [2, 3] [2, 3, 0, 1] rfl rfl rfl rfl (fun H locs hP hD hS => ?_)
      refine lv_aload_n hx hb dX10_writeRow_33 rfl (lv_at hl 0 rfl) ?_
      refine va_get (D := (dC, dI)) (ci := 10) (C := RX10) (T := TX10) (N := 26) hx hb hts hiX10 hown hK hP 0 rfl rfl 6 (by decide) (hts (.fieldLink RX10 205 "PaddockFieldsModel" "length" "I") (List.mem_cons_of_mem _ (List.mem_append_left _ (List.mem_of_getElem? (i := 1) rfl)))) (fun _ h9 => h9) rfl dX10_writeRow_34 ?_
      refine lv_icmp_ge (tgt := 46) hx hb dX10_writeRow_37 (by decide) (fun cc => ?_) (fun cc => ?_)
      · replace hf := hf_pos cc hf
        refine lv_bipush (v := 7) hx hb dX10_writeRow_46 (by decide) ?_
        refine lv_iload_n hx hb dX10_writeRow_48 rfl (lv_at hl 1 rfl) ?_
        refine lv_imul hx hb dX10_writeRow_49 ?_
        refine lv_istore_n (lv' := [(2, .int ((7 : Int32) * x1)), (0, .ref a_0), (1, .int x1)]) hx hb dX10_writeRow_50 rfl hl (by decide) rfl (fun ls hl => ?_)
        obtain ⟨r6, h_r6, hf⟩ := hf_bind hf
        have hE_1 : ∀ (H : Heap) (locs : List Loc) (ls : Array Slot), lv_has ls 6 [(0, .ref a_0), (1, .int x1)] → va_P (dC, dI) vwCl (wl_fM_writeRow cI cZ cJ cQ a_0 a_0buffer a_0s a_0before a_0slots a_0isKept a_0cells a_0owner a_0code a_0table a_0isOver a_0isRuled a_0all a_0some a_0chosen a_0last a_0corner a_0wide a_0cuts a_0aside known_0 length_0 r6.2 many_0 round_0 seed_0 hash_0 buffer_0 s_0 before_0) H → va_D A (wl_fM_writeRow cI cZ cJ cQ a_0 a_0buffer a_0s a_0before a_0slots a_0isKept a_0cells a_0owner a_0code a_0table a_0isOver a_0isRuled a_0all a_0some a_0chosen a_0last a_0corner a_0wide a_0cuts a_0aside known_0 length_0 r6.2 many_0 round_0 seed_0 hash_0 buffer_0 s_0 before_0) → va_S A s.heap H locs → W p l e ({ frames := 2, cells := 0, slots := 0, locals := 45 } : Room) s m [.ref a_0, .int x1].toArray below meth c H locs 0 0 QQ (F0 m 92 ls []) := by
          intro H locs ls hl hP hD hS
          refine lv_aload_n hx hb dX10_writeRow_92 rfl (lv_at hl 0 rfl) ?_
          refine va_get (D := (dC, dI)) (ci := 10) (C := RX10) (T := TX10) (N := 26) hx hb hts hiX10 hown hK hP 0 rfl rfl 7 (by decide) (hts (.fieldLink RX10 69 "PaddockFieldsModel" "thrown" "I") (List.mem_cons_of_mem _ (List.mem_append_left _ (List.mem_of_getElem? (i := 0) rfl)))) (fun _ h9 => h9) rfl dX10_writeRow_93 ?_
          refine lv_if_le (tgt := 101) hx hb dX10_writeRow_96 (by decide) (fun cc => ?_) (fun cc => ?_)
          · replace hf := hf_pos cc hf
            refine lv_aload_n hx hb dX10_writeRow_101 rfl (lv_at hl 0 rfl) ?_
            obtain ⟨s7, h_s7, hf⟩ := hf_bind hf
            refine wh_callv (D := (dC, dI)) (ws' := (wl_fM_writeRow cI cZ cJ cQ a_0 a_0buffer a_0s a_0before a_0slots a_0isKept a_0cells a_0owner a_0code a_0table a_0isOver a_0isRuled a_0all a_0some a_0chosen a_0last a_0corner a_0wide a_0cuts a_0aside s7.2 length_0 r6.2 many_0 round_0 seed_0 hash_0 buffer_0 s_0 s7.1)) (va_runV (As := []) (rest := []) ⟨hx, hb, hml, hown, hts⟩ (c_fM_save l dC dI cI cZ cJ cQ a_0 a_0before a_0s a_0slots a_0isKept a_0buffer a_0cells a_0owner a_0code a_0table a_0isOver a_0isRuled a_0all a_0some a_0chosen a_0last a_0corner a_0wide a_0cuts a_0aside length_0 r6.2 many_0 round_0 seed_0 hash_0 _ h_s7) (cwV 0 hts gX10_writeRow_X10_save rfl rfl rfl (by decide +kernel) ⟨Nat.le_of_ble_eq_true rfl, Nat.le_of_ble_eq_true rfl⟩) (wh_preV (C := RX10) (T := TX10) (N := 26) hK hN hP hD [0, 3, 2] rfl rfl 10 0 rfl rfl) rfl rfl hl.1 rfl (lv_room (Nat.le_of_ble_eq_true rfl)) dX10_writeRow_102 ⟨Nat.le_refl _, Nat.le_refl _⟩) hP hD hS hA [0, 3, 2] [1] [1, 0, 3, 2] rfl rfl rfl rfl (fun H locs hP hD hS => ?_)
            refine lv_iconst (v := 0) hx hb dX10_writeRow_105 (by decide) ?_
            refine lv_istore_n (lv' := [(2, .int (0 : Int32)), (0, .ref a_0), (1, .int x1)]) hx hb dX10_writeRow_106 rfl hl (by decide) rfl (fun ls hl => ?_)
            refine lv_iconst (v := 0) hx hb dX10_writeRow_107 (by decide) ?_
            refine lv_istore_n (lv' := [(3, .int (0 : Int32)), (2, .int (0 : Int32)), (0, .ref a_0), (1, .int x1)]) hx hb dX10_writeRow_108 rfl hl (by decide) rfl (fun ls hl => ?_)
            obtain ⟨r12, h_r12, hf⟩ := hf_bind hf
            have hE_2 : ∀ (H : Heap) (locs : List Loc) (ls : Array Slot), lv_has ls 6 [(0, .ref a_0), (2, .int r12.1)] → va_P (dC, dI) vwCl (wl_fM_writeRow cI cZ cJ cQ a_0 a_0buffer a_0s a_0before a_0slots a_0isKept a_0cells a_0owner a_0code a_0table a_0isOver a_0isRuled a_0all a_0some a_0chosen a_0last a_0corner a_0wide a_0cuts a_0aside s7.2 length_0 r6.2 many_0 round_0 seed_0 hash_0 buffer_0 r12.2.2 s7.1) H → va_D A (wl_fM_writeRow cI cZ cJ cQ a_0 a_0buffer a_0s a_0before a_0slots a_0isKept a_0cells a_0owner a_0code a_0table a_0isOver a_0isRuled a_0all a_0some a_0chosen a_0last a_0corner a_0wide a_0cuts a_0aside s7.2 length_0 r6.2 many_0 round_0 seed_0 hash_0 buffer_0 r12.2.2 s7.1) → va_S A s.heap H locs → W p l e ({ frames := 2, cells := 0, slots := 0, locals := 45 } : Room) s m [.ref a_0, .int x1].toArray below meth c H locs 0 0 QQ (F0 m 191 ls []) := by
              intro H locs ls hl hP hD hS
              refine lv_aload_n hx hb dX10_writeRow_191 rfl (lv_at hl 0 rfl) ?_
              refine lv_iconst (v := 0) hx hb dX10_writeRow_192 (by decide) ?_
              refine wh_put (D := (dC, dI)) (ci := 10) (C := RX10) (T := TX10) (N := 26) (ty := .int) (v := .int (0 : Int32)) (ws' := (wl_fM_writeRow cI cZ cJ cQ a_0 a_0buffer a_0s a_0before a_0slots a_0isKept a_0cells a_0owner a_0code a_0table a_0isOver a_0isRuled a_0all a_0some a_0chosen a_0last a_0corner a_0wide a_0cuts a_0aside s7.2 (0 : Int32) r6.2 many_0 round_0 seed_0 hash_0 buffer_0 r12.2.2 s7.1)) hx hb hts hiX10 tyX10 tyX10_ok nmX10 hown hK hP hD hS 0 rfl rfl 6 (by decide) (hts (.fieldLink RX10 205 "PaddockFieldsModel" "length" "I") (List.mem_cons_of_mem _ (List.mem_append_left _ (List.mem_of_getElem? (i := 1) rfl)))) (fun _ h9 => h9) rfl rfl rfl rfl (Nat.le_of_ble_eq_true rfl) rfl dX10_writeRow_193 (fun H locs hP hD hS => ?_)
              refine lv_iload_n hx hb dX10_writeRow_196 rfl (lv_at hl 1 rfl) ?_
              obtain rfl := Option.some.inj hf
              exact hret _ _ _ _ hP hD hS dX10_writeRow_197
            have hL_3 : ∀ (N : Nat) (l2_4 : Int32) (l3_5 : Int32) (s_0_6 : Nat → Int32), fM_writeRow_L109 F x1 buffer_0 N l2_4 l3_5 s_0_6 = some r12 → ∀ (H : Heap) (locs : List Loc) (ls : Array Slot), lv_has ls 6 [(0, .ref a_0), (1, .int x1), (2, .int l2_4), (3, .int l3_5)] → va_P (dC, dI) vwCl (wl_fM_writeRow cI cZ cJ cQ a_0 a_0buffer a_0s a_0before a_0slots a_0isKept a_0cells a_0owner a_0code a_0table a_0isOver a_0isRuled a_0all a_0some a_0chosen a_0last a_0corner a_0wide a_0cuts a_0aside s7.2 length_0 r6.2 many_0 round_0 seed_0 hash_0 buffer_0 s_0_6 s7.1) H → va_D A (wl_fM_writeRow cI cZ cJ cQ a_0 a_0buffer a_0s a_0before a_0slots a_0isKept a_0cells a_0owner a_0code a_0table a_0isOver a_0isRuled a_0all a_0some a_0chosen a_0last a_0corner a_0wide a_0cuts a_0aside s7.2 length_0 r6.2 many_0 round_0 seed_0 hash_0 buffer_0 s_0_6 s7.1) → va_S A s.heap H locs → W p l e ({ frames := 2, cells := 0, slots := 0, locals := 45 } : Room) s m [.ref a_0, .int x1].toArray below meth c H locs 0 0 QQ (F0 m 109 ls []) := by
              intro N
              induction N with
              | zero => intro l2_4 l3_5 s_0_6 hf; exact nomatch (show none = some _ from hf)
              | succ N ih =>
                intro l2_4 l3_5 s_0_6 hf H locs ls hl hP hD hS
                rw [fM_writeRow_L109] at hf
                refine lv_iload_n hx hb dX10_writeRow_109 rfl (lv_at hl 3 rfl) ?_
                refine lv_bipush (v := 7) hx hb dX10_writeRow_110 (by decide) ?_
                refine lv_icmp_ge (tgt := 191) hx hb dX10_writeRow_112 (by decide) (fun cc => ?_) (fun cc => ?_)
                · replace hf := hf_pos cc hf
                  obtain rfl := Option.some.inj hf
                  exact hE_2 _ _ _ (lv_sub hl [0, 2] rfl) hP hD hS
                · replace hf := hf_neg cc hf
                  refine lv_aload_n hx hb dX10_writeRow_115 rfl (lv_at hl 0 rfl) ?_
                  refine va_get (D := (dC, dI)) (ci := 10) (C := RX10) (T := TX10) (N := 26) hx hb hts hiX10 hown hK hP 0 rfl rfl 5 (by decide) (hts (.fieldLink RX10 23 "PaddockFieldsModel" "buffer" "[I") (List.mem_cons_of_mem _ (List.mem_append_left _ (List.mem_of_getElem? (i := 3) rfl)))) (fun _ h9 => h9) rfl dX10_writeRow_116 ?_
                  refine lv_iload_n hx hb dX10_writeRow_119 rfl (lv_at hl 3 rfl) ?_
                  obtain ⟨v8, h_v8, hf⟩ := hf_bind hf
                  refine wh_ldI (D := (dC, dI)) hx hb hK hP 1 0 rfl rfl h_v8 dX10_writeRow_120 ?_
                  refine lv_istore (lv' := [(4, .int v8), (0, .ref a_0), (1, .int x1), (2, .int l2_4), (3, .int l3_5)]) hx hb dX10_writeRow_121 hl (by decide) rfl (fun ls hl => ?_)
                  refine lv_iload hx hb dX10_writeRow_123 (lv_at hl 0 rfl) ?_
                  refine lv_bipush (v := 46) hx hb dX10_writeRow_125 (by decide) ?_
                  obtain ⟨j9, h_j9, hf⟩ := hf_bind hf
                  have hJ_7 : ∀ (H : Heap) (locs : List Loc) (ls : Array Slot), lv_has ls 6 [(0, .ref a_0), (1, .int x1), (2, .int l2_4), (3, .int l3_5)] → va_P (dC, dI) vwCl (wl_fM_writeRow cI cZ cJ cQ a_0 a_0buffer a_0s a_0before a_0slots a_0isKept a_0cells a_0owner a_0code a_0table a_0isOver a_0isRuled a_0all a_0some a_0chosen a_0last a_0corner a_0wide a_0cuts a_0aside s7.2 length_0 r6.2 many_0 round_0 seed_0 hash_0 buffer_0 s_0_6 s7.1) H → va_D A (wl_fM_writeRow cI cZ cJ cQ a_0 a_0buffer a_0s a_0before a_0slots a_0isKept a_0cells a_0owner a_0code a_0table a_0isOver a_0isRuled a_0all a_0some a_0chosen a_0last a_0corner a_0wide a_0cuts a_0aside s7.2 length_0 r6.2 many_0 round_0 seed_0 hash_0 buffer_0 s_0_6 s7.1) → va_S A s.heap H locs → W p l e ({ frames := 2, cells := 0, slots := 0, locals := 45 } : Room) s m [.ref a_0, .int x1].toArray below meth c H locs 0 0 QQ (F0 m 157 ls [.int j9]) := by
                    intro H locs ls hl hP hD hS
                    refine lv_istore (lv' := [(5, .int j9), (0, .ref a_0), (1, .int x1), (2, .int l2_4), (3, .int l3_5)]) hx hb dX10_writeRow_157 hl (by decide) rfl (fun ls hl => ?_)
                    refine lv_aload_n hx hb dX10_writeRow_159 rfl (lv_at hl 1 rfl) ?_
                    refine va_get (D := (dC, dI)) (ci := 10) (C := RX10) (T := TX10) (N := 26) hx hb hts hiX10 hown hK hP 0 rfl rfl 0 (by decide) (hts (.fieldLink RX10 7 "PaddockFieldsModel" "s" "[I") (List.mem_cons_of_mem _ (List.mem_append_left _ (List.mem_of_getElem? (i := 2) rfl)))) (fun _ h9 => h9) rfl dX10_writeRow_160 ?_
                    refine lv_bipush (v := 7) hx hb dX10_writeRow_163 (by decide) ?_
                    refine lv_iload_n hx hb dX10_writeRow_165 rfl (lv_at hl 2 rfl) ?_
                    refine lv_imul hx hb dX10_writeRow_166 ?_
                    refine lv_iload_n hx hb dX10_writeRow_167 rfl (lv_at hl 4 rfl) ?_
                    refine lv_iadd hx hb dX10_writeRow_168 ?_
                    refine lv_iload hx hb dX10_writeRow_169 (lv_at hl 0 rfl) ?_
                    obtain ⟨w10, h_w10, hf⟩ := hf_bind hf
                    refine wh_stI (D := (dC, dI)) (ws' := (wl_fM_writeRow cI cZ cJ cQ a_0 a_0buffer a_0s a_0before a_0slots a_0isKept a_0cells a_0owner a_0code a_0table a_0isOver a_0isRuled a_0all a_0some a_0chosen a_0last a_0corner a_0wide a_0cuts a_0aside s7.2 length_0 r6.2 many_0 round_0 seed_0 hash_0 buffer_0 w10 s7.1)) hx hb hK hP hD hS 2 0 rfl rfl rfl h_w10 dX10_writeRow_171 (fun H locs hP hD hS => ?_)
                    refine lv_iload_n hx hb dX10_writeRow_172 rfl (lv_at hl 3 rfl) ?_
                    refine lv_iload hx hb dX10_writeRow_173 (lv_at hl 0 rfl) ?_
                    obtain ⟨j11, h_j11, hf⟩ := hf_bind hf
                    have hJ_8 : ∀ (H : Heap) (locs : List Loc) (ls : Array Slot), lv_has ls 6 [(0, .ref a_0), (1, .int x1), (3, .int l3_5)] → va_P (dC, dI) vwCl (wl_fM_writeRow cI cZ cJ cQ a_0 a_0buffer a_0s a_0before a_0slots a_0isKept a_0cells a_0owner a_0code a_0table a_0isOver a_0isRuled a_0all a_0some a_0chosen a_0last a_0corner a_0wide a_0cuts a_0aside s7.2 length_0 r6.2 many_0 round_0 seed_0 hash_0 buffer_0 w10 s7.1) H → va_D A (wl_fM_writeRow cI cZ cJ cQ a_0 a_0buffer a_0s a_0before a_0slots a_0isKept a_0cells a_0owner a_0code a_0table a_0isOver a_0isRuled a_0all a_0some a_0chosen a_0last a_0corner a_0wide a_0cuts a_0aside s7.2 length_0 r6.2 many_0 round_0 seed_0 hash_0 buffer_0 w10 s7.1) → va_S A s.heap H locs → W p l e ({ frames := 2, cells := 0, slots := 0, locals := 45 } : Room) s m [.ref a_0, .int x1].toArray below meth c H locs 0 0 QQ (F0 m 183 ls [.int j11, .int l2_4]) := by
                      intro H locs ls hl hP hD hS
                      refine lv_iadd hx hb dX10_writeRow_183 ?_
                      refine lv_istore_n (lv' := [(2, .int (l2_4 + j11)), (0, .ref a_0), (1, .int x1), (3, .int l3_5)]) hx hb dX10_writeRow_184 rfl hl (by decide) rfl (fun ls hl => ?_)
                      refine lv_iinc (v := (l3_5 + (1 : Int32))) (lv' := [(3, .int (l3_5 + (1 : Int32))), (2, .int (l2_4 + j11)), (0, .ref a_0), (1, .int x1)]) hx hb dX10_writeRow_185 hl (k := 3) rfl rfl (by decide) rfl (fun ls hl => ?_)
                      refine lv_goto (tgt := 109) hx hb dX10_writeRow_188 (by decide) ?_
                      exact ih _ _ _ hf _ _ _ (lv_sub hl [2, 3, 1, 0] rfl) hP hD hS
                    clear hf
                    have hf := h_j11
                    clear h_j11
                    refine lv_if_le (tgt := 182) hx hb dX10_writeRow_175 (by decide) (fun cc => ?_) (fun cc => ?_)
                    · replace hf := hf_pos cc hf
                      refine lv_iconst (v := 0) hx hb dX10_writeRow_182 (by decide) ?_
                      obtain rfl := Option.some.inj hf
                      exact hJ_8 _ _ _ (lv_sub hl [1, 2, 4] rfl) hP hD hS
                    · replace hf := hf_neg cc hf
                      refine lv_iconst (v := 1) hx hb dX10_writeRow_178 (by decide) ?_
                      refine lv_goto (tgt := 183) hx hb dX10_writeRow_179 (by decide) ?_
                      obtain rfl := Option.some.inj hf
                      exact hJ_8 _ _ _ (lv_sub hl [1, 2, 4] rfl) hP hD hS
                  clear hf
                  have hf := h_j9
                  clear h_j9
                  refine lv_icmp_ne (tgt := 134) hx hb dX10_writeRow_127 (by decide) (fun cc => ?_) (fun cc => ?_)
                  · replace hf := hf_pos cc hf
                    refine lv_iload hx hb dX10_writeRow_134 (lv_at hl 0 rfl) ?_
                    refine lv_bipush (v := 97) hx hb dX10_writeRow_136 (by decide) ?_
                    refine lv_icmp_lt (tgt := 152) hx hb dX10_writeRow_138 (by decide) (fun cc => ?_) (fun cc => ?_)
                    · replace hf := hf_pos cc hf
                      refine lv_iload hx hb dX10_writeRow_152 (lv_at hl 0 rfl) ?_
                      refine lv_bipush (v := 48) hx hb dX10_writeRow_154 (by decide) ?_
                      refine lv_isub hx hb dX10_writeRow_156 ?_
                      obtain rfl := Option.some.inj hf
                      exact hJ_7 _ _ _ (lv_sub hl [1, 2, 3, 4] rfl) hP hD hS
                    · replace hf := hf_neg cc hf
                      refine lv_iload hx hb dX10_writeRow_141 (lv_at hl 0 rfl) ?_
                      refine lv_bipush (v := 97) hx hb dX10_writeRow_143 (by decide) ?_
                      refine lv_isub hx hb dX10_writeRow_145 ?_
                      refine lv_bipush (v := 10) hx hb dX10_writeRow_146 (by decide) ?_
                      refine lv_iadd hx hb dX10_writeRow_148 ?_
                      refine lv_goto (tgt := 157) hx hb dX10_writeRow_149 (by decide) ?_
                      obtain rfl := Option.some.inj hf
                      exact hJ_7 _ _ _ (lv_sub hl [1, 2, 3, 4] rfl) hP hD hS
                  · replace hf := hf_neg (not_not_intro cc) hf
                    refine lv_iconst (v := 0) hx hb dX10_writeRow_130 (by decide) ?_
                    refine lv_goto (tgt := 157) hx hb dX10_writeRow_131 (by decide) ?_
                    obtain rfl := Option.some.inj hf
                    exact hJ_7 _ _ _ (lv_sub hl [1, 2, 3, 4] rfl) hP hD hS
            exact hL_3 _ _ _ _ h_r12 _ _ _ (lv_sub hl [2, 3, 1, 0] rfl) hP hD hS
          · replace hf := hf_neg cc hf
            refine lv_iconst (v := 0) hx hb dX10_writeRow_99 (by decide) ?_
            obtain rfl := Option.some.inj hf
            exact hret _ _ _ _ hP hD hS dX10_writeRow_100
        have hL_9 : ∀ (N : Nat) (l2_10 : Int32) (thrown_0_11 : Int32), fM_writeRow_L51 F x1 s_0 N l2_10 thrown_0_11 = some r6 → ∀ (H : Heap) (locs : List Loc) (ls : Array Slot), lv_has ls 6 [(0, .ref a_0), (1, .int x1), (2, .int l2_10)] → va_P (dC, dI) vwCl (wl_fM_writeRow cI cZ cJ cQ a_0 a_0buffer a_0s a_0before a_0slots a_0isKept a_0cells a_0owner a_0code a_0table a_0isOver a_0isRuled a_0all a_0some a_0chosen a_0last a_0corner a_0wide a_0cuts a_0aside known_0 length_0 thrown_0_11 many_0 round_0 seed_0 hash_0 buffer_0 s_0 before_0) H → va_D A (wl_fM_writeRow cI cZ cJ cQ a_0 a_0buffer a_0s a_0before a_0slots a_0isKept a_0cells a_0owner a_0code a_0table a_0isOver a_0isRuled a_0all a_0some a_0chosen a_0last a_0corner a_0wide a_0cuts a_0aside known_0 length_0 thrown_0_11 many_0 round_0 seed_0 hash_0 buffer_0 s_0 before_0) → va_S A s.heap H locs → W p l e ({ frames := 2, cells := 0, slots := 0, locals := 45 } : Room) s m [.ref a_0, .int x1].toArray below meth c H locs 0 0 QQ (F0 m 51 ls []) := by
          intro N
          induction N with
          | zero => intro l2_10 thrown_0_11 hf; exact nomatch (show none = some _ from hf)
          | succ N ih =>
            intro l2_10 thrown_0_11 hf H locs ls hl hP hD hS
            rw [fM_writeRow_L51] at hf
            refine lv_iload_n hx hb dX10_writeRow_51 rfl (lv_at hl 2 rfl) ?_
            refine lv_bipush (v := 7) hx hb dX10_writeRow_52 (by decide) ?_
            refine lv_iload_n hx hb dX10_writeRow_54 rfl (lv_at hl 1 rfl) ?_
            refine lv_imul hx hb dX10_writeRow_55 ?_
            refine lv_bipush (v := 7) hx hb dX10_writeRow_56 (by decide) ?_
            refine lv_iadd hx hb dX10_writeRow_58 ?_
            refine lv_icmp_ge (tgt := 92) hx hb dX10_writeRow_59 (by decide) (fun cc => ?_) (fun cc => ?_)
            · replace hf := hf_pos cc hf
              obtain rfl := Option.some.inj hf
              exact hE_1 _ _ _ (lv_sub hl [0, 1] rfl) hP hD hS
            · replace hf := hf_neg cc hf
              refine lv_aload_n hx hb dX10_writeRow_62 rfl (lv_at hl 0 rfl) ?_
              refine lv_aload_n hx hb dX10_writeRow_63 rfl (lv_at hl 0 rfl) ?_
              refine va_get (D := (dC, dI)) (ci := 10) (C := RX10) (T := TX10) (N := 26) hx hb hts hiX10 hown hK hP 0 rfl rfl 0 (by decide) (hts (.fieldLink RX10 7 "PaddockFieldsModel" "s" "[I") (List.mem_cons_of_mem _ (List.mem_append_left _ (List.mem_of_getElem? (i := 2) rfl)))) (fun _ h9 => h9) rfl dX10_writeRow_64 ?_
              refine lv_bipush (v := 42) hx hb dX10_writeRow_67 (by decide) ?_
              refine lv_iload_n hx hb dX10_writeRow_69 rfl (lv_at hl 2 rfl) ?_
              refine lv_iadd hx hb dX10_writeRow_70 ?_
              obtain ⟨v4, h_v4, hf⟩ := hf_bind hf
              refine wh_ldI (D := (dC, dI)) hx hb hK hP 2 0 rfl rfl h_v4 dX10_writeRow_71 ?_
              obtain ⟨j5, h_j5, hf⟩ := hf_bind hf
              have hJ_12 : ∀ (H : Heap) (locs : List Loc) (ls : Array Slot), lv_has ls 6 [(0, .ref a_0), (1, .int x1), (2, .int l2_10)] → va_P (dC, dI) vwCl (wl_fM_writeRow cI cZ cJ cQ a_0 a_0buffer a_0s a_0before a_0slots a_0isKept a_0cells a_0owner a_0code a_0table a_0isOver a_0isRuled a_0all a_0some a_0chosen a_0last a_0corner a_0wide a_0cuts a_0aside known_0 length_0 thrown_0_11 many_0 round_0 seed_0 hash_0 buffer_0 s_0 before_0) H → va_D A (wl_fM_writeRow cI cZ cJ cQ a_0 a_0buffer a_0s a_0before a_0slots a_0isKept a_0cells a_0owner a_0code a_0table a_0isOver a_0isRuled a_0all a_0some a_0chosen a_0last a_0corner a_0wide a_0cuts a_0aside known_0 length_0 thrown_0_11 many_0 round_0 seed_0 hash_0 buffer_0 s_0 before_0) → va_S A s.heap H locs → W p l e ({ frames := 2, cells := 0, slots := 0, locals := 45 } : Room) s m [.ref a_0, .int x1].toArray below meth c H locs 0 0 QQ (F0 m 83 ls [.int j5, .ref a_0]) := by
                intro H locs ls hl hP hD hS
                refine wh_put (D := (dC, dI)) (ci := 10) (C := RX10) (T := TX10) (N := 26) (ty := .int) (v := .int j5) (ws' := (wl_fM_writeRow cI cZ cJ cQ a_0 a_0buffer a_0s a_0before a_0slots a_0isKept a_0cells a_0owner a_0code a_0table a_0isOver a_0isRuled a_0all a_0some a_0chosen a_0last a_0corner a_0wide a_0cuts a_0aside known_0 length_0 j5 many_0 round_0 seed_0 hash_0 buffer_0 s_0 before_0)) hx hb hts hiX10 tyX10 tyX10_ok nmX10 hown hK hP hD hS 0 rfl rfl 7 (by decide) (hts (.fieldLink RX10 69 "PaddockFieldsModel" "thrown" "I") (List.mem_cons_of_mem _ (List.mem_append_left _ (List.mem_of_getElem? (i := 0) rfl)))) (fun _ h9 => h9) rfl rfl rfl rfl (Nat.le_of_ble_eq_true rfl) rfl dX10_writeRow_83 (fun H locs hP hD hS => ?_)
                refine lv_iinc (v := (l2_10 + (1 : Int32))) (lv' := [(2, .int (l2_10 + (1 : Int32))), (0, .ref a_0), (1, .int x1)]) hx hb dX10_writeRow_86 hl (k := 2) rfl rfl (by decide) rfl (fun ls hl => ?_)
                refine lv_goto (tgt := 51) hx hb dX10_writeRow_89 (by decide) ?_
                exact ih _ _ hf _ _ _ (lv_sub hl [1, 2, 0] rfl) hP hD hS
              clear hf
              have hf := h_j5
              clear h_j5
              refine lv_if_le (tgt := 79) hx hb dX10_writeRow_72 (by decide) (fun cc => ?_) (fun cc => ?_)
              · replace hf := hf_pos cc hf
                refine lv_aload_n hx hb dX10_writeRow_79 rfl (lv_at hl 0 rfl) ?_
                refine va_get (D := (dC, dI)) (ci := 10) (C := RX10) (T := TX10) (N := 26) hx hb hts hiX10 hown hK hP 0 rfl rfl 7 (by decide) (hts (.fieldLink RX10 69 "PaddockFieldsModel" "thrown" "I") (List.mem_cons_of_mem _ (List.mem_append_left _ (List.mem_of_getElem? (i := 0) rfl)))) (fun _ h9 => h9) rfl dX10_writeRow_80 ?_
                obtain rfl := Option.some.inj hf
                exact hJ_12 _ _ _ (lv_sub hl [0, 1, 2] rfl) hP hD hS
              · replace hf := hf_neg cc hf
                refine lv_iconst (v := 3) hx hb dX10_writeRow_75 (by decide) ?_
                refine lv_goto (tgt := 83) hx hb dX10_writeRow_76 (by decide) ?_
                obtain rfl := Option.some.inj hf
                exact hJ_12 _ _ _ (lv_sub hl [0, 1, 2] rfl) hP hD hS
        exact hL_9 _ _ _ h_r6 _ _ _ (lv_sub hl [1, 2, 0] rfl) hP hD hS
      · replace hf := hf_neg cc hf
        refine lv_aload_n hx hb dX10_writeRow_40 rfl (lv_at hl 0 rfl) ?_
        refine lv_iconst (v := 2) hx hb dX10_writeRow_41 (by decide) ?_
        obtain ⟨s13, h_s13, hf⟩ := hf_bind hf
        refine wh_calli (D := (dC, dI)) (ws' := (wl_fM_writeRow cI cZ cJ cQ a_0 a_0buffer a_0s a_0before a_0slots a_0isKept a_0cells a_0owner a_0code a_0table a_0isOver a_0isRuled a_0all a_0some a_0chosen a_0last a_0corner a_0wide a_0cuts a_0aside known_0 length_0 s13.2 many_0 round_0 seed_0 hash_0 buffer_0 s_0 before_0)) (va_runV (As := [.int (2 : Int32)]) (rest := []) ⟨hx, hb, hml, hown, hts⟩ (c_fM_throwing l dC dI cI cZ cJ cQ a_0 a_0s a_0before a_0slots a_0isKept a_0buffer a_0cells a_0owner a_0code a_0table a_0isOver a_0isRuled a_0all a_0some a_0chosen a_0last a_0corner a_0wide a_0cuts a_0aside known_0 length_0 many_0 round_0 seed_0 hash_0 _ h_s13) (cwV 1 hts gX10_writeRow_X10_throwing rfl rfl rfl (by decide +kernel) ⟨Nat.le_of_ble_eq_true rfl, Nat.le_of_ble_eq_true rfl⟩) (wh_preV (C := RX10) (T := TX10) (N := 26) hK hN hP hD [0] rfl rfl 10 0 rfl rfl) rfl rfl hl.1 rfl (lv_room (Nat.le_of_ble_eq_true rfl)) dX10_writeRow_42 ⟨Nat.le_refl _, Nat.le_refl _⟩) hP hD hS hA [0] [1, 2, 3] [3, 0, 1, 2] rfl rfl rfl rfl (fun H locs hP hD hS => ?_)
        obtain rfl := Option.some.inj hf
        exact hret _ _ _ _ hP hD hS dX10_writeRow_45
  · replace hf := hf_neg (not_not_intro cc) hf
    refine lv_aload_n hx hb dX10_writeRow_14 rfl (lv_at hl 0 rfl) ?_
    refine lv_iconst (v := 1) hx hb dX10_writeRow_15 (by decide) ?_
    obtain ⟨s14, h_s14, hf⟩ := hf_bind hf
    refine wh_calli (D := (dC, dI)) (ws' := (wl_fM_writeRow cI cZ cJ cQ a_0 a_0buffer a_0s a_0before a_0slots a_0isKept a_0cells a_0owner a_0code a_0table a_0isOver a_0isRuled a_0all a_0some a_0chosen a_0last a_0corner a_0wide a_0cuts a_0aside known_0 length_0 s14.2 many_0 round_0 seed_0 hash_0 buffer_0 s_0 before_0)) (va_runV (As := [.int (1 : Int32)]) (rest := []) ⟨hx, hb, hml, hown, hts⟩ (c_fM_throwing l dC dI cI cZ cJ cQ a_0 a_0s a_0before a_0slots a_0isKept a_0buffer a_0cells a_0owner a_0code a_0table a_0isOver a_0isRuled a_0all a_0some a_0chosen a_0last a_0corner a_0wide a_0cuts a_0aside known_0 length_0 many_0 round_0 seed_0 hash_0 _ h_s14) (cwV 1 hts gX10_writeRow_X10_throwing rfl rfl rfl (by decide +kernel) ⟨Nat.le_of_ble_eq_true rfl, Nat.le_of_ble_eq_true rfl⟩) (wh_preV (C := RX10) (T := TX10) (N := 26) hK hN hP hD [0] rfl rfl 10 0 rfl rfl) rfl rfl hl.1 rfl (lv_room (Nat.le_of_ble_eq_true rfl)) dX10_writeRow_16 ⟨Nat.le_refl _, Nat.le_refl _⟩) hP hD hS hA [0] [1, 2, 3] [3, 0, 1, 2] rfl rfl rfl rfl (fun H locs hP hD hS => ?_)
    obtain rfl := Option.some.inj hf
    exact hret _ _ _ _ hP hD hS dX10_writeRow_19
set_option maxHeartbeats 4000000 in
set_option maxRecDepth 100000 in
theorem c_fM_keep (l : Launch) (dC : Nat → ClassId) (dI : Nat → Nat → Nat) (cI cZ cJ cQ : ClassId) (a_0 a_0s a_0slots a_0isKept a_0before a_0buffer a_0cells a_0owner a_0code a_0table a_0isOver a_0isRuled a_0all a_0some a_0chosen a_0last a_0corner a_0wide a_0cuts a_0aside : Nat) (known_0 : Int32) (length_0 : Int32) (many_0 : Int32) (round_0 : Int32) (seed_0 : Int64) (hash_0 : Int64) (sz : Nat) {F : Nat} {x1 : Int32} {thrown_0 : Int32} {s_0 : Nat → Int32} {slots_0 : Nat → Int32} {isKept_0 : Nat → Int32} {out : Int32 × (Nat → Int32) × (Nat → Int32)} (hf : fM_keep F x1 thrown_0 s_0 slots_0 isKept_0 = some out) : Met l yX10_keep wsX10_keep ({ frames := 1, cells := 0, slots := 0, locals := 22 } : Room) (va_Pc [.ref a_0, .int x1] (wlP (dC, dI) (wlT cI cZ cJ cQ) (wl_fM_keep cI cZ cJ cQ a_0 a_0s a_0slots a_0isKept a_0before a_0buffer a_0cells a_0owner a_0code a_0table a_0isOver a_0isRuled a_0all a_0some a_0chosen a_0last a_0corner a_0wide a_0cuts a_0aside known_0 length_0 thrown_0 many_0 round_0 seed_0 hash_0 s_0 slots_0 isKept_0) sz)) (va_Qv (fun (_ : Unit) => True) (wlQ (dC, dI) (va_A (wl_fM_keep cI cZ cJ cQ a_0 a_0s a_0slots a_0isKept a_0before a_0buffer a_0cells a_0owner a_0code a_0table a_0isOver a_0isRuled a_0all a_0some a_0chosen a_0last a_0corner a_0wide a_0cuts a_0aside known_0 length_0 thrown_0 many_0 round_0 seed_0 hash_0 s_0 slots_0 isKept_0) sz) (wl_fM_keep cI cZ cJ cQ a_0 a_0s a_0slots a_0isKept a_0before a_0buffer a_0cells a_0owner a_0code a_0table a_0isOver a_0isRuled a_0all a_0some a_0chosen a_0last a_0corner a_0wide a_0cuts a_0aside known_0 length_0 out.1 many_0 round_0 seed_0 hash_0 s_0 out.2.1 out.2.2)) (va_A (wl_fM_keep cI cZ cJ cQ a_0 a_0s a_0slots a_0isKept a_0before a_0buffer a_0cells a_0owner a_0code a_0table a_0isOver a_0isRuled a_0all a_0some a_0chosen a_0last a_0corner a_0wide a_0cuts a_0aside known_0 length_0 thrown_0 many_0 round_0 seed_0 hash_0 s_0 slots_0 isKept_0) sz)) 0 0 (va_A (wl_fM_keep cI cZ cJ cQ a_0 a_0s a_0slots a_0isKept a_0before a_0buffer a_0cells a_0owner a_0code a_0table a_0isOver a_0isRuled a_0all a_0some a_0chosen a_0last a_0corner a_0wide a_0cuts a_0aside known_0 length_0 thrown_0 many_0 round_0 seed_0 hash_0 s_0 slots_0 isKept_0) sz) := by
  refine wh_ofWv (lv := [(0, .ref a_0), (1, .int x1)]) RX10 (by decide) rfl rfl (Nat.le_of_ble_eq_true rfl) rfl ?_
  intro p e s m below meth c A QQ hx hb hml hown hts hP hK hN hD hA hret ls hl
  have hS : va_S A s.heap s.heap [] := va_S.rf
  have hiX10 : ∀ w ∈ wsX100, w ∈ wsX10_keep := (fun _ h => List.mem_cons_of_mem _ (List.mem_append_right _ (h)))
  unfold fM_keep at hf
  refine lv_aload_n hx hb dX10_keep_0 rfl (lv_at hl 0 rfl) ?_
  refine lv_iload_n hx hb dX10_keep_1 rfl (lv_at hl 1 rfl) ?_
  refine lv_iconst (v := 0) hx hb dX10_keep_2 (by decide) ?_
  refine lv_iconst (v := 1) hx hb dX10_keep_3 (by decide) ?_
  obtain ⟨s1, h_s1, hf⟩ := hf_bind hf
  refine wh_calli (D := (dC, dI)) (ws' := (wl_fM_keep cI cZ cJ cQ a_0 a_0s a_0slots a_0isKept a_0before a_0buffer a_0cells a_0owner a_0code a_0table a_0isOver a_0isRuled a_0all a_0some a_0chosen a_0last a_0corner a_0wide a_0cuts a_0aside known_0 length_0 thrown_0 many_0 round_0 seed_0 hash_0 s_0 slots_0 isKept_0)) (va_runS (As := [.int x1, .int (0 : Int32), .int (1 : Int32)]) (rest := [.ref a_0]) ⟨hx, hb, hml, hown, hts⟩ (c_fM_in l dC dI cI cZ cJ cQ _ h_s1) (va_cwS 3 hts gX10_keep_X10_in rfl rfl rfl (by decide +kernel) ⟨Nat.le_of_ble_eq_true rfl, Nat.le_of_ble_eq_true rfl⟩) (wh_preS hK hN hP hD [] rfl rfl) rfl rfl hl.1 rfl (lv_room (Nat.le_of_ble_eq_true rfl)) dX10_keep_4 ⟨Nat.le_refl _, Nat.le_refl _⟩) hP hD hS hA [] [0, 1, 2, 3] [0, 1, 2, 3] rfl rfl rfl rfl (fun H locs hP hD hS => ?_)
  obtain ⟨j2, h_j2, hf⟩ := hf_bind hf
  have hJ_1 : ∀ (H : Heap) (locs : List Loc) (ls : Array Slot), lv_has ls 3 [(0, .ref a_0), (1, .int x1)] → va_P (dC, dI) vwCl (wl_fM_keep cI cZ cJ cQ a_0 a_0s a_0slots a_0isKept a_0before a_0buffer a_0cells a_0owner a_0code a_0table a_0isOver a_0isRuled a_0all a_0some a_0chosen a_0last a_0corner a_0wide a_0cuts a_0aside known_0 length_0 thrown_0 many_0 round_0 seed_0 hash_0 s_0 slots_0 isKept_0) H → va_D A (wl_fM_keep cI cZ cJ cQ a_0 a_0s a_0slots a_0isKept a_0before a_0buffer a_0cells a_0owner a_0code a_0table a_0isOver a_0isRuled a_0all a_0some a_0chosen a_0last a_0corner a_0wide a_0cuts a_0aside known_0 length_0 thrown_0 many_0 round_0 seed_0 hash_0 s_0 slots_0 isKept_0) → va_S A s.heap H locs → W p l e ({ frames := 1, cells := 0, slots := 0, locals := 22 } : Room) s m [.ref a_0, .int x1].toArray below meth c H locs 0 0 QQ (F0 m 15 ls [.int j2, .ref a_0]) := by
    intro H locs ls hl hP hD hS
    refine wh_put (D := (dC, dI)) (ci := 10) (C := RX10) (T := TX10) (N := 26) (ty := .int) (v := .int j2) (ws' := (wl_fM_keep cI cZ cJ cQ a_0 a_0s a_0slots a_0isKept a_0before a_0buffer a_0cells a_0owner a_0code a_0table a_0isOver a_0isRuled a_0all a_0some a_0chosen a_0last a_0corner a_0wide a_0cuts a_0aside known_0 length_0 j2 many_0 round_0 seed_0 hash_0 s_0 slots_0 isKept_0)) hx hb hts hiX10 tyX10 tyX10_ok nmX10 hown hK hP hD hS 0 rfl rfl 7 (by decide) (hts (.fieldLink RX10 69 "PaddockFieldsModel" "thrown" "I") (List.mem_cons_of_mem _ (List.mem_append_left _ (List.mem_of_getElem? (i := 0) rfl)))) (fun _ h9 => h9) rfl rfl rfl rfl (Nat.le_of_ble_eq_true rfl) rfl dX10_keep_15 (fun H locs hP hD hS => ?_)
    refine lv_iconst (v := 0) hx hb dX10_keep_18 (by decide) ?_
    refine lv_istore_n (lv' := [(2, .int (0 : Int32)), (0, .ref a_0), (1, .int x1)]) hx hb dX10_keep_19 rfl hl (by decide) rfl (fun ls hl => ?_)
    obtain ⟨r5, h_r5, hf⟩ := hf_bind hf
    have hE_2 : ∀ (H : Heap) (locs : List Loc) (ls : Array Slot), lv_has ls 3 [(0, .ref a_0), (1, .int x1)] → va_P (dC, dI) vwCl (wl_fM_keep cI cZ cJ cQ a_0 a_0s a_0slots a_0isKept a_0before a_0buffer a_0cells a_0owner a_0code a_0table a_0isOver a_0isRuled a_0all a_0some a_0chosen a_0last a_0corner a_0wide a_0cuts a_0aside known_0 length_0 j2 many_0 round_0 seed_0 hash_0 s_0 r5.2 isKept_0) H → va_D A (wl_fM_keep cI cZ cJ cQ a_0 a_0s a_0slots a_0isKept a_0before a_0buffer a_0cells a_0owner a_0code a_0table a_0isOver a_0isRuled a_0all a_0some a_0chosen a_0last a_0corner a_0wide a_0cuts a_0aside known_0 length_0 j2 many_0 round_0 seed_0 hash_0 s_0 r5.2 isKept_0) → va_S A s.heap H locs → W p l e ({ frames := 1, cells := 0, slots := 0, locals := 22 } : Room) s m [.ref a_0, .int x1].toArray below meth c H locs 0 0 QQ (F0 m 56 ls []) := by
      intro H locs ls hl hP hD hS
      refine lv_aload_n hx hb dX10_keep_56 rfl (lv_at hl 0 rfl) ?_
      refine va_get (D := (dC, dI)) (ci := 10) (C := RX10) (T := TX10) (N := 26) hx hb hts hiX10 hown hK hP 0 rfl rfl 7 (by decide) (hts (.fieldLink RX10 69 "PaddockFieldsModel" "thrown" "I") (List.mem_cons_of_mem _ (List.mem_append_left _ (List.mem_of_getElem? (i := 0) rfl)))) (fun _ h9 => h9) rfl dX10_keep_57 ?_
      refine lv_if_ne (tgt := 70) hx hb dX10_keep_60 (by decide) (fun cc => ?_) (fun cc => ?_)
      · replace hf := hf_pos cc hf
        obtain rfl := Option.some.inj hf
        exact hret _ _ _ _ hP hD hS dX10_keep_70
      · replace hf := hf_neg (not_not_intro cc) hf
        refine lv_aload_n hx hb dX10_keep_63 rfl (lv_at hl 0 rfl) ?_
        refine va_get (D := (dC, dI)) (ci := 10) (C := RX10) (T := TX10) (N := 26) hx hb hts hiX10 hown hK hP 0 rfl rfl 4 (by decide) (hts (.fieldLink RX10 19 "PaddockFieldsModel" "isKept" "[Z") (List.mem_cons_of_mem _ (List.mem_append_left _ (List.mem_of_getElem? (i := 3) rfl)))) (fun _ h9 => h9) rfl dX10_keep_64 ?_
        refine lv_iload_n hx hb dX10_keep_67 rfl (lv_at hl 1 rfl) ?_
        refine lv_iconst (v := 1) hx hb dX10_keep_68 (by decide) ?_
        obtain ⟨w6, h_w6, hf⟩ := hf_bind hf
        refine wh_stZ (D := (dC, dI)) (ws' := (wl_fM_keep cI cZ cJ cQ a_0 a_0s a_0slots a_0isKept a_0before a_0buffer a_0cells a_0owner a_0code a_0table a_0isOver a_0isRuled a_0all a_0some a_0chosen a_0last a_0corner a_0wide a_0cuts a_0aside known_0 length_0 j2 many_0 round_0 seed_0 hash_0 s_0 r5.2 w6)) hx hb hK hP hD hS 3 1 rfl rfl rfl h_w6 dX10_keep_69 (fun H locs hP hD hS => ?_)
        obtain rfl := Option.some.inj hf
        exact hret _ _ _ _ hP hD hS dX10_keep_70
    have hL_3 : ∀ (N : Nat) (l2_4 : Int32) (slots_0_5 : Nat → Int32), fM_keep_L20 F x1 j2 s_0 N l2_4 slots_0_5 = some r5 → ∀ (H : Heap) (locs : List Loc) (ls : Array Slot), lv_has ls 3 [(0, .ref a_0), (1, .int x1), (2, .int l2_4)] → va_P (dC, dI) vwCl (wl_fM_keep cI cZ cJ cQ a_0 a_0s a_0slots a_0isKept a_0before a_0buffer a_0cells a_0owner a_0code a_0table a_0isOver a_0isRuled a_0all a_0some a_0chosen a_0last a_0corner a_0wide a_0cuts a_0aside known_0 length_0 j2 many_0 round_0 seed_0 hash_0 s_0 slots_0_5 isKept_0) H → va_D A (wl_fM_keep cI cZ cJ cQ a_0 a_0s a_0slots a_0isKept a_0before a_0buffer a_0cells a_0owner a_0code a_0table a_0isOver a_0isRuled a_0all a_0some a_0chosen a_0last a_0corner a_0wide a_0cuts a_0aside known_0 length_0 j2 many_0 round_0 seed_0 hash_0 s_0 slots_0_5 isKept_0) → va_S A s.heap H locs → W p l e ({ frames := 1, cells := 0, slots := 0, locals := 22 } : Room) s m [.ref a_0, .int x1].toArray below meth c H locs 0 0 QQ (F0 m 20 ls []) := by
      intro N
      induction N with
      | zero => intro l2_4 slots_0_5 hf; exact nomatch (show none = some _ from hf)
      | succ N ih =>
        intro l2_4 slots_0_5 hf H locs ls hl hP hD hS
        rw [fM_keep_L20] at hf
        refine lv_iload_n hx hb dX10_keep_20 rfl (lv_at hl 2 rfl) ?_
        refine lv_bipush (v := 84) hx hb dX10_keep_21 (by decide) ?_
        refine lv_icmp_ge (tgt := 56) hx hb dX10_keep_23 (by decide) (fun cc => ?_) (fun cc => ?_)
        · replace hf := hf_pos cc hf
          obtain rfl := Option.some.inj hf
          exact hE_2 _ _ _ (lv_sub hl [0, 1] rfl) hP hD hS
        · replace hf := hf_neg cc hf
          refine lv_aload_n hx hb dX10_keep_26 rfl (lv_at hl 0 rfl) ?_
          refine va_get (D := (dC, dI)) (ci := 10) (C := RX10) (T := TX10) (N := 26) hx hb hts hiX10 hown hK hP 0 rfl rfl 7 (by decide) (hts (.fieldLink RX10 69 "PaddockFieldsModel" "thrown" "I") (List.mem_cons_of_mem _ (List.mem_append_left _ (List.mem_of_getElem? (i := 0) rfl)))) (fun _ h9 => h9) rfl dX10_keep_27 ?_
          refine lv_if_ne (tgt := 56) hx hb dX10_keep_30 (by decide) (fun cc => ?_) (fun cc => ?_)
          · replace hf := hf_pos cc hf
            obtain rfl := Option.some.inj hf
            exact hE_2 _ _ _ (lv_sub hl [0, 1] rfl) hP hD hS
          · replace hf := hf_neg (not_not_intro cc) hf
            refine lv_aload_n hx hb dX10_keep_33 rfl (lv_at hl 0 rfl) ?_
            refine va_get (D := (dC, dI)) (ci := 10) (C := RX10) (T := TX10) (N := 26) hx hb hts hiX10 hown hK hP 0 rfl rfl 3 (by decide) (hts (.fieldLink RX10 16 "PaddockFieldsModel" "slots" "[I") (List.mem_cons_of_mem _ (List.mem_append_left _ (List.mem_of_getElem? (i := 1) rfl)))) (fun _ h9 => h9) rfl dX10_keep_34 ?_
            refine lv_bipush (v := 84) hx hb dX10_keep_37 (by decide) ?_
            refine lv_iload_n hx hb dX10_keep_39 rfl (lv_at hl 1 rfl) ?_
            refine lv_imul hx hb dX10_keep_40 ?_
            refine lv_iload_n hx hb dX10_keep_41 rfl (lv_at hl 2 rfl) ?_
            refine lv_iadd hx hb dX10_keep_42 ?_
            refine lv_aload_n hx hb dX10_keep_43 rfl (lv_at hl 0 rfl) ?_
            refine va_get (D := (dC, dI)) (ci := 10) (C := RX10) (T := TX10) (N := 26) hx hb hts hiX10 hown hK hP 0 rfl rfl 0 (by decide) (hts (.fieldLink RX10 7 "PaddockFieldsModel" "s" "[I") (List.mem_cons_of_mem _ (List.mem_append_left _ (List.mem_of_getElem? (i := 2) rfl)))) (fun _ h9 => h9) rfl dX10_keep_44 ?_
            refine lv_iload_n hx hb dX10_keep_47 rfl (lv_at hl 2 rfl) ?_
            obtain ⟨v3, h_v3, hf⟩ := hf_bind hf
            refine wh_ldI (D := (dC, dI)) hx hb hK hP 1 0 rfl rfl h_v3 dX10_keep_48 ?_
            obtain ⟨w4, h_w4, hf⟩ := hf_bind hf
            refine wh_stI (D := (dC, dI)) (ws' := (wl_fM_keep cI cZ cJ cQ a_0 a_0s a_0slots a_0isKept a_0before a_0buffer a_0cells a_0owner a_0code a_0table a_0isOver a_0isRuled a_0all a_0some a_0chosen a_0last a_0corner a_0wide a_0cuts a_0aside known_0 length_0 j2 many_0 round_0 seed_0 hash_0 s_0 w4 isKept_0)) hx hb hK hP hD hS 2 0 rfl rfl rfl h_w4 dX10_keep_49 (fun H locs hP hD hS => ?_)
            refine lv_iinc (v := (l2_4 + (1 : Int32))) (lv' := [(2, .int (l2_4 + (1 : Int32))), (0, .ref a_0), (1, .int x1)]) hx hb dX10_keep_50 hl (k := 2) rfl rfl (by decide) rfl (fun ls hl => ?_)
            refine lv_goto (tgt := 20) hx hb dX10_keep_53 (by decide) ?_
            exact ih _ _ hf _ _ _ (lv_sub hl [1, 2, 0] rfl) hP hD hS
    exact hL_3 _ _ _ h_r5 _ _ _ (lv_sub hl [1, 2, 0] rfl) hP hD hS
  clear hf
  have hf := h_j2
  clear h_j2
  refine lv_if_eq (tgt := 14) hx hb dX10_keep_7 (by decide) (fun cc => ?_) (fun cc => ?_)
  · replace hf := hf_pos cc hf
    refine lv_iconst (v := 1) hx hb dX10_keep_14 (by decide) ?_
    obtain rfl := Option.some.inj hf
    exact hJ_1 _ _ _ (lv_sub hl [0, 1] rfl) hP hD hS
  · replace hf := hf_neg cc hf
    refine lv_iconst (v := 0) hx hb dX10_keep_10 (by decide) ?_
    refine lv_goto (tgt := 15) hx hb dX10_keep_11 (by decide) ?_
    obtain rfl := Option.some.inj hf
    exact hJ_1 _ _ _ (lv_sub hl [0, 1] rfl) hP hD hS
set_option maxHeartbeats 4000000 in
set_option maxRecDepth 100000 in
theorem c_fM_goBack (l : Launch) (dC : Nat → ClassId) (dI : Nat → Nat → Nat) (cI cZ cJ cQ : ClassId) (a_0 a_0isKept a_0before a_0s a_0slots a_0buffer a_0cells a_0owner a_0code a_0table a_0isOver a_0isRuled a_0all a_0some a_0chosen a_0last a_0corner a_0wide a_0cuts a_0aside : Nat) (length_0 : Int32) (many_0 : Int32) (round_0 : Int32) (seed_0 : Int64) (hash_0 : Int64) (sz : Nat) {F : Nat} {x1 : Int32} {isKept_0 : Nat → Int32} {thrown_0 : Int32} {known_0 : Int32} {before_0 : Nat → Int32} {s_0 : Nat → Int32} {slots_0 : Nat → Int32} {out : Int32 × (Nat → Int32) × Int32 × (Nat → Int32)} (hf : fM_goBack F x1 isKept_0 thrown_0 known_0 before_0 s_0 slots_0 = some out) : Met l yX10_goBack wsX10_goBack ({ frames := 1, cells := 0, slots := 0, locals := 22 } : Room) (va_Pc [.ref a_0, .int x1] (wlP (dC, dI) (wlT cI cZ cJ cQ) (wl_fM_goBack cI cZ cJ cQ a_0 a_0isKept a_0before a_0s a_0slots a_0buffer a_0cells a_0owner a_0code a_0table a_0isOver a_0isRuled a_0all a_0some a_0chosen a_0last a_0corner a_0wide a_0cuts a_0aside known_0 length_0 thrown_0 many_0 round_0 seed_0 hash_0 isKept_0 before_0 s_0 slots_0) sz)) (va_Qv (fun (_ : Unit) => True) (wlQ (dC, dI) (va_A (wl_fM_goBack cI cZ cJ cQ a_0 a_0isKept a_0before a_0s a_0slots a_0buffer a_0cells a_0owner a_0code a_0table a_0isOver a_0isRuled a_0all a_0some a_0chosen a_0last a_0corner a_0wide a_0cuts a_0aside known_0 length_0 thrown_0 many_0 round_0 seed_0 hash_0 isKept_0 before_0 s_0 slots_0) sz) (wl_fM_goBack cI cZ cJ cQ a_0 a_0isKept a_0before a_0s a_0slots a_0buffer a_0cells a_0owner a_0code a_0table a_0isOver a_0isRuled a_0all a_0some a_0chosen a_0last a_0corner a_0wide a_0cuts a_0aside out.2.2.1 length_0 out.1 many_0 round_0 seed_0 hash_0 isKept_0 out.2.1 out.2.2.2 slots_0)) (va_A (wl_fM_goBack cI cZ cJ cQ a_0 a_0isKept a_0before a_0s a_0slots a_0buffer a_0cells a_0owner a_0code a_0table a_0isOver a_0isRuled a_0all a_0some a_0chosen a_0last a_0corner a_0wide a_0cuts a_0aside known_0 length_0 thrown_0 many_0 round_0 seed_0 hash_0 isKept_0 before_0 s_0 slots_0) sz)) 0 0 (va_A (wl_fM_goBack cI cZ cJ cQ a_0 a_0isKept a_0before a_0s a_0slots a_0buffer a_0cells a_0owner a_0code a_0table a_0isOver a_0isRuled a_0all a_0some a_0chosen a_0last a_0corner a_0wide a_0cuts a_0aside known_0 length_0 thrown_0 many_0 round_0 seed_0 hash_0 isKept_0 before_0 s_0 slots_0) sz) := by
  refine wh_ofWv (lv := [(0, .ref a_0), (1, .int x1)]) RX10 (by decide) rfl rfl (Nat.le_of_ble_eq_true rfl) rfl ?_
  intro p e s m below meth c A QQ hx hb hml hown hts hP hK hN hD hA hret ls hl
  have hS : va_S A s.heap s.heap [] := va_S.rf
  have hiX10 : ∀ w ∈ wsX100, w ∈ wsX10_goBack := (fun _ h => List.mem_cons_of_mem _ (List.mem_append_right _ (h)))
  unfold fM_goBack at hf
  refine lv_aload_n hx hb dX10_goBack_0 rfl (lv_at hl 0 rfl) ?_
  refine lv_iload_n hx hb dX10_goBack_1 rfl (lv_at hl 1 rfl) ?_
  refine lv_iconst (v := 0) hx hb dX10_goBack_2 (by decide) ?_
  refine lv_iconst (v := 1) hx hb dX10_goBack_3 (by decide) ?_
  obtain ⟨s1, h_s1, hf⟩ := hf_bind hf
  refine wh_calli (D := (dC, dI)) (ws' := (wl_fM_goBack cI cZ cJ cQ a_0 a_0isKept a_0before a_0s a_0slots a_0buffer a_0cells a_0owner a_0code a_0table a_0isOver a_0isRuled a_0all a_0some a_0chosen a_0last a_0corner a_0wide a_0cuts a_0aside known_0 length_0 thrown_0 many_0 round_0 seed_0 hash_0 isKept_0 before_0 s_0 slots_0)) (va_runS (As := [.int x1, .int (0 : Int32), .int (1 : Int32)]) (rest := [.ref a_0]) ⟨hx, hb, hml, hown, hts⟩ (c_fM_in l dC dI cI cZ cJ cQ _ h_s1) (va_cwS 3 hts gX10_goBack_X10_in rfl rfl rfl (by decide +kernel) ⟨Nat.le_of_ble_eq_true rfl, Nat.le_of_ble_eq_true rfl⟩) (wh_preS hK hN hP hD [] rfl rfl) rfl rfl hl.1 rfl (lv_room (Nat.le_of_ble_eq_true rfl)) dX10_goBack_4 ⟨Nat.le_refl _, Nat.le_refl _⟩) hP hD hS hA [] [0, 1, 2, 3, 4] [0, 1, 2, 3, 4] rfl rfl rfl rfl (fun H locs hP hD hS => ?_)
  obtain ⟨j3, h_j3, hf⟩ := hf_bind hf
  have hJ_1 : ∀ (H : Heap) (locs : List Loc) (ls : Array Slot), lv_has ls 3 [(0, .ref a_0), (1, .int x1)] → va_P (dC, dI) vwCl (wl_fM_goBack cI cZ cJ cQ a_0 a_0isKept a_0before a_0s a_0slots a_0buffer a_0cells a_0owner a_0code a_0table a_0isOver a_0isRuled a_0all a_0some a_0chosen a_0last a_0corner a_0wide a_0cuts a_0aside known_0 length_0 thrown_0 many_0 round_0 seed_0 hash_0 isKept_0 before_0 s_0 slots_0) H → va_D A (wl_fM_goBack cI cZ cJ cQ a_0 a_0isKept a_0before a_0s a_0slots a_0buffer a_0cells a_0owner a_0code a_0table a_0isOver a_0isRuled a_0all a_0some a_0chosen a_0last a_0corner a_0wide a_0cuts a_0aside known_0 length_0 thrown_0 many_0 round_0 seed_0 hash_0 isKept_0 before_0 s_0 slots_0) → va_S A s.heap H locs → W p l e ({ frames := 1, cells := 0, slots := 0, locals := 22 } : Room) s m [.ref a_0, .int x1].toArray below meth c H locs 0 0 QQ (F0 m 28 ls [.int j3, .ref a_0]) := by
    intro H locs ls hl hP hD hS
    refine wh_put (D := (dC, dI)) (ci := 10) (C := RX10) (T := TX10) (N := 26) (ty := .int) (v := .int j3) (ws' := (wl_fM_goBack cI cZ cJ cQ a_0 a_0isKept a_0before a_0s a_0slots a_0buffer a_0cells a_0owner a_0code a_0table a_0isOver a_0isRuled a_0all a_0some a_0chosen a_0last a_0corner a_0wide a_0cuts a_0aside known_0 length_0 j3 many_0 round_0 seed_0 hash_0 isKept_0 before_0 s_0 slots_0)) hx hb hts hiX10 tyX10 tyX10_ok nmX10 hown hK hP hD hS 0 rfl rfl 7 (by decide) (hts (.fieldLink RX10 69 "PaddockFieldsModel" "thrown" "I") (List.mem_cons_of_mem _ (List.mem_append_left _ (List.mem_of_getElem? (i := 1) rfl)))) (fun _ h9 => h9) rfl rfl rfl rfl (Nat.le_of_ble_eq_true rfl) rfl dX10_goBack_28 (fun H locs hP hD hS => ?_)
    refine lv_aload_n hx hb dX10_goBack_31 rfl (lv_at hl 0 rfl) ?_
    refine va_get (D := (dC, dI)) (ci := 10) (C := RX10) (T := TX10) (N := 26) hx hb hts hiX10 hown hK hP 0 rfl rfl 7 (by decide) (hts (.fieldLink RX10 69 "PaddockFieldsModel" "thrown" "I") (List.mem_cons_of_mem _ (List.mem_append_left _ (List.mem_of_getElem? (i := 1) rfl)))) (fun _ h9 => h9) rfl dX10_goBack_32 ?_
    refine lv_if_ne (tgt := 73) hx hb dX10_goBack_35 (by decide) (fun cc => ?_) (fun cc => ?_)
    · replace hf := hf_pos cc hf
      obtain rfl := Option.some.inj hf
      exact hret _ _ _ _ hP hD hS dX10_goBack_73
    · replace hf := hf_neg (not_not_intro cc) hf
      refine lv_aload_n hx hb dX10_goBack_38 rfl (lv_at hl 0 rfl) ?_
      obtain ⟨s4, h_s4, hf⟩ := hf_bind hf
      refine wh_callv (D := (dC, dI)) (ws' := (wl_fM_goBack cI cZ cJ cQ a_0 a_0isKept a_0before a_0s a_0slots a_0buffer a_0cells a_0owner a_0code a_0table a_0isOver a_0isRuled a_0all a_0some a_0chosen a_0last a_0corner a_0wide a_0cuts a_0aside s4.2 length_0 j3 many_0 round_0 seed_0 hash_0 isKept_0 s4.1 s_0 slots_0)) (va_runV (As := []) (rest := []) ⟨hx, hb, hml, hown, hts⟩ (c_fM_save l dC dI cI cZ cJ cQ a_0 a_0before a_0s a_0slots a_0isKept a_0buffer a_0cells a_0owner a_0code a_0table a_0isOver a_0isRuled a_0all a_0some a_0chosen a_0last a_0corner a_0wide a_0cuts a_0aside length_0 j3 many_0 round_0 seed_0 hash_0 _ h_s4) (cwV 0 hts gX10_goBack_X10_save rfl rfl rfl (by decide +kernel) ⟨Nat.le_of_ble_eq_true rfl, Nat.le_of_ble_eq_true rfl⟩) (wh_preV (C := RX10) (T := TX10) (N := 26) hK hN hP hD [0, 2, 3] rfl rfl 10 0 rfl rfl) rfl rfl hl.1 rfl (lv_room (Nat.le_of_ble_eq_true rfl)) dX10_goBack_39 ⟨Nat.le_refl _, Nat.le_refl _⟩) hP hD hS hA [0, 2, 3] [1, 4] [2, 0, 3, 4, 1] rfl rfl rfl rfl (fun H locs hP hD hS => ?_)
      refine lv_iconst (v := 0) hx hb dX10_goBack_42 (by decide) ?_
      refine lv_istore_n (lv' := [(2, .int (0 : Int32)), (0, .ref a_0), (1, .int x1)]) hx hb dX10_goBack_43 rfl hl (by decide) rfl (fun ls hl => ?_)
      obtain ⟨r7, h_r7, hf⟩ := hf_bind hf
      have hE_2 : ∀ (H : Heap) (locs : List Loc) (ls : Array Slot), lv_has ls 3 [] → va_P (dC, dI) vwCl (wl_fM_goBack cI cZ cJ cQ a_0 a_0isKept a_0before a_0s a_0slots a_0buffer a_0cells a_0owner a_0code a_0table a_0isOver a_0isRuled a_0all a_0some a_0chosen a_0last a_0corner a_0wide a_0cuts a_0aside s4.2 length_0 j3 many_0 round_0 seed_0 hash_0 isKept_0 s4.1 r7.2 slots_0) H → va_D A (wl_fM_goBack cI cZ cJ cQ a_0 a_0isKept a_0before a_0s a_0slots a_0buffer a_0cells a_0owner a_0code a_0table a_0isOver a_0isRuled a_0all a_0some a_0chosen a_0last a_0corner a_0wide a_0cuts a_0aside s4.2 length_0 j3 many_0 round_0 seed_0 hash_0 isKept_0 s4.1 r7.2 slots_0) → va_S A s.heap H locs → W p l e ({ frames := 1, cells := 0, slots := 0, locals := 22 } : Room) s m [.ref a_0, .int x1].toArray below meth c H locs 0 0 QQ (F0 m 73 ls []) := by
        intro H locs ls hl hP hD hS
        obtain rfl := Option.some.inj hf
        exact hret _ _ _ _ hP hD hS dX10_goBack_73
      have hL_3 : ∀ (N : Nat) (l2_4 : Int32) (s_0_5 : Nat → Int32), fM_goBack_L44 F x1 slots_0 N l2_4 s_0_5 = some r7 → ∀ (H : Heap) (locs : List Loc) (ls : Array Slot), lv_has ls 3 [(0, .ref a_0), (1, .int x1), (2, .int l2_4)] → va_P (dC, dI) vwCl (wl_fM_goBack cI cZ cJ cQ a_0 a_0isKept a_0before a_0s a_0slots a_0buffer a_0cells a_0owner a_0code a_0table a_0isOver a_0isRuled a_0all a_0some a_0chosen a_0last a_0corner a_0wide a_0cuts a_0aside s4.2 length_0 j3 many_0 round_0 seed_0 hash_0 isKept_0 s4.1 s_0_5 slots_0) H → va_D A (wl_fM_goBack cI cZ cJ cQ a_0 a_0isKept a_0before a_0s a_0slots a_0buffer a_0cells a_0owner a_0code a_0table a_0isOver a_0isRuled a_0all a_0some a_0chosen a_0last a_0corner a_0wide a_0cuts a_0aside s4.2 length_0 j3 many_0 round_0 seed_0 hash_0 isKept_0 s4.1 s_0_5 slots_0) → va_S A s.heap H locs → W p l e ({ frames := 1, cells := 0, slots := 0, locals := 22 } : Room) s m [.ref a_0, .int x1].toArray below meth c H locs 0 0 QQ (F0 m 44 ls []) := by
        intro N
        induction N with
        | zero => intro l2_4 s_0_5 hf; exact nomatch (show none = some _ from hf)
        | succ N ih =>
          intro l2_4 s_0_5 hf H locs ls hl hP hD hS
          rw [fM_goBack_L44] at hf
          refine lv_iload_n hx hb dX10_goBack_44 rfl (lv_at hl 2 rfl) ?_
          refine lv_bipush (v := 84) hx hb dX10_goBack_45 (by decide) ?_
          refine lv_icmp_ge (tgt := 73) hx hb dX10_goBack_47 (by decide) (fun cc => ?_) (fun cc => ?_)
          · replace hf := hf_pos cc hf
            obtain rfl := Option.some.inj hf
            exact hE_2 _ _ _ (lv_sub hl [] rfl) hP hD hS
          · replace hf := hf_neg cc hf
            refine lv_aload_n hx hb dX10_goBack_50 rfl (lv_at hl 0 rfl) ?_
            refine va_get (D := (dC, dI)) (ci := 10) (C := RX10) (T := TX10) (N := 26) hx hb hts hiX10 hown hK hP 0 rfl rfl 0 (by decide) (hts (.fieldLink RX10 7 "PaddockFieldsModel" "s" "[I") (List.mem_cons_of_mem _ (List.mem_append_left _ (List.mem_of_getElem? (i := 2) rfl)))) (fun _ h9 => h9) rfl dX10_goBack_51 ?_
            refine lv_iload_n hx hb dX10_goBack_54 rfl (lv_at hl 2 rfl) ?_
            refine lv_aload_n hx hb dX10_goBack_55 rfl (lv_at hl 0 rfl) ?_
            refine va_get (D := (dC, dI)) (ci := 10) (C := RX10) (T := TX10) (N := 26) hx hb hts hiX10 hown hK hP 0 rfl rfl 3 (by decide) (hts (.fieldLink RX10 16 "PaddockFieldsModel" "slots" "[I") (List.mem_cons_of_mem _ (List.mem_append_left _ (List.mem_of_getElem? (i := 3) rfl)))) (fun _ h9 => h9) rfl dX10_goBack_56 ?_
            refine lv_bipush (v := 84) hx hb dX10_goBack_59 (by decide) ?_
            refine lv_iload_n hx hb dX10_goBack_61 rfl (lv_at hl 1 rfl) ?_
            refine lv_imul hx hb dX10_goBack_62 ?_
            refine lv_iload_n hx hb dX10_goBack_63 rfl (lv_at hl 2 rfl) ?_
            refine lv_iadd hx hb dX10_goBack_64 ?_
            obtain ⟨v5, h_v5, hf⟩ := hf_bind hf
            refine wh_ldI (D := (dC, dI)) hx hb hK hP 4 0 rfl rfl h_v5 dX10_goBack_65 ?_
            obtain ⟨w6, h_w6, hf⟩ := hf_bind hf
            refine wh_stI (D := (dC, dI)) (ws' := (wl_fM_goBack cI cZ cJ cQ a_0 a_0isKept a_0before a_0s a_0slots a_0buffer a_0cells a_0owner a_0code a_0table a_0isOver a_0isRuled a_0all a_0some a_0chosen a_0last a_0corner a_0wide a_0cuts a_0aside s4.2 length_0 j3 many_0 round_0 seed_0 hash_0 isKept_0 s4.1 w6 slots_0)) hx hb hK hP hD hS 3 0 rfl rfl rfl h_w6 dX10_goBack_66 (fun H locs hP hD hS => ?_)
            refine lv_iinc (v := (l2_4 + (1 : Int32))) (lv' := [(2, .int (l2_4 + (1 : Int32))), (0, .ref a_0), (1, .int x1)]) hx hb dX10_goBack_67 hl (k := 2) rfl rfl (by decide) rfl (fun ls hl => ?_)
            refine lv_goto (tgt := 44) hx hb dX10_goBack_70 (by decide) ?_
            exact ih _ _ hf _ _ _ (lv_sub hl [1, 2, 0] rfl) hP hD hS
      exact hL_3 _ _ _ h_r7 _ _ _ (lv_sub hl [1, 2, 0] rfl) hP hD hS
  clear hf
  have hf := h_j3
  clear h_j3
  refine lv_if_ne (tgt := 14) hx hb dX10_goBack_7 (by decide) (fun cc => ?_) (fun cc => ?_)
  · replace hf := hf_pos cc hf
    refine lv_aload_n hx hb dX10_goBack_14 rfl (lv_at hl 0 rfl) ?_
    refine va_get (D := (dC, dI)) (ci := 10) (C := RX10) (T := TX10) (N := 26) hx hb hts hiX10 hown hK hP 0 rfl rfl 4 (by decide) (hts (.fieldLink RX10 19 "PaddockFieldsModel" "isKept" "[Z") (List.mem_cons_of_mem _ (List.mem_append_left _ (List.mem_of_getElem? (i := 0) rfl)))) (fun _ h9 => h9) rfl dX10_goBack_15 ?_
    refine lv_iload_n hx hb dX10_goBack_18 rfl (lv_at hl 1 rfl) ?_
    obtain ⟨v2, h_v2, hf⟩ := hf_bind hf
    refine wh_ldZ (D := (dC, dI)) hx hb hK hP 1 1 rfl rfl h_v2 dX10_goBack_19 ?_
    refine lv_if_eq (tgt := 27) hx hb dX10_goBack_20 (by decide) (fun cc => ?_) (fun cc => ?_)
    · replace hf := hf_pos cc hf
      refine lv_iconst (v := 2) hx hb dX10_goBack_27 (by decide) ?_
      obtain rfl := Option.some.inj hf
      exact hJ_1 _ _ _ (lv_sub hl [0, 1] rfl) hP hD hS
    · replace hf := hf_neg cc hf
      refine lv_iconst (v := 0) hx hb dX10_goBack_23 (by decide) ?_
      refine lv_goto (tgt := 28) hx hb dX10_goBack_24 (by decide) ?_
      obtain rfl := Option.some.inj hf
      exact hJ_1 _ _ _ (lv_sub hl [0, 1] rfl) hP hD hS
  · replace hf := hf_neg (not_not_intro cc) hf
    refine lv_iconst (v := 1) hx hb dX10_goBack_10 (by decide) ?_
    refine lv_goto (tgt := 28) hx hb dX10_goBack_11 (by decide) ?_
    obtain rfl := Option.some.inj hf
    exact hJ_1 _ _ _ (lv_sub hl [0, 1] rfl) hP hD hS
set_option maxHeartbeats 4000000 in
set_option maxRecDepth 100000 in
theorem c_fM_undo (l : Launch) (dC : Nat → ClassId) (dI : Nat → Nat → Nat) (cI cZ cJ cQ : ClassId) (a_0 a_0before a_0s a_0slots a_0isKept a_0buffer a_0cells a_0owner a_0code a_0table a_0isOver a_0isRuled a_0all a_0some a_0chosen a_0last a_0corner a_0wide a_0cuts a_0aside : Nat) (length_0 : Int32) (many_0 : Int32) (round_0 : Int32) (seed_0 : Int64) (hash_0 : Int64) (sz : Nat) {F : Nat} {known_0 : Int32} {thrown_0 : Int32} {before_0 : Nat → Int32} {s_0 : Nat → Int32} {out : Int32 × Int32 × (Nat → Int32)} (hf : fM_undo F known_0 thrown_0 before_0 s_0 = some out) : Met l yX10_undo wsX10_undo ({ frames := 0, cells := 0, slots := 0, locals := 0 } : Room) (va_Pc [.ref a_0] (wlP (dC, dI) (wlT cI cZ cJ cQ) (wl_fM_undo cI cZ cJ cQ a_0 a_0before a_0s a_0slots a_0isKept a_0buffer a_0cells a_0owner a_0code a_0table a_0isOver a_0isRuled a_0all a_0some a_0chosen a_0last a_0corner a_0wide a_0cuts a_0aside known_0 length_0 thrown_0 many_0 round_0 seed_0 hash_0 before_0 s_0) sz)) (va_Qv (fun (_ : Unit) => True) (wlQ (dC, dI) (va_A (wl_fM_undo cI cZ cJ cQ a_0 a_0before a_0s a_0slots a_0isKept a_0buffer a_0cells a_0owner a_0code a_0table a_0isOver a_0isRuled a_0all a_0some a_0chosen a_0last a_0corner a_0wide a_0cuts a_0aside known_0 length_0 thrown_0 many_0 round_0 seed_0 hash_0 before_0 s_0) sz) (wl_fM_undo cI cZ cJ cQ a_0 a_0before a_0s a_0slots a_0isKept a_0buffer a_0cells a_0owner a_0code a_0table a_0isOver a_0isRuled a_0all a_0some a_0chosen a_0last a_0corner a_0wide a_0cuts a_0aside out.2.1 length_0 out.1 many_0 round_0 seed_0 hash_0 before_0 out.2.2)) (va_A (wl_fM_undo cI cZ cJ cQ a_0 a_0before a_0s a_0slots a_0isKept a_0buffer a_0cells a_0owner a_0code a_0table a_0isOver a_0isRuled a_0all a_0some a_0chosen a_0last a_0corner a_0wide a_0cuts a_0aside known_0 length_0 thrown_0 many_0 round_0 seed_0 hash_0 before_0 s_0) sz)) 0 0 (va_A (wl_fM_undo cI cZ cJ cQ a_0 a_0before a_0s a_0slots a_0isKept a_0buffer a_0cells a_0owner a_0code a_0table a_0isOver a_0isRuled a_0all a_0some a_0chosen a_0last a_0corner a_0wide a_0cuts a_0aside known_0 length_0 thrown_0 many_0 round_0 seed_0 hash_0 before_0 s_0) sz) := by
  refine wh_ofWv (lv := [(0, .ref a_0)]) RX10 (by decide) rfl rfl (Nat.le_of_ble_eq_true rfl) rfl ?_
  intro p e s m below meth c A QQ hx hb hml hown hts hP hK hN hD hA hret ls hl
  have hS : va_S A s.heap s.heap [] := va_S.rf
  have hiX10 : ∀ w ∈ wsX100, w ∈ wsX10_undo := (fun _ h => List.mem_cons_of_mem _ (List.mem_append_right _ (h)))
  unfold fM_undo at hf
  refine lv_aload_n hx hb dX10_undo_0 rfl (lv_at hl 0 rfl) ?_
  refine lv_aload_n hx hb dX10_undo_1 rfl (lv_at hl 0 rfl) ?_
  refine va_get (D := (dC, dI)) (ci := 10) (C := RX10) (T := TX10) (N := 26) hx hb hts hiX10 hown hK hP 0 rfl rfl 2 (by decide) (hts (.fieldLink RX10 77 "PaddockFieldsModel" "known" "I") (List.mem_cons_of_mem _ (List.mem_append_left _ (List.mem_of_getElem? (i := 0) rfl)))) (fun _ h9 => h9) rfl dX10_undo_2 ?_
  obtain ⟨j1, h_j1, hf⟩ := hf_bind hf
  have hJ_1 : ∀ (H : Heap) (locs : List Loc) (ls : Array Slot), lv_has ls 2 [(0, .ref a_0)] → va_P (dC, dI) vwCl (wl_fM_undo cI cZ cJ cQ a_0 a_0before a_0s a_0slots a_0isKept a_0buffer a_0cells a_0owner a_0code a_0table a_0isOver a_0isRuled a_0all a_0some a_0chosen a_0last a_0corner a_0wide a_0cuts a_0aside known_0 length_0 thrown_0 many_0 round_0 seed_0 hash_0 before_0 s_0) H → va_D A (wl_fM_undo cI cZ cJ cQ a_0 a_0before a_0s a_0slots a_0isKept a_0buffer a_0cells a_0owner a_0code a_0table a_0isOver a_0isRuled a_0all a_0some a_0chosen a_0last a_0corner a_0wide a_0cuts a_0aside known_0 length_0 thrown_0 many_0 round_0 seed_0 hash_0 before_0 s_0) → va_S A s.heap H locs → W p l e ({ frames := 0, cells := 0, slots := 0, locals := 0 } : Room) s m [.ref a_0].toArray below meth c H locs 0 0 QQ (F0 m 13 ls [.int j1, .ref a_0]) := by
    intro H locs ls hl hP hD hS
    refine wh_put (D := (dC, dI)) (ci := 10) (C := RX10) (T := TX10) (N := 26) (ty := .int) (v := .int j1) (ws' := (wl_fM_undo cI cZ cJ cQ a_0 a_0before a_0s a_0slots a_0isKept a_0buffer a_0cells a_0owner a_0code a_0table a_0isOver a_0isRuled a_0all a_0some a_0chosen a_0last a_0corner a_0wide a_0cuts a_0aside known_0 length_0 j1 many_0 round_0 seed_0 hash_0 before_0 s_0)) hx hb hts hiX10 tyX10 tyX10_ok nmX10 hown hK hP hD hS 0 rfl rfl 7 (by decide) (hts (.fieldLink RX10 69 "PaddockFieldsModel" "thrown" "I") (List.mem_cons_of_mem _ (List.mem_append_left _ (List.mem_of_getElem? (i := 1) rfl)))) (fun _ h9 => h9) rfl rfl rfl rfl (Nat.le_of_ble_eq_true rfl) rfl dX10_undo_13 (fun H locs hP hD hS => ?_)
    refine lv_aload_n hx hb dX10_undo_16 rfl (lv_at hl 0 rfl) ?_
    refine va_get (D := (dC, dI)) (ci := 10) (C := RX10) (T := TX10) (N := 26) hx hb hts hiX10 hown hK hP 0 rfl rfl 7 (by decide) (hts (.fieldLink RX10 69 "PaddockFieldsModel" "thrown" "I") (List.mem_cons_of_mem _ (List.mem_append_left _ (List.mem_of_getElem? (i := 1) rfl)))) (fun _ h9 => h9) rfl dX10_undo_17 ?_
    refine lv_if_ne (tgt := 67) hx hb dX10_undo_20 (by decide) (fun cc => ?_) (fun cc => ?_)
    · replace hf := hf_pos cc hf
      obtain rfl := Option.some.inj hf
      exact hret _ _ _ _ hP hD hS dX10_undo_67
    · replace hf := hf_neg (not_not_intro cc) hf
      refine lv_aload_n hx hb dX10_undo_23 rfl (lv_at hl 0 rfl) ?_
      refine lv_dup hx hb dX10_undo_24 rfl ?_
      refine va_get (D := (dC, dI)) (ci := 10) (C := RX10) (T := TX10) (N := 26) hx hb hts hiX10 hown hK hP 0 rfl rfl 2 (by decide) (hts (.fieldLink RX10 77 "PaddockFieldsModel" "known" "I") (List.mem_cons_of_mem _ (List.mem_append_left _ (List.mem_of_getElem? (i := 0) rfl)))) (fun _ h9 => h9) rfl dX10_undo_25 ?_
      refine lv_iconst (v := 1) hx hb dX10_undo_28 (by decide) ?_
      refine lv_isub hx hb dX10_undo_29 ?_
      refine wh_put (D := (dC, dI)) (ci := 10) (C := RX10) (T := TX10) (N := 26) (ty := .int) (v := .int (known_0 - (1 : Int32))) (ws' := (wl_fM_undo cI cZ cJ cQ a_0 a_0before a_0s a_0slots a_0isKept a_0buffer a_0cells a_0owner a_0code a_0table a_0isOver a_0isRuled a_0all a_0some a_0chosen a_0last a_0corner a_0wide a_0cuts a_0aside (known_0 - (1 : Int32)) length_0 j1 many_0 round_0 seed_0 hash_0 before_0 s_0)) hx hb hts hiX10 tyX10 tyX10_ok nmX10 hown hK hP hD hS 0 rfl rfl 2 (by decide) (hts (.fieldLink RX10 77 "PaddockFieldsModel" "known" "I") (List.mem_cons_of_mem _ (List.mem_append_left _ (List.mem_of_getElem? (i := 0) rfl)))) (fun _ h9 => h9) rfl rfl rfl rfl (Nat.le_of_ble_eq_true rfl) rfl dX10_undo_30 (fun H locs hP hD hS => ?_)
      refine lv_iconst (v := 0) hx hb dX10_undo_33 (by decide) ?_
      refine lv_istore_n (lv' := [(1, .int (0 : Int32)), (0, .ref a_0)]) hx hb dX10_undo_34 rfl hl (by decide) rfl (fun ls hl => ?_)
      obtain ⟨r4, h_r4, hf⟩ := hf_bind hf
      have hE_2 : ∀ (H : Heap) (locs : List Loc) (ls : Array Slot), lv_has ls 2 [] → va_P (dC, dI) vwCl (wl_fM_undo cI cZ cJ cQ a_0 a_0before a_0s a_0slots a_0isKept a_0buffer a_0cells a_0owner a_0code a_0table a_0isOver a_0isRuled a_0all a_0some a_0chosen a_0last a_0corner a_0wide a_0cuts a_0aside (known_0 - (1 : Int32)) length_0 j1 many_0 round_0 seed_0 hash_0 before_0 r4.2) H → va_D A (wl_fM_undo cI cZ cJ cQ a_0 a_0before a_0s a_0slots a_0isKept a_0buffer a_0cells a_0owner a_0code a_0table a_0isOver a_0isRuled a_0all a_0some a_0chosen a_0last a_0corner a_0wide a_0cuts a_0aside (known_0 - (1 : Int32)) length_0 j1 many_0 round_0 seed_0 hash_0 before_0 r4.2) → va_S A s.heap H locs → W p l e ({ frames := 0, cells := 0, slots := 0, locals := 0 } : Room) s m [.ref a_0].toArray below meth c H locs 0 0 QQ (F0 m 67 ls []) := by
        intro H locs ls hl hP hD hS
        obtain rfl := Option.some.inj hf
        exact hret _ _ _ _ hP hD hS dX10_undo_67
      have hL_3 : ∀ (N : Nat) (l1_4 : Int32) (s_0_5 : Nat → Int32), fM_undo_L35 F (known_0 - (1 : Int32)) before_0 N l1_4 s_0_5 = some r4 → ∀ (H : Heap) (locs : List Loc) (ls : Array Slot), lv_has ls 2 [(0, .ref a_0), (1, .int l1_4)] → va_P (dC, dI) vwCl (wl_fM_undo cI cZ cJ cQ a_0 a_0before a_0s a_0slots a_0isKept a_0buffer a_0cells a_0owner a_0code a_0table a_0isOver a_0isRuled a_0all a_0some a_0chosen a_0last a_0corner a_0wide a_0cuts a_0aside (known_0 - (1 : Int32)) length_0 j1 many_0 round_0 seed_0 hash_0 before_0 s_0_5) H → va_D A (wl_fM_undo cI cZ cJ cQ a_0 a_0before a_0s a_0slots a_0isKept a_0buffer a_0cells a_0owner a_0code a_0table a_0isOver a_0isRuled a_0all a_0some a_0chosen a_0last a_0corner a_0wide a_0cuts a_0aside (known_0 - (1 : Int32)) length_0 j1 many_0 round_0 seed_0 hash_0 before_0 s_0_5) → va_S A s.heap H locs → W p l e ({ frames := 0, cells := 0, slots := 0, locals := 0 } : Room) s m [.ref a_0].toArray below meth c H locs 0 0 QQ (F0 m 35 ls []) := by
        intro N
        induction N with
        | zero => intro l1_4 s_0_5 hf; exact nomatch (show none = some _ from hf)
        | succ N ih =>
          intro l1_4 s_0_5 hf H locs ls hl hP hD hS
          rw [fM_undo_L35] at hf
          refine lv_iload_n hx hb dX10_undo_35 rfl (lv_at hl 1 rfl) ?_
          refine lv_bipush (v := 84) hx hb dX10_undo_36 (by decide) ?_
          refine lv_icmp_ge (tgt := 67) hx hb dX10_undo_38 (by decide) (fun cc => ?_) (fun cc => ?_)
          · replace hf := hf_pos cc hf
            obtain rfl := Option.some.inj hf
            exact hE_2 _ _ _ (lv_sub hl [] rfl) hP hD hS
          · replace hf := hf_neg cc hf
            refine lv_aload_n hx hb dX10_undo_41 rfl (lv_at hl 0 rfl) ?_
            refine va_get (D := (dC, dI)) (ci := 10) (C := RX10) (T := TX10) (N := 26) hx hb hts hiX10 hown hK hP 0 rfl rfl 0 (by decide) (hts (.fieldLink RX10 7 "PaddockFieldsModel" "s" "[I") (List.mem_cons_of_mem _ (List.mem_append_left _ (List.mem_of_getElem? (i := 2) rfl)))) (fun _ h9 => h9) rfl dX10_undo_42 ?_
            refine lv_iload_n hx hb dX10_undo_45 rfl (lv_at hl 1 rfl) ?_
            refine lv_aload_n hx hb dX10_undo_46 rfl (lv_at hl 0 rfl) ?_
            refine va_get (D := (dC, dI)) (ci := 10) (C := RX10) (T := TX10) (N := 26) hx hb hts hiX10 hown hK hP 0 rfl rfl 1 (by decide) (hts (.fieldLink RX10 13 "PaddockFieldsModel" "before" "[I") (List.mem_cons_of_mem _ (List.mem_append_left _ (List.mem_of_getElem? (i := 3) rfl)))) (fun _ h9 => h9) rfl dX10_undo_47 ?_
            refine lv_bipush (v := 84) hx hb dX10_undo_50 (by decide) ?_
            refine lv_aload_n hx hb dX10_undo_52 rfl (lv_at hl 0 rfl) ?_
            refine va_get (D := (dC, dI)) (ci := 10) (C := RX10) (T := TX10) (N := 26) hx hb hts hiX10 hown hK hP 0 rfl rfl 2 (by decide) (hts (.fieldLink RX10 77 "PaddockFieldsModel" "known" "I") (List.mem_cons_of_mem _ (List.mem_append_left _ (List.mem_of_getElem? (i := 0) rfl)))) (fun _ h9 => h9) rfl dX10_undo_53 ?_
            refine lv_imul hx hb dX10_undo_56 ?_
            refine lv_iload_n hx hb dX10_undo_57 rfl (lv_at hl 1 rfl) ?_
            refine lv_iadd hx hb dX10_undo_58 ?_
            obtain ⟨v2, h_v2, hf⟩ := hf_bind hf
            refine wh_ldI (D := (dC, dI)) hx hb hK hP 1 0 rfl rfl h_v2 dX10_undo_59 ?_
            obtain ⟨w3, h_w3, hf⟩ := hf_bind hf
            refine wh_stI (D := (dC, dI)) (ws' := (wl_fM_undo cI cZ cJ cQ a_0 a_0before a_0s a_0slots a_0isKept a_0buffer a_0cells a_0owner a_0code a_0table a_0isOver a_0isRuled a_0all a_0some a_0chosen a_0last a_0corner a_0wide a_0cuts a_0aside (known_0 - (1 : Int32)) length_0 j1 many_0 round_0 seed_0 hash_0 before_0 w3)) hx hb hK hP hD hS 2 0 rfl rfl rfl h_w3 dX10_undo_60 (fun H locs hP hD hS => ?_)
            refine lv_iinc (v := (l1_4 + (1 : Int32))) (lv' := [(1, .int (l1_4 + (1 : Int32))), (0, .ref a_0)]) hx hb dX10_undo_61 hl (k := 1) rfl rfl (by decide) rfl (fun ls hl => ?_)
            refine lv_goto (tgt := 35) hx hb dX10_undo_64 (by decide) ?_
            exact ih _ _ hf _ _ _ (lv_sub hl [1, 0] rfl) hP hD hS
      exact hL_3 _ _ _ h_r4 _ _ _ (lv_sub hl [1, 0] rfl) hP hD hS
  clear hf
  have hf := h_j1
  clear h_j1
  refine lv_if_ne (tgt := 12) hx hb dX10_undo_5 (by decide) (fun cc => ?_) (fun cc => ?_)
  · replace hf := hf_pos cc hf
    refine lv_iconst (v := 0) hx hb dX10_undo_12 (by decide) ?_
    obtain rfl := Option.some.inj hf
    exact hJ_1 _ _ _ (lv_sub hl [0] rfl) hP hD hS
  · replace hf := hf_neg (not_not_intro cc) hf
    refine lv_iconst (v := 1) hx hb dX10_undo_8 (by decide) ?_
    refine lv_goto (tgt := 13) hx hb dX10_undo_9 (by decide) ?_
    obtain rfl := Option.some.inj hf
    exact hJ_1 _ _ _ (lv_sub hl [0] rfl) hP hD hS
set_option maxHeartbeats 4000000 in
set_option maxRecDepth 100000 in
theorem c_fM_savedStates (l : Launch) (dC : Nat → ClassId) (dI : Nat → Nat → Nat) (cI cZ cJ cQ : ClassId) (a_0 a_0s a_0before a_0slots a_0isKept a_0buffer a_0cells a_0owner a_0code a_0table a_0isOver a_0isRuled a_0all a_0some a_0chosen a_0last a_0corner a_0wide a_0cuts a_0aside : Nat) (length_0 : Int32) (many_0 : Int32) (round_0 : Int32) (seed_0 : Int64) (hash_0 : Int64) (sz : Nat) {thrown_0 : Int32} {known_0 : Int32} {out : Int32 × Int32} (hf : fM_savedStates thrown_0 known_0 = some out) : Met l yX10_savedStates wsX10_savedStates ({ frames := 0, cells := 0, slots := 0, locals := 0 } : Room) (va_Pc [.ref a_0] (wlP (dC, dI) (wlT cI cZ cJ cQ) (wl_fM_savedStates cI cZ cJ cQ a_0 a_0s a_0before a_0slots a_0isKept a_0buffer a_0cells a_0owner a_0code a_0table a_0isOver a_0isRuled a_0all a_0some a_0chosen a_0last a_0corner a_0wide a_0cuts a_0aside known_0 length_0 thrown_0 many_0 round_0 seed_0 hash_0) sz)) (va_Qi (fun (v : Int32) (_ : Unit) => v = out.1) (wlQ (dC, dI) (va_A (wl_fM_savedStates cI cZ cJ cQ a_0 a_0s a_0before a_0slots a_0isKept a_0buffer a_0cells a_0owner a_0code a_0table a_0isOver a_0isRuled a_0all a_0some a_0chosen a_0last a_0corner a_0wide a_0cuts a_0aside known_0 length_0 thrown_0 many_0 round_0 seed_0 hash_0) sz) (wl_fM_savedStates cI cZ cJ cQ a_0 a_0s a_0before a_0slots a_0isKept a_0buffer a_0cells a_0owner a_0code a_0table a_0isOver a_0isRuled a_0all a_0some a_0chosen a_0last a_0corner a_0wide a_0cuts a_0aside known_0 length_0 out.2 many_0 round_0 seed_0 hash_0)) (va_A (wl_fM_savedStates cI cZ cJ cQ a_0 a_0s a_0before a_0slots a_0isKept a_0buffer a_0cells a_0owner a_0code a_0table a_0isOver a_0isRuled a_0all a_0some a_0chosen a_0last a_0corner a_0wide a_0cuts a_0aside known_0 length_0 thrown_0 many_0 round_0 seed_0 hash_0) sz)) 0 0 (va_A (wl_fM_savedStates cI cZ cJ cQ a_0 a_0s a_0before a_0slots a_0isKept a_0buffer a_0cells a_0owner a_0code a_0table a_0isOver a_0isRuled a_0all a_0some a_0chosen a_0last a_0corner a_0wide a_0cuts a_0aside known_0 length_0 thrown_0 many_0 round_0 seed_0 hash_0) sz) := by
  refine wh_ofWi (lv := [(0, .ref a_0)]) RX10 (by decide) rfl rfl (Nat.le_of_ble_eq_true rfl) rfl ?_
  intro p e s m below meth c A QQ hx hb hml hown hts hP hK hN hD hA hret ls hl
  have hS : va_S A s.heap s.heap [] := va_S.rf
  have hiX10 : ∀ w ∈ wsX100, w ∈ wsX10_savedStates := (fun _ h => List.mem_cons_of_mem _ (List.mem_append_right _ (h)))
  unfold fM_savedStates at hf
  refine lv_aload_n hx hb dX10_savedStates_0 rfl (lv_at hl 0 rfl) ?_
  refine lv_iconst (v := 0) hx hb dX10_savedStates_1 (by decide) ?_
  refine wh_put (D := (dC, dI)) (ci := 10) (C := RX10) (T := TX10) (N := 26) (ty := .int) (v := .int (0 : Int32)) (ws' := (wl_fM_savedStates cI cZ cJ cQ a_0 a_0s a_0before a_0slots a_0isKept a_0buffer a_0cells a_0owner a_0code a_0table a_0isOver a_0isRuled a_0all a_0some a_0chosen a_0last a_0corner a_0wide a_0cuts a_0aside known_0 length_0 (0 : Int32) many_0 round_0 seed_0 hash_0)) hx hb hts hiX10 tyX10 tyX10_ok nmX10 hown hK hP hD hS 0 rfl rfl 7 (by decide) (hts (.fieldLink RX10 69 "PaddockFieldsModel" "thrown" "I") (List.mem_cons_of_mem _ (List.mem_append_left _ (List.mem_of_getElem? (i := 0) rfl)))) (fun _ h9 => h9) rfl rfl rfl rfl (Nat.le_of_ble_eq_true rfl) rfl dX10_savedStates_2 (fun H locs hP hD hS => ?_)
  refine lv_aload_n hx hb dX10_savedStates_5 rfl (lv_at hl 0 rfl) ?_
  refine va_get (D := (dC, dI)) (ci := 10) (C := RX10) (T := TX10) (N := 26) hx hb hts hiX10 hown hK hP 0 rfl rfl 2 (by decide) (hts (.fieldLink RX10 77 "PaddockFieldsModel" "known" "I") (List.mem_cons_of_mem _ (List.mem_append_left _ (List.mem_of_getElem? (i := 1) rfl)))) (fun _ h9 => h9) rfl dX10_savedStates_6 ?_
  obtain rfl := Option.some.inj hf
  exact hret _ _ _ _ hP hD hS dX10_savedStates_9
set_option maxHeartbeats 4000000 in
set_option maxRecDepth 100000 in
theorem c_fM_numberAt (l : Launch) (dC : Nat → ClassId) (dI : Nat → Nat → Nat) (cI cZ cJ cQ : ClassId) (a_0 a_0s a_0before a_0slots a_0isKept a_0buffer a_0cells a_0owner a_0code a_0table a_0isOver a_0isRuled a_0all a_0some a_0chosen a_0last a_0corner a_0wide a_0cuts a_0aside : Nat) (known_0 : Int32) (length_0 : Int32) (many_0 : Int32) (round_0 : Int32) (seed_0 : Int64) (hash_0 : Int64) (sz : Nat) {x1 : Int32} {x2 : Int32} {s_0 : Nat → Int32} {thrown_0 : Int32} {out : Int32 × Int32} (hf : fM_numberAt x1 x2 s_0 thrown_0 = some out) : Met l yX10_numberAt wsX10_numberAt ({ frames := 3, cells := 0, slots := 0, locals := 66 } : Room) (va_Pc [.ref a_0, .int x1, .int x2] (wlP (dC, dI) (wlT cI cZ cJ cQ) (wl_fM_numberAt cI cZ cJ cQ a_0 a_0s a_0before a_0slots a_0isKept a_0buffer a_0cells a_0owner a_0code a_0table a_0isOver a_0isRuled a_0all a_0some a_0chosen a_0last a_0corner a_0wide a_0cuts a_0aside known_0 length_0 thrown_0 many_0 round_0 seed_0 hash_0 s_0) sz)) (va_Qi (fun (v : Int32) (_ : Unit) => v = out.1) (wlQ (dC, dI) (va_A (wl_fM_numberAt cI cZ cJ cQ a_0 a_0s a_0before a_0slots a_0isKept a_0buffer a_0cells a_0owner a_0code a_0table a_0isOver a_0isRuled a_0all a_0some a_0chosen a_0last a_0corner a_0wide a_0cuts a_0aside known_0 length_0 thrown_0 many_0 round_0 seed_0 hash_0 s_0) sz) (wl_fM_numberAt cI cZ cJ cQ a_0 a_0s a_0before a_0slots a_0isKept a_0buffer a_0cells a_0owner a_0code a_0table a_0isOver a_0isRuled a_0all a_0some a_0chosen a_0last a_0corner a_0wide a_0cuts a_0aside known_0 length_0 out.2 many_0 round_0 seed_0 hash_0 s_0)) (va_A (wl_fM_numberAt cI cZ cJ cQ a_0 a_0s a_0before a_0slots a_0isKept a_0buffer a_0cells a_0owner a_0code a_0table a_0isOver a_0isRuled a_0all a_0some a_0chosen a_0last a_0corner a_0wide a_0cuts a_0aside known_0 length_0 thrown_0 many_0 round_0 seed_0 hash_0 s_0) sz)) 0 0 (va_A (wl_fM_numberAt cI cZ cJ cQ a_0 a_0s a_0before a_0slots a_0isKept a_0buffer a_0cells a_0owner a_0code a_0table a_0isOver a_0isRuled a_0all a_0some a_0chosen a_0last a_0corner a_0wide a_0cuts a_0aside known_0 length_0 thrown_0 many_0 round_0 seed_0 hash_0 s_0) sz) := by
  refine wh_ofWi (lv := [(0, .ref a_0), (1, .int x1), (2, .int x2)]) RX10 (by decide) rfl rfl (Nat.le_of_ble_eq_true rfl) rfl ?_
  intro p e s m below meth c A QQ hx hb hml hown hts hP hK hN hD hA hret ls hl
  have hS : va_S A s.heap s.heap [] := va_S.rf
  have hiX10 : ∀ w ∈ wsX100, w ∈ wsX10_numberAt := (fun _ h => List.mem_cons_of_mem _ (List.mem_append_right _ (h)))
  unfold fM_numberAt at hf
  refine lv_aload_n hx hb dX10_numberAt_0 rfl (lv_at hl 0 rfl) ?_
  refine lv_iload_n hx hb dX10_numberAt_1 rfl (lv_at hl 1 rfl) ?_
  refine lv_iload_n hx hb dX10_numberAt_2 rfl (lv_at hl 2 rfl) ?_
  refine lv_iconst (v := 0) hx hb dX10_numberAt_3 (by decide) ?_
  obtain ⟨s1, h_s1, hf⟩ := hf_bind hf
  refine wh_calli (D := (dC, dI)) (ws' := (wl_fM_numberAt cI cZ cJ cQ a_0 a_0s a_0before a_0slots a_0isKept a_0buffer a_0cells a_0owner a_0code a_0table a_0isOver a_0isRuled a_0all a_0some a_0chosen a_0last a_0corner a_0wide a_0cuts a_0aside known_0 length_0 s1.2 many_0 round_0 seed_0 hash_0 s_0)) (va_runV (As := [.int x1, .int x2, .int (0 : Int32)]) (rest := []) ⟨hx, hb, hml, hown, hts⟩ (c_fM_isThere l dC dI cI cZ cJ cQ a_0 a_0s a_0before a_0slots a_0isKept a_0buffer a_0cells a_0owner a_0code a_0table a_0isOver a_0isRuled a_0all a_0some a_0chosen a_0last a_0corner a_0wide a_0cuts a_0aside known_0 length_0 many_0 round_0 seed_0 hash_0 _ h_s1) (cwV 3 hts gX10_numberAt_X10_isThere rfl rfl rfl (by decide +kernel) ⟨Nat.le_of_ble_eq_true rfl, Nat.le_of_ble_eq_true rfl⟩) (wh_preV (C := RX10) (T := TX10) (N := 26) hK hN hP hD [0, 1] rfl rfl 10 0 rfl rfl) rfl rfl hl.1 rfl (lv_room (Nat.le_of_ble_eq_true rfl)) dX10_numberAt_4 ⟨Nat.le_refl _, Nat.le_refl _⟩) hP hD hS hA [0, 1] [] [0, 1] rfl rfl rfl rfl (fun H locs hP hD hS => ?_)
  refine lv_if_eq (tgt := 24) hx hb dX10_numberAt_7 (by decide) (fun cc => ?_) (fun cc => ?_)
  · replace hf := hf_pos cc hf
    refine lv_iconst (v := 0) hx hb dX10_numberAt_24 (by decide) ?_
    obtain rfl := Option.some.inj hf
    exact hret _ _ _ _ hP hD hS dX10_numberAt_25
  · replace hf := hf_neg cc hf
    refine lv_aload_n hx hb dX10_numberAt_10 rfl (lv_at hl 0 rfl) ?_
    refine va_get (D := (dC, dI)) (ci := 10) (C := RX10) (T := TX10) (N := 26) hx hb hts hiX10 hown hK hP 0 rfl rfl 0 (by decide) (hts (.fieldLink RX10 7 "PaddockFieldsModel" "s" "[I") (List.mem_cons_of_mem _ (List.mem_append_left _ (List.mem_of_getElem? (i := 0) rfl)))) (fun _ h9 => h9) rfl dX10_numberAt_11 ?_
    refine lv_bipush (v := 7) hx hb dX10_numberAt_14 (by decide) ?_
    refine lv_iload_n hx hb dX10_numberAt_16 rfl (lv_at hl 1 rfl) ?_
    refine lv_imul hx hb dX10_numberAt_17 ?_
    refine lv_iload_n hx hb dX10_numberAt_18 rfl (lv_at hl 2 rfl) ?_
    refine lv_iadd hx hb dX10_numberAt_19 ?_
    obtain ⟨v2, h_v2, hf⟩ := hf_bind hf
    refine wh_ldI (D := (dC, dI)) hx hb hK hP 1 0 rfl rfl h_v2 dX10_numberAt_20 ?_
    refine lv_goto (tgt := 25) hx hb dX10_numberAt_21 (by decide) ?_
    obtain rfl := Option.some.inj hf
    exact hret _ _ _ _ hP hD hS dX10_numberAt_25
set_option maxHeartbeats 4000000 in
set_option maxRecDepth 100000 in
theorem c_fM_numbers (l : Launch) (dC : Nat → ClassId) (dI : Nat → Nat → Nat) (cI cZ cJ cQ : ClassId) (a_0 a_0s a_0before a_0slots a_0isKept a_0buffer a_0cells a_0owner a_0code a_0table a_0isOver a_0isRuled a_0all a_0some a_0chosen a_0last a_0corner a_0wide a_0cuts a_0aside : Nat) (known_0 : Int32) (length_0 : Int32) (many_0 : Int32) (round_0 : Int32) (seed_0 : Int64) (hash_0 : Int64) (sz : Nat) {F : Nat} {thrown_0 : Int32} {s_0 : Nat → Int32} {out : Int32 × Int32} (hf : fM_numbers F thrown_0 s_0 = some out) : Met l yX10_numbers wsX10_numbers ({ frames := 2, cells := 0, slots := 0, locals := 45 } : Room) (va_Pc [.ref a_0] (wlP (dC, dI) (wlT cI cZ cJ cQ) (wl_fM_numbers cI cZ cJ cQ a_0 a_0s a_0before a_0slots a_0isKept a_0buffer a_0cells a_0owner a_0code a_0table a_0isOver a_0isRuled a_0all a_0some a_0chosen a_0last a_0corner a_0wide a_0cuts a_0aside known_0 length_0 thrown_0 many_0 round_0 seed_0 hash_0 s_0) sz)) (va_Qi (fun (v : Int32) (_ : Unit) => v = out.1) (wlQ (dC, dI) (va_A (wl_fM_numbers cI cZ cJ cQ a_0 a_0s a_0before a_0slots a_0isKept a_0buffer a_0cells a_0owner a_0code a_0table a_0isOver a_0isRuled a_0all a_0some a_0chosen a_0last a_0corner a_0wide a_0cuts a_0aside known_0 length_0 thrown_0 many_0 round_0 seed_0 hash_0 s_0) sz) (wl_fM_numbers cI cZ cJ cQ a_0 a_0s a_0before a_0slots a_0isKept a_0buffer a_0cells a_0owner a_0code a_0table a_0isOver a_0isRuled a_0all a_0some a_0chosen a_0last a_0corner a_0wide a_0cuts a_0aside known_0 length_0 out.2 many_0 round_0 seed_0 hash_0 s_0)) (va_A (wl_fM_numbers cI cZ cJ cQ a_0 a_0s a_0before a_0slots a_0isKept a_0buffer a_0cells a_0owner a_0code a_0table a_0isOver a_0isRuled a_0all a_0some a_0chosen a_0last a_0corner a_0wide a_0cuts a_0aside known_0 length_0 thrown_0 many_0 round_0 seed_0 hash_0 s_0) sz)) 0 0 (va_A (wl_fM_numbers cI cZ cJ cQ a_0 a_0s a_0before a_0slots a_0isKept a_0buffer a_0cells a_0owner a_0code a_0table a_0isOver a_0isRuled a_0all a_0some a_0chosen a_0last a_0corner a_0wide a_0cuts a_0aside known_0 length_0 thrown_0 many_0 round_0 seed_0 hash_0 s_0) sz) := by
  refine wh_ofWi (lv := [(0, .ref a_0)]) RX10 (by decide) rfl rfl (Nat.le_of_ble_eq_true rfl) rfl ?_
  intro p e s m below meth c A QQ hx hb hml hown hts hP hK hN hD hA hret ls hl
  have hS : va_S A s.heap s.heap [] := va_S.rf
  have hiX10 : ∀ w ∈ wsX100, w ∈ wsX10_numbers := (fun _ h => List.mem_cons_of_mem _ (List.mem_append_right _ (h)))
  unfold fM_numbers at hf
  refine lv_aload_n hx hb dX10_numbers_0 rfl (lv_at hl 0 rfl) ?_
  refine lv_iconst (v := 0) hx hb dX10_numbers_1 (by decide) ?_
  refine wh_put (D := (dC, dI)) (ci := 10) (C := RX10) (T := TX10) (N := 26) (ty := .int) (v := .int (0 : Int32)) (ws' := (wl_fM_numbers cI cZ cJ cQ a_0 a_0s a_0before a_0slots a_0isKept a_0buffer a_0cells a_0owner a_0code a_0table a_0isOver a_0isRuled a_0all a_0some a_0chosen a_0last a_0corner a_0wide a_0cuts a_0aside known_0 length_0 (0 : Int32) many_0 round_0 seed_0 hash_0 s_0)) hx hb hts hiX10 tyX10 tyX10_ok nmX10 hown hK hP hD hS 0 rfl rfl 7 (by decide) (hts (.fieldLink RX10 69 "PaddockFieldsModel" "thrown" "I") (List.mem_cons_of_mem _ (List.mem_append_left _ (List.mem_of_getElem? (i := 0) rfl)))) (fun _ h9 => h9) rfl rfl rfl rfl (Nat.le_of_ble_eq_true rfl) rfl dX10_numbers_2 (fun H locs hP hD hS => ?_)
  refine lv_aload_n hx hb dX10_numbers_5 rfl (lv_at hl 0 rfl) ?_
  obtain ⟨s1, h_s1, hf⟩ := hf_bind hf
  refine wh_calll (D := (dC, dI)) (ws' := (wl_fM_numbers cI cZ cJ cQ a_0 a_0s a_0before a_0slots a_0isKept a_0buffer a_0cells a_0owner a_0code a_0table a_0isOver a_0isRuled a_0all a_0some a_0chosen a_0last a_0corner a_0wide a_0cuts a_0aside known_0 length_0 (0 : Int32) many_0 round_0 seed_0 hash_0 s_0)) (va_runV (As := []) (rest := []) ⟨hx, hb, hml, hown, hts⟩ (c_fM_numbered l dC dI cI cZ cJ cQ a_0 a_0s a_0before a_0slots a_0isKept a_0buffer a_0cells a_0owner a_0code a_0table a_0isOver a_0isRuled a_0all a_0some a_0chosen a_0last a_0corner a_0wide a_0cuts a_0aside known_0 length_0 (0 : Int32) many_0 round_0 seed_0 hash_0 _ h_s1) (cwV 0 hts gX10_numbers_X10_numbered rfl rfl rfl (by decide +kernel) ⟨Nat.le_of_ble_eq_true rfl, Nat.le_of_ble_eq_true rfl⟩) (wh_preV (C := RX10) (T := TX10) (N := 26) hK hN hP hD [0, 1] rfl rfl 10 0 rfl rfl) rfl rfl hl.1 rfl (lv_room (Nat.le_of_ble_eq_true rfl)) dX10_numbers_6 ⟨Nat.le_refl _, Nat.le_refl _⟩) hP hD hS hA [0, 1] [] [0, 1] rfl rfl rfl rfl (fun H locs hP hD hS => ?_)
  obtain ⟨s2, h_s2, hf⟩ := hf_bind hf
  refine wh_calli (D := (dC, dI)) (ws' := (wl_fM_numbers cI cZ cJ cQ a_0 a_0s a_0before a_0slots a_0isKept a_0buffer a_0cells a_0owner a_0code a_0table a_0isOver a_0isRuled a_0all a_0some a_0chosen a_0last a_0corner a_0wide a_0cuts a_0aside known_0 length_0 (0 : Int32) many_0 round_0 seed_0 hash_0 s_0)) (va_runS (As := [.long s1]) (rest := []) ⟨hx, hb, hml, hown, hts⟩ (c_fM_bits l dC dI cI cZ cJ cQ _ h_s2) (va_cwS 1 hts gX10_numbers_X10_bits rfl rfl rfl (by decide +kernel) ⟨Nat.le_of_ble_eq_true rfl, Nat.le_of_ble_eq_true rfl⟩) (wh_preS hK hN hP hD [] rfl rfl) rfl rfl hl.1 rfl (lv_room (Nat.le_of_ble_eq_true rfl)) dX10_numbers_9 ⟨Nat.le_refl _, Nat.le_refl _⟩) hP hD hS hA [] [0, 1] [0, 1] rfl rfl rfl rfl (fun H locs hP hD hS => ?_)
  obtain rfl := Option.some.inj hf
  exact hret _ _ _ _ hP hD hS dX10_numbers_12
set_option maxHeartbeats 4000000 in
set_option maxRecDepth 100000 in
theorem c_fM_total (l : Launch) (dC : Nat → ClassId) (dI : Nat → Nat → Nat) (cI cZ cJ cQ : ClassId) (a_0 a_0s a_0before a_0slots a_0isKept a_0buffer a_0cells a_0owner a_0code a_0table a_0isOver a_0isRuled a_0all a_0some a_0chosen a_0last a_0corner a_0wide a_0cuts a_0aside : Nat) (known_0 : Int32) (length_0 : Int32) (thrown_0 : Int32) (many_0 : Int32) (round_0 : Int32) (seed_0 : Int64) (hash_0 : Int64) (sz : Nat) {F : Nat} {s_0 : Nat → Int32} {out : Int32} (hf : fM_total F s_0 = some out) : Met l yX10_total wsX10_total ({ frames := 0, cells := 0, slots := 0, locals := 0 } : Room) (va_Pc [.ref a_0] (wlP (dC, dI) (wlT cI cZ cJ cQ) (wl_fM_total cI cZ cJ cQ a_0 a_0s a_0before a_0slots a_0isKept a_0buffer a_0cells a_0owner a_0code a_0table a_0isOver a_0isRuled a_0all a_0some a_0chosen a_0last a_0corner a_0wide a_0cuts a_0aside known_0 length_0 thrown_0 many_0 round_0 seed_0 hash_0 s_0) sz)) (va_Qi (fun (v : Int32) (_ : Unit) => v = out) (wlQ (dC, dI) (va_A (wl_fM_total cI cZ cJ cQ a_0 a_0s a_0before a_0slots a_0isKept a_0buffer a_0cells a_0owner a_0code a_0table a_0isOver a_0isRuled a_0all a_0some a_0chosen a_0last a_0corner a_0wide a_0cuts a_0aside known_0 length_0 thrown_0 many_0 round_0 seed_0 hash_0 s_0) sz) (wl_fM_total cI cZ cJ cQ a_0 a_0s a_0before a_0slots a_0isKept a_0buffer a_0cells a_0owner a_0code a_0table a_0isOver a_0isRuled a_0all a_0some a_0chosen a_0last a_0corner a_0wide a_0cuts a_0aside known_0 length_0 thrown_0 many_0 round_0 seed_0 hash_0 s_0)) (va_A (wl_fM_total cI cZ cJ cQ a_0 a_0s a_0before a_0slots a_0isKept a_0buffer a_0cells a_0owner a_0code a_0table a_0isOver a_0isRuled a_0all a_0some a_0chosen a_0last a_0corner a_0wide a_0cuts a_0aside known_0 length_0 thrown_0 many_0 round_0 seed_0 hash_0 s_0) sz)) 0 0 (va_A (wl_fM_total cI cZ cJ cQ a_0 a_0s a_0before a_0slots a_0isKept a_0buffer a_0cells a_0owner a_0code a_0table a_0isOver a_0isRuled a_0all a_0some a_0chosen a_0last a_0corner a_0wide a_0cuts a_0aside known_0 length_0 thrown_0 many_0 round_0 seed_0 hash_0 s_0) sz) := by
  refine wh_ofWi (lv := [(0, .ref a_0)]) RX10 (by decide) rfl rfl (Nat.le_of_ble_eq_true rfl) rfl ?_
  intro p e s m below meth c A QQ hx hb hml hown hts hP hK hN hD hA hret ls hl
  have hS : va_S A s.heap s.heap [] := va_S.rf
  have hiX10 : ∀ w ∈ wsX100, w ∈ wsX10_total := (fun _ h => List.mem_cons_of_mem _ (List.mem_append_right _ (h)))
  unfold fM_total at hf
  refine lv_iconst (v := 0) hx hb dX10_total_0 (by decide) ?_
  refine lv_istore_n (lv' := [(1, .int (0 : Int32)), (0, .ref a_0)]) hx hb dX10_total_1 rfl hl (by decide) rfl (fun ls hl => ?_)
  refine lv_iconst (v := 0) hx hb dX10_total_2 (by decide) ?_
  refine lv_istore_n (lv' := [(2, .int (0 : Int32)), (1, .int (0 : Int32)), (0, .ref a_0)]) hx hb dX10_total_3 rfl hl (by decide) rfl (fun ls hl => ?_)
  obtain ⟨r2, h_r2, hf⟩ := hf_bind hf
  have hE_1 : ∀ (H : Heap) (locs : List Loc) (ls : Array Slot), lv_has ls 3 [(1, .int r2.1)] → va_P (dC, dI) vwCl (wl_fM_total cI cZ cJ cQ a_0 a_0s a_0before a_0slots a_0isKept a_0buffer a_0cells a_0owner a_0code a_0table a_0isOver a_0isRuled a_0all a_0some a_0chosen a_0last a_0corner a_0wide a_0cuts a_0aside known_0 length_0 thrown_0 many_0 round_0 seed_0 hash_0 s_0) H → va_D A (wl_fM_total cI cZ cJ cQ a_0 a_0s a_0before a_0slots a_0isKept a_0buffer a_0cells a_0owner a_0code a_0table a_0isOver a_0isRuled a_0all a_0some a_0chosen a_0last a_0corner a_0wide a_0cuts a_0aside known_0 length_0 thrown_0 many_0 round_0 seed_0 hash_0 s_0) → va_S A s.heap H locs → W p l e ({ frames := 0, cells := 0, slots := 0, locals := 0 } : Room) s m [.ref a_0].toArray below meth c H locs 0 0 QQ (F0 m 25 ls []) := by
    intro H locs ls hl hP hD hS
    refine lv_iload_n hx hb dX10_total_25 rfl (lv_at hl 0 rfl) ?_
    obtain rfl := Option.some.inj hf
    exact hret _ _ _ _ hP hD hS dX10_total_26
  have hL_2 : ∀ (N : Nat) (l1_3 : Int32) (l2_4 : Int32), fM_total_L4 F s_0 N l1_3 l2_4 = some r2 → ∀ (H : Heap) (locs : List Loc) (ls : Array Slot), lv_has ls 3 [(0, .ref a_0), (1, .int l1_3), (2, .int l2_4)] → va_P (dC, dI) vwCl (wl_fM_total cI cZ cJ cQ a_0 a_0s a_0before a_0slots a_0isKept a_0buffer a_0cells a_0owner a_0code a_0table a_0isOver a_0isRuled a_0all a_0some a_0chosen a_0last a_0corner a_0wide a_0cuts a_0aside known_0 length_0 thrown_0 many_0 round_0 seed_0 hash_0 s_0) H → va_D A (wl_fM_total cI cZ cJ cQ a_0 a_0s a_0before a_0slots a_0isKept a_0buffer a_0cells a_0owner a_0code a_0table a_0isOver a_0isRuled a_0all a_0some a_0chosen a_0last a_0corner a_0wide a_0cuts a_0aside known_0 length_0 thrown_0 many_0 round_0 seed_0 hash_0 s_0) → va_S A s.heap H locs → W p l e ({ frames := 0, cells := 0, slots := 0, locals := 0 } : Room) s m [.ref a_0].toArray below meth c H locs 0 0 QQ (F0 m 4 ls []) := by
    intro N
    induction N with
    | zero => intro l1_3 l2_4 hf; exact nomatch (show none = some _ from hf)
    | succ N ih =>
      intro l1_3 l2_4 hf H locs ls hl hP hD hS
      rw [fM_total_L4] at hf
      refine lv_iload_n hx hb dX10_total_4 rfl (lv_at hl 2 rfl) ?_
      refine lv_bipush (v := 42) hx hb dX10_total_5 (by decide) ?_
      refine lv_icmp_ge (tgt := 25) hx hb dX10_total_7 (by decide) (fun cc => ?_) (fun cc => ?_)
      · replace hf := hf_pos cc hf
        obtain rfl := Option.some.inj hf
        exact hE_1 _ _ _ (lv_sub hl [1] rfl) hP hD hS
      · replace hf := hf_neg cc hf
        refine lv_iload_n hx hb dX10_total_10 rfl (lv_at hl 1 rfl) ?_
        refine lv_aload_n hx hb dX10_total_11 rfl (lv_at hl 0 rfl) ?_
        refine va_get (D := (dC, dI)) (ci := 10) (C := RX10) (T := TX10) (N := 26) hx hb hts hiX10 hown hK hP 0 rfl rfl 0 (by decide) (hts (.fieldLink RX10 7 "PaddockFieldsModel" "s" "[I") (List.mem_cons_of_mem _ (List.mem_append_left _ (List.mem_of_getElem? (i := 0) rfl)))) (fun _ h9 => h9) rfl dX10_total_12 ?_
        refine lv_iload_n hx hb dX10_total_15 rfl (lv_at hl 2 rfl) ?_
        obtain ⟨v1, h_v1, hf⟩ := hf_bind hf
        refine wh_ldI (D := (dC, dI)) hx hb hK hP 1 0 rfl rfl h_v1 dX10_total_16 ?_
        refine lv_iadd hx hb dX10_total_17 ?_
        refine lv_istore_n (lv' := [(1, .int (l1_3 + v1)), (0, .ref a_0), (2, .int l2_4)]) hx hb dX10_total_18 rfl hl (by decide) rfl (fun ls hl => ?_)
        refine lv_iinc (v := (l2_4 + (1 : Int32))) (lv' := [(2, .int (l2_4 + (1 : Int32))), (1, .int (l1_3 + v1)), (0, .ref a_0)]) hx hb dX10_total_19 hl (k := 2) rfl rfl (by decide) rfl (fun ls hl => ?_)
        refine lv_goto (tgt := 4) hx hb dX10_total_22 (by decide) ?_
        exact ih _ _ hf _ _ _ (lv_sub hl [2, 1, 0] rfl) hP hD hS
  exact hL_2 _ _ _ h_r2 _ _ _ (lv_sub hl [2, 1, 0] rfl) hP hD hS
set_option maxHeartbeats 4000000 in
set_option maxRecDepth 100000 in
theorem c_fM_sum (l : Launch) (dC : Nat → ClassId) (dI : Nat → Nat → Nat) (cI cZ cJ cQ : ClassId) (a_0 a_0s a_0before a_0slots a_0isKept a_0buffer a_0cells a_0owner a_0code a_0table a_0isOver a_0isRuled a_0all a_0some a_0chosen a_0last a_0corner a_0wide a_0cuts a_0aside : Nat) (known_0 : Int32) (length_0 : Int32) (many_0 : Int32) (round_0 : Int32) (seed_0 : Int64) (hash_0 : Int64) (sz : Nat) {F : Nat} {thrown_0 : Int32} {s_0 : Nat → Int32} {out : Int32 × Int32} (hf : fM_sum F thrown_0 s_0 = some out) : Met l yX10_sum wsX10_sum ({ frames := 1, cells := 0, slots := 0, locals := 22 } : Room) (va_Pc [.ref a_0] (wlP (dC, dI) (wlT cI cZ cJ cQ) (wl_fM_sum cI cZ cJ cQ a_0 a_0s a_0before a_0slots a_0isKept a_0buffer a_0cells a_0owner a_0code a_0table a_0isOver a_0isRuled a_0all a_0some a_0chosen a_0last a_0corner a_0wide a_0cuts a_0aside known_0 length_0 thrown_0 many_0 round_0 seed_0 hash_0 s_0) sz)) (va_Qi (fun (v : Int32) (_ : Unit) => v = out.1) (wlQ (dC, dI) (va_A (wl_fM_sum cI cZ cJ cQ a_0 a_0s a_0before a_0slots a_0isKept a_0buffer a_0cells a_0owner a_0code a_0table a_0isOver a_0isRuled a_0all a_0some a_0chosen a_0last a_0corner a_0wide a_0cuts a_0aside known_0 length_0 thrown_0 many_0 round_0 seed_0 hash_0 s_0) sz) (wl_fM_sum cI cZ cJ cQ a_0 a_0s a_0before a_0slots a_0isKept a_0buffer a_0cells a_0owner a_0code a_0table a_0isOver a_0isRuled a_0all a_0some a_0chosen a_0last a_0corner a_0wide a_0cuts a_0aside known_0 length_0 out.2 many_0 round_0 seed_0 hash_0 s_0)) (va_A (wl_fM_sum cI cZ cJ cQ a_0 a_0s a_0before a_0slots a_0isKept a_0buffer a_0cells a_0owner a_0code a_0table a_0isOver a_0isRuled a_0all a_0some a_0chosen a_0last a_0corner a_0wide a_0cuts a_0aside known_0 length_0 thrown_0 many_0 round_0 seed_0 hash_0 s_0) sz)) 0 0 (va_A (wl_fM_sum cI cZ cJ cQ a_0 a_0s a_0before a_0slots a_0isKept a_0buffer a_0cells a_0owner a_0code a_0table a_0isOver a_0isRuled a_0all a_0some a_0chosen a_0last a_0corner a_0wide a_0cuts a_0aside known_0 length_0 thrown_0 many_0 round_0 seed_0 hash_0 s_0) sz) := by
  refine wh_ofWi (lv := [(0, .ref a_0)]) RX10 (by decide) rfl rfl (Nat.le_of_ble_eq_true rfl) rfl ?_
  intro p e s m below meth c A QQ hx hb hml hown hts hP hK hN hD hA hret ls hl
  have hS : va_S A s.heap s.heap [] := va_S.rf
  have hiX10 : ∀ w ∈ wsX100, w ∈ wsX10_sum := (fun _ h => List.mem_cons_of_mem _ (List.mem_append_right _ (h)))
  unfold fM_sum at hf
  refine lv_aload_n hx hb dX10_sum_0 rfl (lv_at hl 0 rfl) ?_
  refine lv_iconst (v := 0) hx hb dX10_sum_1 (by decide) ?_
  refine wh_put (D := (dC, dI)) (ci := 10) (C := RX10) (T := TX10) (N := 26) (ty := .int) (v := .int (0 : Int32)) (ws' := (wl_fM_sum cI cZ cJ cQ a_0 a_0s a_0before a_0slots a_0isKept a_0buffer a_0cells a_0owner a_0code a_0table a_0isOver a_0isRuled a_0all a_0some a_0chosen a_0last a_0corner a_0wide a_0cuts a_0aside known_0 length_0 (0 : Int32) many_0 round_0 seed_0 hash_0 s_0)) hx hb hts hiX10 tyX10 tyX10_ok nmX10 hown hK hP hD hS 0 rfl rfl 7 (by decide) (hts (.fieldLink RX10 69 "PaddockFieldsModel" "thrown" "I") (List.mem_cons_of_mem _ (List.mem_append_left _ (List.mem_of_getElem? (i := 0) rfl)))) (fun _ h9 => h9) rfl rfl rfl rfl (Nat.le_of_ble_eq_true rfl) rfl dX10_sum_2 (fun H locs hP hD hS => ?_)
  refine lv_aload_n hx hb dX10_sum_5 rfl (lv_at hl 0 rfl) ?_
  obtain ⟨s1, h_s1, hf⟩ := hf_bind hf
  refine wh_calli (D := (dC, dI)) (ws' := (wl_fM_sum cI cZ cJ cQ a_0 a_0s a_0before a_0slots a_0isKept a_0buffer a_0cells a_0owner a_0code a_0table a_0isOver a_0isRuled a_0all a_0some a_0chosen a_0last a_0corner a_0wide a_0cuts a_0aside known_0 length_0 (0 : Int32) many_0 round_0 seed_0 hash_0 s_0)) (va_runV (As := []) (rest := []) ⟨hx, hb, hml, hown, hts⟩ (c_fM_total l dC dI cI cZ cJ cQ a_0 a_0s a_0before a_0slots a_0isKept a_0buffer a_0cells a_0owner a_0code a_0table a_0isOver a_0isRuled a_0all a_0some a_0chosen a_0last a_0corner a_0wide a_0cuts a_0aside known_0 length_0 (0 : Int32) many_0 round_0 seed_0 hash_0 _ h_s1) (cwV 0 hts gX10_sum_X10_total rfl rfl rfl (by decide +kernel) ⟨Nat.le_of_ble_eq_true rfl, Nat.le_of_ble_eq_true rfl⟩) (wh_preV (C := RX10) (T := TX10) (N := 26) hK hN hP hD [0, 1] rfl rfl 10 0 rfl rfl) rfl rfl hl.1 rfl (lv_room (Nat.le_of_ble_eq_true rfl)) dX10_sum_6 ⟨Nat.le_refl _, Nat.le_refl _⟩) hP hD hS hA [0, 1] [] [0, 1] rfl rfl rfl rfl (fun H locs hP hD hS => ?_)
  obtain rfl := Option.some.inj hf
  exact hret _ _ _ _ hP hD hS dX10_sum_9
set_option maxHeartbeats 4000000 in
set_option maxRecDepth 100000 in
theorem c_fM_isInField (l : Launch) (dC : Nat → ClassId) (dI : Nat → Nat → Nat) (cI cZ cJ cQ : ClassId) (a_0 a_0s a_0before a_0slots a_0isKept a_0buffer a_0cells a_0owner a_0code a_0table a_0isOver a_0isRuled a_0all a_0some a_0chosen a_0last a_0corner a_0wide a_0cuts a_0aside : Nat) (known_0 : Int32) (length_0 : Int32) (many_0 : Int32) (round_0 : Int32) (seed_0 : Int64) (hash_0 : Int64) (sz : Nat) {x1 : Int32} {x2 : Int32} {s_0 : Nat → Int32} {thrown_0 : Int32} {out : Int32 × Int32} (hf : fM_isInField x1 x2 s_0 thrown_0 = some out) : Met l yX10_isInField wsX10_isInField ({ frames := 3, cells := 0, slots := 0, locals := 66 } : Room) (va_Pc [.ref a_0, .int x1, .int x2] (wlP (dC, dI) (wlT cI cZ cJ cQ) (wl_fM_isInField cI cZ cJ cQ a_0 a_0s a_0before a_0slots a_0isKept a_0buffer a_0cells a_0owner a_0code a_0table a_0isOver a_0isRuled a_0all a_0some a_0chosen a_0last a_0corner a_0wide a_0cuts a_0aside known_0 length_0 thrown_0 many_0 round_0 seed_0 hash_0 s_0) sz)) (va_Qi (fun (v : Int32) (_ : Unit) => v = out.1) (wlQ (dC, dI) (va_A (wl_fM_isInField cI cZ cJ cQ a_0 a_0s a_0before a_0slots a_0isKept a_0buffer a_0cells a_0owner a_0code a_0table a_0isOver a_0isRuled a_0all a_0some a_0chosen a_0last a_0corner a_0wide a_0cuts a_0aside known_0 length_0 thrown_0 many_0 round_0 seed_0 hash_0 s_0) sz) (wl_fM_isInField cI cZ cJ cQ a_0 a_0s a_0before a_0slots a_0isKept a_0buffer a_0cells a_0owner a_0code a_0table a_0isOver a_0isRuled a_0all a_0some a_0chosen a_0last a_0corner a_0wide a_0cuts a_0aside known_0 length_0 out.2 many_0 round_0 seed_0 hash_0 s_0)) (va_A (wl_fM_isInField cI cZ cJ cQ a_0 a_0s a_0before a_0slots a_0isKept a_0buffer a_0cells a_0owner a_0code a_0table a_0isOver a_0isRuled a_0all a_0some a_0chosen a_0last a_0corner a_0wide a_0cuts a_0aside known_0 length_0 thrown_0 many_0 round_0 seed_0 hash_0 s_0) sz)) 0 0 (va_A (wl_fM_isInField cI cZ cJ cQ a_0 a_0s a_0before a_0slots a_0isKept a_0buffer a_0cells a_0owner a_0code a_0table a_0isOver a_0isRuled a_0all a_0some a_0chosen a_0last a_0corner a_0wide a_0cuts a_0aside known_0 length_0 thrown_0 many_0 round_0 seed_0 hash_0 s_0) sz) := by
  refine wh_ofWz (lv := [(0, .ref a_0), (1, .int x1), (2, .int x2)]) RX10 (by decide) rfl rfl (Nat.le_of_ble_eq_true rfl) rfl ?_
  intro p e s m below meth c A QQ hx hb hml hown hts hP hK hN hD hA hret ls hl
  have hS : va_S A s.heap s.heap [] := va_S.rf
  have hiX10 : ∀ w ∈ wsX100, w ∈ wsX10_isInField := (fun _ h => List.mem_cons_of_mem _ (List.mem_append_right _ (h)))
  unfold fM_isInField at hf
  refine lv_aload_n hx hb dX10_isInField_0 rfl (lv_at hl 0 rfl) ?_
  refine lv_iload_n hx hb dX10_isInField_1 rfl (lv_at hl 1 rfl) ?_
  refine lv_iload_n hx hb dX10_isInField_2 rfl (lv_at hl 2 rfl) ?_
  refine lv_iconst (v := 0) hx hb dX10_isInField_3 (by decide) ?_
  obtain ⟨s1, h_s1, hf⟩ := hf_bind hf
  refine wh_calli (D := (dC, dI)) (ws' := (wl_fM_isInField cI cZ cJ cQ a_0 a_0s a_0before a_0slots a_0isKept a_0buffer a_0cells a_0owner a_0code a_0table a_0isOver a_0isRuled a_0all a_0some a_0chosen a_0last a_0corner a_0wide a_0cuts a_0aside known_0 length_0 s1.2 many_0 round_0 seed_0 hash_0 s_0)) (va_runV (As := [.int x1, .int x2, .int (0 : Int32)]) (rest := []) ⟨hx, hb, hml, hown, hts⟩ (c_fM_isThere l dC dI cI cZ cJ cQ a_0 a_0s a_0before a_0slots a_0isKept a_0buffer a_0cells a_0owner a_0code a_0table a_0isOver a_0isRuled a_0all a_0some a_0chosen a_0last a_0corner a_0wide a_0cuts a_0aside known_0 length_0 many_0 round_0 seed_0 hash_0 _ h_s1) (cwV 3 hts gX10_isInField_X10_isThere rfl rfl rfl (by decide +kernel) ⟨Nat.le_of_ble_eq_true rfl, Nat.le_of_ble_eq_true rfl⟩) (wh_preV (C := RX10) (T := TX10) (N := 26) hK hN hP hD [0, 1] rfl rfl 10 0 rfl rfl) rfl rfl hl.1 rfl (lv_room (Nat.le_of_ble_eq_true rfl)) dX10_isInField_4 ⟨Nat.le_refl _, Nat.le_refl _⟩) hP hD hS hA [0, 1] [] [0, 1] rfl rfl rfl rfl (fun H locs hP hD hS => ?_)
  refine lv_if_eq (tgt := 31) hx hb dX10_isInField_7 (by decide) (fun cc => ?_) (fun cc => ?_)
  · replace hf := hf_pos cc hf
    refine lv_iconst (v := 0) hx hb dX10_isInField_31 (by decide) ?_
    obtain rfl := Option.some.inj hf
    exact hret _ _ _ _ (show narrow .boolean (.int (0 : Int32)) = .int (0 : Int32) by decide) hP hD hS dX10_isInField_32
  · replace hf := hf_neg cc hf
    refine lv_aload_n hx hb dX10_isInField_10 rfl (lv_at hl 0 rfl) ?_
    refine va_get (D := (dC, dI)) (ci := 10) (C := RX10) (T := TX10) (N := 26) hx hb hts hiX10 hown hK hP 0 rfl rfl 0 (by decide) (hts (.fieldLink RX10 7 "PaddockFieldsModel" "s" "[I") (List.mem_cons_of_mem _ (List.mem_append_left _ (List.mem_of_getElem? (i := 0) rfl)))) (fun _ h9 => h9) rfl dX10_isInField_11 ?_
    refine lv_bipush (v := 42) hx hb dX10_isInField_14 (by decide) ?_
    refine lv_bipush (v := 7) hx hb dX10_isInField_16 (by decide) ?_
    refine lv_iload_n hx hb dX10_isInField_18 rfl (lv_at hl 1 rfl) ?_
    refine lv_imul hx hb dX10_isInField_19 ?_
    refine lv_iadd hx hb dX10_isInField_20 ?_
    refine lv_iload_n hx hb dX10_isInField_21 rfl (lv_at hl 2 rfl) ?_
    refine lv_iadd hx hb dX10_isInField_22 ?_
    obtain ⟨v2, h_v2, hf⟩ := hf_bind hf
    refine wh_ldI (D := (dC, dI)) hx hb hK hP 1 0 rfl rfl h_v2 dX10_isInField_23 ?_
    refine lv_if_le (tgt := 31) hx hb dX10_isInField_24 (by decide) (fun cc => ?_) (fun cc => ?_)
    · replace hf := hf_pos cc hf
      refine lv_iconst (v := 0) hx hb dX10_isInField_31 (by decide) ?_
      obtain rfl := Option.some.inj hf
      exact hret _ _ _ _ (show narrow .boolean (.int (0 : Int32)) = .int (0 : Int32) by decide) hP hD hS dX10_isInField_32
    · replace hf := hf_neg cc hf
      refine lv_iconst (v := 1) hx hb dX10_isInField_27 (by decide) ?_
      refine lv_goto (tgt := 32) hx hb dX10_isInField_28 (by decide) ?_
      obtain rfl := Option.some.inj hf
      exact hret _ _ _ _ (show narrow .boolean (.int (1 : Int32)) = .int (1 : Int32) by decide) hP hD hS dX10_isInField_32
set_option maxHeartbeats 4000000 in
set_option maxRecDepth 100000 in
theorem c_fM_fieldSize (l : Launch) (dC : Nat → ClassId) (dI : Nat → Nat → Nat) (cI cZ cJ cQ : ClassId) (a_0 a_0s a_0before a_0slots a_0isKept a_0buffer a_0cells a_0owner a_0code a_0table a_0isOver a_0isRuled a_0all a_0some a_0chosen a_0last a_0corner a_0wide a_0cuts a_0aside : Nat) (known_0 : Int32) (length_0 : Int32) (many_0 : Int32) (round_0 : Int32) (seed_0 : Int64) (hash_0 : Int64) (sz : Nat) {F : Nat} {x1 : Int32} {x2 : Int32} {s_0 : Nat → Int32} {thrown_0 : Int32} {out : Int32 × Int32} (hf : fM_fieldSize F x1 x2 s_0 thrown_0 = some out) : Met l yX10_fieldSize wsX10_fieldSize ({ frames := 3, cells := 0, slots := 0, locals := 66 } : Room) (va_Pc [.ref a_0, .int x1, .int x2] (wlP (dC, dI) (wlT cI cZ cJ cQ) (wl_fM_fieldSize cI cZ cJ cQ a_0 a_0s a_0before a_0slots a_0isKept a_0buffer a_0cells a_0owner a_0code a_0table a_0isOver a_0isRuled a_0all a_0some a_0chosen a_0last a_0corner a_0wide a_0cuts a_0aside known_0 length_0 thrown_0 many_0 round_0 seed_0 hash_0 s_0) sz)) (va_Qi (fun (v : Int32) (_ : Unit) => v = out.1) (wlQ (dC, dI) (va_A (wl_fM_fieldSize cI cZ cJ cQ a_0 a_0s a_0before a_0slots a_0isKept a_0buffer a_0cells a_0owner a_0code a_0table a_0isOver a_0isRuled a_0all a_0some a_0chosen a_0last a_0corner a_0wide a_0cuts a_0aside known_0 length_0 thrown_0 many_0 round_0 seed_0 hash_0 s_0) sz) (wl_fM_fieldSize cI cZ cJ cQ a_0 a_0s a_0before a_0slots a_0isKept a_0buffer a_0cells a_0owner a_0code a_0table a_0isOver a_0isRuled a_0all a_0some a_0chosen a_0last a_0corner a_0wide a_0cuts a_0aside known_0 length_0 out.2 many_0 round_0 seed_0 hash_0 s_0)) (va_A (wl_fM_fieldSize cI cZ cJ cQ a_0 a_0s a_0before a_0slots a_0isKept a_0buffer a_0cells a_0owner a_0code a_0table a_0isOver a_0isRuled a_0all a_0some a_0chosen a_0last a_0corner a_0wide a_0cuts a_0aside known_0 length_0 thrown_0 many_0 round_0 seed_0 hash_0 s_0) sz)) 0 0 (va_A (wl_fM_fieldSize cI cZ cJ cQ a_0 a_0s a_0before a_0slots a_0isKept a_0buffer a_0cells a_0owner a_0code a_0table a_0isOver a_0isRuled a_0all a_0some a_0chosen a_0last a_0corner a_0wide a_0cuts a_0aside known_0 length_0 thrown_0 many_0 round_0 seed_0 hash_0 s_0) sz) := by
  refine wh_ofWi (lv := [(0, .ref a_0), (1, .int x1), (2, .int x2)]) RX10 (by decide) rfl rfl (Nat.le_of_ble_eq_true rfl) rfl ?_
  intro p e s m below meth c A QQ hx hb hml hown hts hP hK hN hD hA hret ls hl
  have hS : va_S A s.heap s.heap [] := va_S.rf
  unfold fM_fieldSize at hf
  refine lv_aload_n hx hb dX10_fieldSize_0 rfl (lv_at hl 0 rfl) ?_
  refine lv_iload_n hx hb dX10_fieldSize_1 rfl (lv_at hl 1 rfl) ?_
  refine lv_iload_n hx hb dX10_fieldSize_2 rfl (lv_at hl 2 rfl) ?_
  refine lv_iconst (v := 1) hx hb dX10_fieldSize_3 (by decide) ?_
  obtain ⟨s1, h_s1, hf⟩ := hf_bind hf
  refine wh_calli (D := (dC, dI)) (ws' := (wl_fM_fieldSize cI cZ cJ cQ a_0 a_0s a_0before a_0slots a_0isKept a_0buffer a_0cells a_0owner a_0code a_0table a_0isOver a_0isRuled a_0all a_0some a_0chosen a_0last a_0corner a_0wide a_0cuts a_0aside known_0 length_0 s1.2 many_0 round_0 seed_0 hash_0 s_0)) (va_runV (As := [.int x1, .int x2, .int (1 : Int32)]) (rest := []) ⟨hx, hb, hml, hown, hts⟩ (c_fM_isThere l dC dI cI cZ cJ cQ a_0 a_0s a_0before a_0slots a_0isKept a_0buffer a_0cells a_0owner a_0code a_0table a_0isOver a_0isRuled a_0all a_0some a_0chosen a_0last a_0corner a_0wide a_0cuts a_0aside known_0 length_0 many_0 round_0 seed_0 hash_0 _ h_s1) (cwV 3 hts gX10_fieldSize_X10_isThere rfl rfl rfl (by decide +kernel) ⟨Nat.le_of_ble_eq_true rfl, Nat.le_of_ble_eq_true rfl⟩) (wh_preV (C := RX10) (T := TX10) (N := 26) hK hN hP hD [0, 1] rfl rfl 10 0 rfl rfl) rfl rfl hl.1 rfl (lv_room (Nat.le_of_ble_eq_true rfl)) dX10_fieldSize_4 ⟨Nat.le_refl _, Nat.le_refl _⟩) hP hD hS hA [0, 1] [] [0, 1] rfl rfl rfl rfl (fun H locs hP hD hS => ?_)
  refine lv_if_eq (tgt := 26) hx hb dX10_fieldSize_7 (by decide) (fun cc => ?_) (fun cc => ?_)
  · replace hf := hf_pos cc hf
    refine lv_iconst (v := 0) hx hb dX10_fieldSize_26 (by decide) ?_
    obtain rfl := Option.some.inj hf
    exact hret _ _ _ _ hP hD hS dX10_fieldSize_27
  · replace hf := hf_neg cc hf
    refine lv_aload_n hx hb dX10_fieldSize_10 rfl (lv_at hl 0 rfl) ?_
    refine lv_bipush (v := 7) hx hb dX10_fieldSize_11 (by decide) ?_
    refine lv_iload_n hx hb dX10_fieldSize_13 rfl (lv_at hl 1 rfl) ?_
    refine lv_imul hx hb dX10_fieldSize_14 ?_
    refine lv_iload_n hx hb dX10_fieldSize_15 rfl (lv_at hl 2 rfl) ?_
    refine lv_iadd hx hb dX10_fieldSize_16 ?_
    obtain ⟨s2, h_s2, hf⟩ := hf_bind hf
    refine wh_calll (D := (dC, dI)) (ws' := (wl_fM_fieldSize cI cZ cJ cQ a_0 a_0s a_0before a_0slots a_0isKept a_0buffer a_0cells a_0owner a_0code a_0table a_0isOver a_0isRuled a_0all a_0some a_0chosen a_0last a_0corner a_0wide a_0cuts a_0aside known_0 length_0 s1.2 many_0 round_0 seed_0 hash_0 s_0)) (va_runV (As := [.int (((7 : Int32) * x1) + x2)]) (rest := []) ⟨hx, hb, hml, hown, hts⟩ (c_fM_fieldOf l dC dI cI cZ cJ cQ a_0 a_0s a_0before a_0slots a_0isKept a_0buffer a_0cells a_0owner a_0code a_0table a_0isOver a_0isRuled a_0all a_0some a_0chosen a_0last a_0corner a_0wide a_0cuts a_0aside known_0 length_0 s1.2 many_0 round_0 seed_0 hash_0 _ h_s2) (cwV 1 hts gX10_fieldSize_X10_fieldOf rfl rfl rfl (by decide +kernel) ⟨Nat.le_of_ble_eq_true rfl, Nat.le_of_ble_eq_true rfl⟩) (wh_preV (C := RX10) (T := TX10) (N := 26) hK hN hP hD [0, 1] rfl rfl 10 0 rfl rfl) rfl rfl hl.1 rfl (lv_room (Nat.le_of_ble_eq_true rfl)) dX10_fieldSize_17 ⟨Nat.le_refl _, Nat.le_refl _⟩) hP hD hS hA [0, 1] [] [0, 1] rfl rfl rfl rfl (fun H locs hP hD hS => ?_)
    obtain ⟨s3, h_s3, hf⟩ := hf_bind hf
    refine wh_calli (D := (dC, dI)) (ws' := (wl_fM_fieldSize cI cZ cJ cQ a_0 a_0s a_0before a_0slots a_0isKept a_0buffer a_0cells a_0owner a_0code a_0table a_0isOver a_0isRuled a_0all a_0some a_0chosen a_0last a_0corner a_0wide a_0cuts a_0aside known_0 length_0 s1.2 many_0 round_0 seed_0 hash_0 s_0)) (va_runS (As := [.long s2]) (rest := []) ⟨hx, hb, hml, hown, hts⟩ (c_fM_bits l dC dI cI cZ cJ cQ _ h_s3) (va_cwS 1 hts gX10_fieldSize_X10_bits rfl rfl rfl (by decide +kernel) ⟨Nat.le_of_ble_eq_true rfl, Nat.le_of_ble_eq_true rfl⟩) (wh_preS hK hN hP hD [] rfl rfl) rfl rfl hl.1 rfl (lv_room (Nat.le_of_ble_eq_true rfl)) dX10_fieldSize_20 ⟨Nat.le_refl _, Nat.le_refl _⟩) hP hD hS hA [] [0, 1] [0, 1] rfl rfl rfl rfl (fun H locs hP hD hS => ?_)
    refine lv_goto (tgt := 27) hx hb dX10_fieldSize_23 (by decide) ?_
    obtain rfl := Option.some.inj hf
    exact hret _ _ _ _ hP hD hS dX10_fieldSize_27
set_option maxHeartbeats 4000000 in
set_option maxRecDepth 100000 in
theorem c_fM_cornerOf (l : Launch) (dC : Nat → ClassId) (dI : Nat → Nat → Nat) (cI cZ cJ cQ : ClassId) (a_0 a_0s a_0before a_0slots a_0isKept a_0buffer a_0cells a_0owner a_0code a_0table a_0isOver a_0isRuled a_0all a_0some a_0chosen a_0last a_0corner a_0wide a_0cuts a_0aside : Nat) (known_0 : Int32) (length_0 : Int32) (many_0 : Int32) (round_0 : Int32) (seed_0 : Int64) (hash_0 : Int64) (sz : Nat) {x1 : Int32} {x2 : Int32} {s_0 : Nat → Int32} {thrown_0 : Int32} {out : Int32 × Int32} (hf : fM_cornerOf x1 x2 s_0 thrown_0 = some out) : Met l yX10_cornerOf wsX10_cornerOf ({ frames := 3, cells := 0, slots := 0, locals := 66 } : Room) (va_Pc [.ref a_0, .int x1, .int x2] (wlP (dC, dI) (wlT cI cZ cJ cQ) (wl_fM_cornerOf cI cZ cJ cQ a_0 a_0s a_0before a_0slots a_0isKept a_0buffer a_0cells a_0owner a_0code a_0table a_0isOver a_0isRuled a_0all a_0some a_0chosen a_0last a_0corner a_0wide a_0cuts a_0aside known_0 length_0 thrown_0 many_0 round_0 seed_0 hash_0 s_0) sz)) (va_Qi (fun (v : Int32) (_ : Unit) => v = out.1) (wlQ (dC, dI) (va_A (wl_fM_cornerOf cI cZ cJ cQ a_0 a_0s a_0before a_0slots a_0isKept a_0buffer a_0cells a_0owner a_0code a_0table a_0isOver a_0isRuled a_0all a_0some a_0chosen a_0last a_0corner a_0wide a_0cuts a_0aside known_0 length_0 thrown_0 many_0 round_0 seed_0 hash_0 s_0) sz) (wl_fM_cornerOf cI cZ cJ cQ a_0 a_0s a_0before a_0slots a_0isKept a_0buffer a_0cells a_0owner a_0code a_0table a_0isOver a_0isRuled a_0all a_0some a_0chosen a_0last a_0corner a_0wide a_0cuts a_0aside known_0 length_0 out.2 many_0 round_0 seed_0 hash_0 s_0)) (va_A (wl_fM_cornerOf cI cZ cJ cQ a_0 a_0s a_0before a_0slots a_0isKept a_0buffer a_0cells a_0owner a_0code a_0table a_0isOver a_0isRuled a_0all a_0some a_0chosen a_0last a_0corner a_0wide a_0cuts a_0aside known_0 length_0 thrown_0 many_0 round_0 seed_0 hash_0 s_0) sz)) 0 0 (va_A (wl_fM_cornerOf cI cZ cJ cQ a_0 a_0s a_0before a_0slots a_0isKept a_0buffer a_0cells a_0owner a_0code a_0table a_0isOver a_0isRuled a_0all a_0some a_0chosen a_0last a_0corner a_0wide a_0cuts a_0aside known_0 length_0 thrown_0 many_0 round_0 seed_0 hash_0 s_0) sz) := by
  refine wh_ofWi (lv := [(0, .ref a_0), (1, .int x1), (2, .int x2)]) RX10 (by decide) rfl rfl (Nat.le_of_ble_eq_true rfl) rfl ?_
  intro p e s m below meth c A QQ hx hb hml hown hts hP hK hN hD hA hret ls hl
  have hS : va_S A s.heap s.heap [] := va_S.rf
  have hiX10 : ∀ w ∈ wsX100, w ∈ wsX10_cornerOf := (fun _ h => List.mem_cons_of_mem _ (List.mem_append_right _ (h)))
  unfold fM_cornerOf at hf
  refine lv_aload_n hx hb dX10_cornerOf_0 rfl (lv_at hl 0 rfl) ?_
  refine lv_iload_n hx hb dX10_cornerOf_1 rfl (lv_at hl 1 rfl) ?_
  refine lv_iload_n hx hb dX10_cornerOf_2 rfl (lv_at hl 2 rfl) ?_
  refine lv_iconst (v := 1) hx hb dX10_cornerOf_3 (by decide) ?_
  obtain ⟨s1, h_s1, hf⟩ := hf_bind hf
  refine wh_calli (D := (dC, dI)) (ws' := (wl_fM_cornerOf cI cZ cJ cQ a_0 a_0s a_0before a_0slots a_0isKept a_0buffer a_0cells a_0owner a_0code a_0table a_0isOver a_0isRuled a_0all a_0some a_0chosen a_0last a_0corner a_0wide a_0cuts a_0aside known_0 length_0 s1.2 many_0 round_0 seed_0 hash_0 s_0)) (va_runV (As := [.int x1, .int x2, .int (1 : Int32)]) (rest := []) ⟨hx, hb, hml, hown, hts⟩ (c_fM_isThere l dC dI cI cZ cJ cQ a_0 a_0s a_0before a_0slots a_0isKept a_0buffer a_0cells a_0owner a_0code a_0table a_0isOver a_0isRuled a_0all a_0some a_0chosen a_0last a_0corner a_0wide a_0cuts a_0aside known_0 length_0 many_0 round_0 seed_0 hash_0 _ h_s1) (cwV 3 hts gX10_cornerOf_X10_isThere rfl rfl rfl (by decide +kernel) ⟨Nat.le_of_ble_eq_true rfl, Nat.le_of_ble_eq_true rfl⟩) (wh_preV (C := RX10) (T := TX10) (N := 26) hK hN hP hD [0, 1] rfl rfl 10 0 rfl rfl) rfl rfl hl.1 rfl (lv_room (Nat.le_of_ble_eq_true rfl)) dX10_cornerOf_4 ⟨Nat.le_refl _, Nat.le_refl _⟩) hP hD hS hA [0, 1] [] [0, 1] rfl rfl rfl rfl (fun H locs hP hD hS => ?_)
  refine lv_if_eq (tgt := 29) hx hb dX10_cornerOf_7 (by decide) (fun cc => ?_) (fun cc => ?_)
  · replace hf := hf_pos cc hf
    refine lv_iconst (v := 0) hx hb dX10_cornerOf_29 (by decide) ?_
    obtain rfl := Option.some.inj hf
    exact hret _ _ _ _ hP hD hS dX10_cornerOf_30
  · replace hf := hf_neg cc hf
    refine lv_aload_n hx hb dX10_cornerOf_10 rfl (lv_at hl 0 rfl) ?_
    refine va_get (D := (dC, dI)) (ci := 10) (C := RX10) (T := TX10) (N := 26) hx hb hts hiX10 hown hK hP 0 rfl rfl 0 (by decide) (hts (.fieldLink RX10 7 "PaddockFieldsModel" "s" "[I") (List.mem_cons_of_mem _ (List.mem_append_left _ (List.mem_of_getElem? (i := 0) rfl)))) (fun _ h9 => h9) rfl dX10_cornerOf_11 ?_
    refine lv_bipush (v := 42) hx hb dX10_cornerOf_14 (by decide) ?_
    refine lv_bipush (v := 7) hx hb dX10_cornerOf_16 (by decide) ?_
    refine lv_iload_n hx hb dX10_cornerOf_18 rfl (lv_at hl 1 rfl) ?_
    refine lv_imul hx hb dX10_cornerOf_19 ?_
    refine lv_iadd hx hb dX10_cornerOf_20 ?_
    refine lv_iload_n hx hb dX10_cornerOf_21 rfl (lv_at hl 2 rfl) ?_
    refine lv_iadd hx hb dX10_cornerOf_22 ?_
    obtain ⟨v2, h_v2, hf⟩ := hf_bind hf
    refine wh_ldI (D := (dC, dI)) hx hb hK hP 1 0 rfl rfl h_v2 dX10_cornerOf_23 ?_
    refine lv_iconst (v := 1) hx hb dX10_cornerOf_24 (by decide) ?_
    refine lv_isub hx hb dX10_cornerOf_25 ?_
    refine lv_goto (tgt := 30) hx hb dX10_cornerOf_26 (by decide) ?_
    obtain rfl := Option.some.inj hf
    exact hret _ _ _ _ hP hD hS dX10_cornerOf_30
set_option maxHeartbeats 4000000 in
set_option maxRecDepth 100000 in
theorem c_fM_fields (l : Launch) (dC : Nat → ClassId) (dI : Nat → Nat → Nat) (cI cZ cJ cQ : ClassId) (a_0 a_0s a_0before a_0slots a_0isKept a_0buffer a_0cells a_0owner a_0code a_0table a_0isOver a_0isRuled a_0all a_0some a_0chosen a_0last a_0corner a_0wide a_0cuts a_0aside : Nat) (known_0 : Int32) (length_0 : Int32) (many_0 : Int32) (round_0 : Int32) (seed_0 : Int64) (hash_0 : Int64) (sz : Nat) {F : Nat} {thrown_0 : Int32} {s_0 : Nat → Int32} {out : Int32 × Int32} (hf : fM_fields F thrown_0 s_0 = some out) : Met l yX10_fields wsX10_fields ({ frames := 1, cells := 0, slots := 0, locals := 22 } : Room) (va_Pc [.ref a_0] (wlP (dC, dI) (wlT cI cZ cJ cQ) (wl_fM_fields cI cZ cJ cQ a_0 a_0s a_0before a_0slots a_0isKept a_0buffer a_0cells a_0owner a_0code a_0table a_0isOver a_0isRuled a_0all a_0some a_0chosen a_0last a_0corner a_0wide a_0cuts a_0aside known_0 length_0 thrown_0 many_0 round_0 seed_0 hash_0 s_0) sz)) (va_Qi (fun (v : Int32) (_ : Unit) => v = out.1) (wlQ (dC, dI) (va_A (wl_fM_fields cI cZ cJ cQ a_0 a_0s a_0before a_0slots a_0isKept a_0buffer a_0cells a_0owner a_0code a_0table a_0isOver a_0isRuled a_0all a_0some a_0chosen a_0last a_0corner a_0wide a_0cuts a_0aside known_0 length_0 thrown_0 many_0 round_0 seed_0 hash_0 s_0) sz) (wl_fM_fields cI cZ cJ cQ a_0 a_0s a_0before a_0slots a_0isKept a_0buffer a_0cells a_0owner a_0code a_0table a_0isOver a_0isRuled a_0all a_0some a_0chosen a_0last a_0corner a_0wide a_0cuts a_0aside known_0 length_0 out.2 many_0 round_0 seed_0 hash_0 s_0)) (va_A (wl_fM_fields cI cZ cJ cQ a_0 a_0s a_0before a_0slots a_0isKept a_0buffer a_0cells a_0owner a_0code a_0table a_0isOver a_0isRuled a_0all a_0some a_0chosen a_0last a_0corner a_0wide a_0cuts a_0aside known_0 length_0 thrown_0 many_0 round_0 seed_0 hash_0 s_0) sz)) 0 0 (va_A (wl_fM_fields cI cZ cJ cQ a_0 a_0s a_0before a_0slots a_0isKept a_0buffer a_0cells a_0owner a_0code a_0table a_0isOver a_0isRuled a_0all a_0some a_0chosen a_0last a_0corner a_0wide a_0cuts a_0aside known_0 length_0 thrown_0 many_0 round_0 seed_0 hash_0 s_0) sz) := by
  refine wh_ofWi (lv := [(0, .ref a_0)]) RX10 (by decide) rfl rfl (Nat.le_of_ble_eq_true rfl) rfl ?_
  intro p e s m below meth c A QQ hx hb hml hown hts hP hK hN hD hA hret ls hl
  have hS : va_S A s.heap s.heap [] := va_S.rf
  have hiX10 : ∀ w ∈ wsX100, w ∈ wsX10_fields := (fun _ h => List.mem_cons_of_mem _ (List.mem_append_right _ (h)))
  unfold fM_fields at hf
  refine lv_aload_n hx hb dX10_fields_0 rfl (lv_at hl 0 rfl) ?_
  refine lv_iconst (v := 0) hx hb dX10_fields_1 (by decide) ?_
  refine wh_put (D := (dC, dI)) (ci := 10) (C := RX10) (T := TX10) (N := 26) (ty := .int) (v := .int (0 : Int32)) (ws' := (wl_fM_fields cI cZ cJ cQ a_0 a_0s a_0before a_0slots a_0isKept a_0buffer a_0cells a_0owner a_0code a_0table a_0isOver a_0isRuled a_0all a_0some a_0chosen a_0last a_0corner a_0wide a_0cuts a_0aside known_0 length_0 (0 : Int32) many_0 round_0 seed_0 hash_0 s_0)) hx hb hts hiX10 tyX10 tyX10_ok nmX10 hown hK hP hD hS 0 rfl rfl 7 (by decide) (hts (.fieldLink RX10 69 "PaddockFieldsModel" "thrown" "I") (List.mem_cons_of_mem _ (List.mem_append_left _ (List.mem_of_getElem? (i := 0) rfl)))) (fun _ h9 => h9) rfl rfl rfl rfl (Nat.le_of_ble_eq_true rfl) rfl dX10_fields_2 (fun H locs hP hD hS => ?_)
  refine lv_aload_n hx hb dX10_fields_5 rfl (lv_at hl 0 rfl) ?_
  obtain ⟨s1, h_s1, hf⟩ := hf_bind hf
  refine wh_calli (D := (dC, dI)) (ws' := (wl_fM_fields cI cZ cJ cQ a_0 a_0s a_0before a_0slots a_0isKept a_0buffer a_0cells a_0owner a_0code a_0table a_0isOver a_0isRuled a_0all a_0some a_0chosen a_0last a_0corner a_0wide a_0cuts a_0aside known_0 length_0 (0 : Int32) many_0 round_0 seed_0 hash_0 s_0)) (va_runV (As := []) (rest := []) ⟨hx, hb, hml, hown, hts⟩ (c_fM_allFields l dC dI cI cZ cJ cQ a_0 a_0s a_0before a_0slots a_0isKept a_0buffer a_0cells a_0owner a_0code a_0table a_0isOver a_0isRuled a_0all a_0some a_0chosen a_0last a_0corner a_0wide a_0cuts a_0aside known_0 length_0 (0 : Int32) many_0 round_0 seed_0 hash_0 _ h_s1) (cwV 0 hts gX10_fields_X10_allFields rfl rfl rfl (by decide +kernel) ⟨Nat.le_of_ble_eq_true rfl, Nat.le_of_ble_eq_true rfl⟩) (wh_preV (C := RX10) (T := TX10) (N := 26) hK hN hP hD [0, 1] rfl rfl 10 0 rfl rfl) rfl rfl hl.1 rfl (lv_room (Nat.le_of_ble_eq_true rfl)) dX10_fields_6 ⟨Nat.le_refl _, Nat.le_refl _⟩) hP hD hS hA [0, 1] [] [0, 1] rfl rfl rfl rfl (fun H locs hP hD hS => ?_)
  obtain rfl := Option.some.inj hf
  exact hret _ _ _ _ hP hD hS dX10_fields_9
set_option maxHeartbeats 4000000 in
set_option maxRecDepth 100000 in
theorem c_fM_openCells (l : Launch) (dC : Nat → ClassId) (dI : Nat → Nat → Nat) (cI cZ cJ cQ : ClassId) (a_0 a_0s a_0before a_0slots a_0isKept a_0buffer a_0cells a_0owner a_0code a_0table a_0isOver a_0isRuled a_0all a_0some a_0chosen a_0last a_0corner a_0wide a_0cuts a_0aside : Nat) (known_0 : Int32) (length_0 : Int32) (many_0 : Int32) (round_0 : Int32) (seed_0 : Int64) (hash_0 : Int64) (sz : Nat) {F : Nat} {thrown_0 : Int32} {s_0 : Nat → Int32} {out : Int32 × Int32} (hf : fM_openCells F thrown_0 s_0 = some out) : Met l yX10_openCells wsX10_openCells ({ frames := 2, cells := 0, slots := 0, locals := 45 } : Room) (va_Pc [.ref a_0] (wlP (dC, dI) (wlT cI cZ cJ cQ) (wl_fM_openCells cI cZ cJ cQ a_0 a_0s a_0before a_0slots a_0isKept a_0buffer a_0cells a_0owner a_0code a_0table a_0isOver a_0isRuled a_0all a_0some a_0chosen a_0last a_0corner a_0wide a_0cuts a_0aside known_0 length_0 thrown_0 many_0 round_0 seed_0 hash_0 s_0) sz)) (va_Qi (fun (v : Int32) (_ : Unit) => v = out.1) (wlQ (dC, dI) (va_A (wl_fM_openCells cI cZ cJ cQ a_0 a_0s a_0before a_0slots a_0isKept a_0buffer a_0cells a_0owner a_0code a_0table a_0isOver a_0isRuled a_0all a_0some a_0chosen a_0last a_0corner a_0wide a_0cuts a_0aside known_0 length_0 thrown_0 many_0 round_0 seed_0 hash_0 s_0) sz) (wl_fM_openCells cI cZ cJ cQ a_0 a_0s a_0before a_0slots a_0isKept a_0buffer a_0cells a_0owner a_0code a_0table a_0isOver a_0isRuled a_0all a_0some a_0chosen a_0last a_0corner a_0wide a_0cuts a_0aside known_0 length_0 out.2 many_0 round_0 seed_0 hash_0 s_0)) (va_A (wl_fM_openCells cI cZ cJ cQ a_0 a_0s a_0before a_0slots a_0isKept a_0buffer a_0cells a_0owner a_0code a_0table a_0isOver a_0isRuled a_0all a_0some a_0chosen a_0last a_0corner a_0wide a_0cuts a_0aside known_0 length_0 thrown_0 many_0 round_0 seed_0 hash_0 s_0) sz)) 0 0 (va_A (wl_fM_openCells cI cZ cJ cQ a_0 a_0s a_0before a_0slots a_0isKept a_0buffer a_0cells a_0owner a_0code a_0table a_0isOver a_0isRuled a_0all a_0some a_0chosen a_0last a_0corner a_0wide a_0cuts a_0aside known_0 length_0 thrown_0 many_0 round_0 seed_0 hash_0 s_0) sz) := by
  refine wh_ofWi (lv := [(0, .ref a_0)]) RX10 (by decide) rfl rfl (Nat.le_of_ble_eq_true rfl) rfl ?_
  intro p e s m below meth c A QQ hx hb hml hown hts hP hK hN hD hA hret ls hl
  have hS : va_S A s.heap s.heap [] := va_S.rf
  have hiX10 : ∀ w ∈ wsX100, w ∈ wsX10_openCells := (fun _ h => List.mem_cons_of_mem _ (List.mem_append_right _ (h)))
  unfold fM_openCells at hf
  refine lv_aload_n hx hb dX10_openCells_0 rfl (lv_at hl 0 rfl) ?_
  refine lv_iconst (v := 0) hx hb dX10_openCells_1 (by decide) ?_
  refine wh_put (D := (dC, dI)) (ci := 10) (C := RX10) (T := TX10) (N := 26) (ty := .int) (v := .int (0 : Int32)) (ws' := (wl_fM_openCells cI cZ cJ cQ a_0 a_0s a_0before a_0slots a_0isKept a_0buffer a_0cells a_0owner a_0code a_0table a_0isOver a_0isRuled a_0all a_0some a_0chosen a_0last a_0corner a_0wide a_0cuts a_0aside known_0 length_0 (0 : Int32) many_0 round_0 seed_0 hash_0 s_0)) hx hb hts hiX10 tyX10 tyX10_ok nmX10 hown hK hP hD hS 0 rfl rfl 7 (by decide) (hts (.fieldLink RX10 69 "PaddockFieldsModel" "thrown" "I") (List.mem_cons_of_mem _ (List.mem_append_left _ (List.mem_of_getElem? (i := 0) rfl)))) (fun _ h9 => h9) rfl rfl rfl rfl (Nat.le_of_ble_eq_true rfl) rfl dX10_openCells_2 (fun H locs hP hD hS => ?_)
  refine lv_bipush (v := 42) hx hb dX10_openCells_5 (by decide) ?_
  refine lv_aload_n hx hb dX10_openCells_7 rfl (lv_at hl 0 rfl) ?_
  obtain ⟨s1, h_s1, hf⟩ := hf_bind hf
  refine wh_calll (D := (dC, dI)) (ws' := (wl_fM_openCells cI cZ cJ cQ a_0 a_0s a_0before a_0slots a_0isKept a_0buffer a_0cells a_0owner a_0code a_0table a_0isOver a_0isRuled a_0all a_0some a_0chosen a_0last a_0corner a_0wide a_0cuts a_0aside known_0 length_0 (0 : Int32) many_0 round_0 seed_0 hash_0 s_0)) (va_runV (As := []) (rest := [.int (42 : Int32)]) ⟨hx, hb, hml, hown, hts⟩ (c_fM_taken l dC dI cI cZ cJ cQ a_0 a_0s a_0before a_0slots a_0isKept a_0buffer a_0cells a_0owner a_0code a_0table a_0isOver a_0isRuled a_0all a_0some a_0chosen a_0last a_0corner a_0wide a_0cuts a_0aside known_0 length_0 (0 : Int32) many_0 round_0 seed_0 hash_0 _ h_s1) (cwV 0 hts gX10_openCells_X10_taken rfl rfl rfl (by decide +kernel) ⟨Nat.le_of_ble_eq_true rfl, Nat.le_of_ble_eq_true rfl⟩) (wh_preV (C := RX10) (T := TX10) (N := 26) hK hN hP hD [0, 1] rfl rfl 10 0 rfl rfl) rfl rfl hl.1 rfl (lv_room (Nat.le_of_ble_eq_true rfl)) dX10_openCells_8 ⟨Nat.le_refl _, Nat.le_refl _⟩) hP hD hS hA [0, 1] [] [0, 1] rfl rfl rfl rfl (fun H locs hP hD hS => ?_)
  obtain ⟨s2, h_s2, hf⟩ := hf_bind hf
  refine wh_calli (D := (dC, dI)) (ws' := (wl_fM_openCells cI cZ cJ cQ a_0 a_0s a_0before a_0slots a_0isKept a_0buffer a_0cells a_0owner a_0code a_0table a_0isOver a_0isRuled a_0all a_0some a_0chosen a_0last a_0corner a_0wide a_0cuts a_0aside known_0 length_0 (0 : Int32) many_0 round_0 seed_0 hash_0 s_0)) (va_runS (As := [.long s1]) (rest := [.int (42 : Int32)]) ⟨hx, hb, hml, hown, hts⟩ (c_fM_bits l dC dI cI cZ cJ cQ _ h_s2) (va_cwS 1 hts gX10_openCells_X10_bits rfl rfl rfl (by decide +kernel) ⟨Nat.le_of_ble_eq_true rfl, Nat.le_of_ble_eq_true rfl⟩) (wh_preS hK hN hP hD [] rfl rfl) rfl rfl hl.1 rfl (lv_room (Nat.le_of_ble_eq_true rfl)) dX10_openCells_11 ⟨Nat.le_refl _, Nat.le_refl _⟩) hP hD hS hA [] [0, 1] [0, 1] rfl rfl rfl rfl (fun H locs hP hD hS => ?_)
  refine lv_isub hx hb dX10_openCells_14 ?_
  obtain rfl := Option.some.inj hf
  exact hret _ _ _ _ hP hD hS dX10_openCells_15
set_option maxHeartbeats 4000000 in
set_option maxRecDepth 100000 in
theorem c_fM_isFull (l : Launch) (dC : Nat → ClassId) (dI : Nat → Nat → Nat) (cI cZ cJ cQ : ClassId) (a_0 a_0s a_0before a_0slots a_0isKept a_0buffer a_0cells a_0owner a_0code a_0table a_0isOver a_0isRuled a_0all a_0some a_0chosen a_0last a_0corner a_0wide a_0cuts a_0aside : Nat) (known_0 : Int32) (length_0 : Int32) (many_0 : Int32) (round_0 : Int32) (seed_0 : Int64) (hash_0 : Int64) (sz : Nat) {F : Nat} {thrown_0 : Int32} {s_0 : Nat → Int32} {out : Int32 × Int32} (hf : fM_isFull F thrown_0 s_0 = some out) : Met l yX10_isFull wsX10_isFull ({ frames := 1, cells := 0, slots := 0, locals := 23 } : Room) (va_Pc [.ref a_0] (wlP (dC, dI) (wlT cI cZ cJ cQ) (wl_fM_isFull cI cZ cJ cQ a_0 a_0s a_0before a_0slots a_0isKept a_0buffer a_0cells a_0owner a_0code a_0table a_0isOver a_0isRuled a_0all a_0some a_0chosen a_0last a_0corner a_0wide a_0cuts a_0aside known_0 length_0 thrown_0 many_0 round_0 seed_0 hash_0 s_0) sz)) (va_Qi (fun (v : Int32) (_ : Unit) => v = out.1) (wlQ (dC, dI) (va_A (wl_fM_isFull cI cZ cJ cQ a_0 a_0s a_0before a_0slots a_0isKept a_0buffer a_0cells a_0owner a_0code a_0table a_0isOver a_0isRuled a_0all a_0some a_0chosen a_0last a_0corner a_0wide a_0cuts a_0aside known_0 length_0 thrown_0 many_0 round_0 seed_0 hash_0 s_0) sz) (wl_fM_isFull cI cZ cJ cQ a_0 a_0s a_0before a_0slots a_0isKept a_0buffer a_0cells a_0owner a_0code a_0table a_0isOver a_0isRuled a_0all a_0some a_0chosen a_0last a_0corner a_0wide a_0cuts a_0aside known_0 length_0 out.2 many_0 round_0 seed_0 hash_0 s_0)) (va_A (wl_fM_isFull cI cZ cJ cQ a_0 a_0s a_0before a_0slots a_0isKept a_0buffer a_0cells a_0owner a_0code a_0table a_0isOver a_0isRuled a_0all a_0some a_0chosen a_0last a_0corner a_0wide a_0cuts a_0aside known_0 length_0 thrown_0 many_0 round_0 seed_0 hash_0 s_0) sz)) 0 0 (va_A (wl_fM_isFull cI cZ cJ cQ a_0 a_0s a_0before a_0slots a_0isKept a_0buffer a_0cells a_0owner a_0code a_0table a_0isOver a_0isRuled a_0all a_0some a_0chosen a_0last a_0corner a_0wide a_0cuts a_0aside known_0 length_0 thrown_0 many_0 round_0 seed_0 hash_0 s_0) sz) := by
  refine wh_ofWz (lv := [(0, .ref a_0)]) RX10 (by decide) rfl rfl (Nat.le_of_ble_eq_true rfl) rfl ?_
  intro p e s m below meth c A QQ hx hb hml hown hts hP hK hN hD hA hret ls hl
  have hS : va_S A s.heap s.heap [] := va_S.rf
  have hiX10 : ∀ w ∈ wsX100, w ∈ wsX10_isFull := (fun _ h => List.mem_cons_of_mem _ (List.mem_append_right _ (h)))
  unfold fM_isFull at hf
  refine lv_aload_n hx hb dX10_isFull_0 rfl (lv_at hl 0 rfl) ?_
  refine lv_iconst (v := 0) hx hb dX10_isFull_1 (by decide) ?_
  refine wh_put (D := (dC, dI)) (ci := 10) (C := RX10) (T := TX10) (N := 26) (ty := .int) (v := .int (0 : Int32)) (ws' := (wl_fM_isFull cI cZ cJ cQ a_0 a_0s a_0before a_0slots a_0isKept a_0buffer a_0cells a_0owner a_0code a_0table a_0isOver a_0isRuled a_0all a_0some a_0chosen a_0last a_0corner a_0wide a_0cuts a_0aside known_0 length_0 (0 : Int32) many_0 round_0 seed_0 hash_0 s_0)) hx hb hts hiX10 tyX10 tyX10_ok nmX10 hown hK hP hD hS 0 rfl rfl 7 (by decide) (hts (.fieldLink RX10 69 "PaddockFieldsModel" "thrown" "I") (List.mem_cons_of_mem _ (List.mem_append_left _ (List.mem_of_getElem? (i := 0) rfl)))) (fun _ h9 => h9) rfl rfl rfl rfl (Nat.le_of_ble_eq_true rfl) rfl dX10_isFull_2 (fun H locs hP hD hS => ?_)
  refine lv_aload_n hx hb dX10_isFull_5 rfl (lv_at hl 0 rfl) ?_
  obtain ⟨s1, h_s1, hf⟩ := hf_bind hf
  refine wh_calll (D := (dC, dI)) (ws' := (wl_fM_isFull cI cZ cJ cQ a_0 a_0s a_0before a_0slots a_0isKept a_0buffer a_0cells a_0owner a_0code a_0table a_0isOver a_0isRuled a_0all a_0some a_0chosen a_0last a_0corner a_0wide a_0cuts a_0aside known_0 length_0 (0 : Int32) many_0 round_0 seed_0 hash_0 s_0)) (va_runV (As := []) (rest := []) ⟨hx, hb, hml, hown, hts⟩ (c_fM_taken l dC dI cI cZ cJ cQ a_0 a_0s a_0before a_0slots a_0isKept a_0buffer a_0cells a_0owner a_0code a_0table a_0isOver a_0isRuled a_0all a_0some a_0chosen a_0last a_0corner a_0wide a_0cuts a_0aside known_0 length_0 (0 : Int32) many_0 round_0 seed_0 hash_0 _ h_s1) (cwV 0 hts gX10_isFull_X10_taken rfl rfl rfl (by decide +kernel) ⟨Nat.le_of_ble_eq_true rfl, Nat.le_of_ble_eq_true rfl⟩) (wh_preV (C := RX10) (T := TX10) (N := 26) hK hN hP hD [0, 1] rfl rfl 10 0 rfl rfl) rfl rfl hl.1 rfl (lv_room (Nat.le_of_ble_eq_true rfl)) dX10_isFull_6 ⟨Nat.le_refl _, Nat.le_refl _⟩) hP hD hS hA [0, 1] [] [0, 1] rfl rfl rfl rfl (fun H locs hP hD hS => ?_)
  refine lv_ldc2 hx hb hown (hts (.constantLong RX10 109 (4398046511103)) (List.mem_cons_of_mem _ (List.mem_append_left _ (List.mem_of_getElem? (i := 1) rfl)))) dX10_isFull_9 ?_
  refine W.lcmp hx hb dX10_isFull_12 ?_
  refine lv_if_ne (tgt := 20) hx hb dX10_isFull_13 (by decide) (fun cc => ?_) (fun cc => ?_)
  · replace hf := hf_pos (mt (lg_cmp_eq _ _).mpr cc) hf
    refine lv_iconst (v := 0) hx hb dX10_isFull_20 (by decide) ?_
    obtain rfl := Option.some.inj hf
    exact hret _ _ _ _ (show narrow .boolean (.int (0 : Int32)) = .int (0 : Int32) by decide) hP hD hS dX10_isFull_21
  · replace hf := hf_neg (not_not_intro ((lg_cmp_eq _ _).mp cc)) hf
    refine lv_iconst (v := 1) hx hb dX10_isFull_16 (by decide) ?_
    refine lv_goto (tgt := 21) hx hb dX10_isFull_17 (by decide) ?_
    obtain rfl := Option.some.inj hf
    exact hret _ _ _ _ (show narrow .boolean (.int (1 : Int32)) = .int (1 : Int32) by decide) hP hD hS dX10_isFull_21
set_option maxHeartbeats 4000000 in
set_option maxRecDepth 100000 in
theorem c_fM_reasonAgainst (l : Launch) (dC : Nat → ClassId) (dI : Nat → Nat → Nat) (cI cZ cJ cQ : ClassId) (a_0 a_0s a_0before a_0slots a_0isKept a_0buffer a_0cells a_0owner a_0code a_0table a_0isOver a_0isRuled a_0all a_0some a_0chosen a_0last a_0corner a_0wide a_0cuts a_0aside : Nat) (known_0 : Int32) (length_0 : Int32) (many_0 : Int32) (round_0 : Int32) (seed_0 : Int64) (hash_0 : Int64) (sz : Nat) {F : Nat} {x1 : Int32} {x2 : Int32} {x3 : Int32} {x4 : Int32} {thrown_0 : Int32} {s_0 : Nat → Int32} {out : Int32 × Int32} (hf : fM_reasonAgainst F x1 x2 x3 x4 thrown_0 s_0 = some out) : Met l yX10_reasonAgainst wsX10_reasonAgainst ({ frames := 3, cells := 0, slots := 0, locals := 69 } : Room) (va_Pc [.ref a_0, .int x1, .int x2, .int x3, .int x4] (wlP (dC, dI) (wlT cI cZ cJ cQ) (wl_fM_reasonAgainst cI cZ cJ cQ a_0 a_0s a_0before a_0slots a_0isKept a_0buffer a_0cells a_0owner a_0code a_0table a_0isOver a_0isRuled a_0all a_0some a_0chosen a_0last a_0corner a_0wide a_0cuts a_0aside known_0 length_0 thrown_0 many_0 round_0 seed_0 hash_0 s_0) sz)) (va_Qi (fun (v : Int32) (_ : Unit) => v = out.1) (wlQ (dC, dI) (va_A (wl_fM_reasonAgainst cI cZ cJ cQ a_0 a_0s a_0before a_0slots a_0isKept a_0buffer a_0cells a_0owner a_0code a_0table a_0isOver a_0isRuled a_0all a_0some a_0chosen a_0last a_0corner a_0wide a_0cuts a_0aside known_0 length_0 thrown_0 many_0 round_0 seed_0 hash_0 s_0) sz) (wl_fM_reasonAgainst cI cZ cJ cQ a_0 a_0s a_0before a_0slots a_0isKept a_0buffer a_0cells a_0owner a_0code a_0table a_0isOver a_0isRuled a_0all a_0some a_0chosen a_0last a_0corner a_0wide a_0cuts a_0aside known_0 length_0 out.2 many_0 round_0 seed_0 hash_0 s_0)) (va_A (wl_fM_reasonAgainst cI cZ cJ cQ a_0 a_0s a_0before a_0slots a_0isKept a_0buffer a_0cells a_0owner a_0code a_0table a_0isOver a_0isRuled a_0all a_0some a_0chosen a_0last a_0corner a_0wide a_0cuts a_0aside known_0 length_0 thrown_0 many_0 round_0 seed_0 hash_0 s_0) sz)) 0 0 (va_A (wl_fM_reasonAgainst cI cZ cJ cQ a_0 a_0s a_0before a_0slots a_0isKept a_0buffer a_0cells a_0owner a_0code a_0table a_0isOver a_0isRuled a_0all a_0some a_0chosen a_0last a_0corner a_0wide a_0cuts a_0aside known_0 length_0 thrown_0 many_0 round_0 seed_0 hash_0 s_0) sz) := by
  refine wh_ofWi (lv := [(0, .ref a_0), (1, .int x1), (2, .int x2), (3, .int x3), (4, .int x4)]) RX10 (by decide) rfl rfl (Nat.le_of_ble_eq_true rfl) rfl ?_
  intro p e s m below meth c A QQ hx hb hml hown hts hP hK hN hD hA hret ls hl
  have hS : va_S A s.heap s.heap [] := va_S.rf
  have hiX10 : ∀ w ∈ wsX100, w ∈ wsX10_reasonAgainst := (fun _ h => List.mem_cons_of_mem _ (List.mem_append_right _ (h)))
  unfold fM_reasonAgainst at hf
  refine lv_aload_n hx hb dX10_reasonAgainst_0 rfl (lv_at hl 0 rfl) ?_
  refine lv_iconst (v := 0) hx hb dX10_reasonAgainst_1 (by decide) ?_
  refine wh_put (D := (dC, dI)) (ci := 10) (C := RX10) (T := TX10) (N := 26) (ty := .int) (v := .int (0 : Int32)) (ws' := (wl_fM_reasonAgainst cI cZ cJ cQ a_0 a_0s a_0before a_0slots a_0isKept a_0buffer a_0cells a_0owner a_0code a_0table a_0isOver a_0isRuled a_0all a_0some a_0chosen a_0last a_0corner a_0wide a_0cuts a_0aside known_0 length_0 (0 : Int32) many_0 round_0 seed_0 hash_0 s_0)) hx hb hts hiX10 tyX10 tyX10_ok nmX10 hown hK hP hD hS 0 rfl rfl 7 (by decide) (hts (.fieldLink RX10 69 "PaddockFieldsModel" "thrown" "I") (List.mem_cons_of_mem _ (List.mem_append_left _ (List.mem_append_left _ (List.mem_of_getElem? (i := 0) rfl))))) (fun _ h9 => h9) rfl rfl rfl rfl (Nat.le_of_ble_eq_true rfl) rfl dX10_reasonAgainst_2 (fun H locs hP hD hS => ?_)
  refine lv_iload_n hx hb dX10_reasonAgainst_5 rfl (lv_at hl 1 rfl) ?_
  refine lv_iload_n hx hb dX10_reasonAgainst_6 rfl (lv_at hl 2 rfl) ?_
  refine lv_iload_n hx hb dX10_reasonAgainst_7 rfl (lv_at hl 3 rfl) ?_
  refine lv_iload hx hb dX10_reasonAgainst_8 (lv_at hl 4 rfl) ?_
  obtain ⟨s1, h_s1, hf⟩ := hf_bind hf
  refine wh_calli (D := (dC, dI)) (ws' := (wl_fM_reasonAgainst cI cZ cJ cQ a_0 a_0s a_0before a_0slots a_0isKept a_0buffer a_0cells a_0owner a_0code a_0table a_0isOver a_0isRuled a_0all a_0some a_0chosen a_0last a_0corner a_0wide a_0cuts a_0aside known_0 length_0 (0 : Int32) many_0 round_0 seed_0 hash_0 s_0)) (va_runS (As := [.int x1, .int x2, .int x3, .int x4]) (rest := []) ⟨hx, hb, hml, hown, hts⟩ (c_fM_isRectangle l dC dI cI cZ cJ cQ _ h_s1) (va_cwS 4 hts gX10_reasonAgainst_X10_isRectangle rfl rfl rfl (by decide +kernel) ⟨Nat.le_of_ble_eq_true rfl, Nat.le_of_ble_eq_true rfl⟩) (wh_preS hK hN hP hD [] rfl rfl) rfl rfl hl.1 rfl (lv_room (Nat.le_of_ble_eq_true rfl)) dX10_reasonAgainst_10 ⟨Nat.le_refl _, Nat.le_refl _⟩) hP hD hS hA [] [0, 1] [0, 1] rfl rfl rfl rfl (fun H locs hP hD hS => ?_)
  refine lv_if_eq (tgt := 31) hx hb dX10_reasonAgainst_13 (by decide) (fun cc => ?_) (fun cc => ?_)
  · replace hf := hf_pos cc hf
    refine lv_aload_n hx hb dX10_reasonAgainst_31 rfl (lv_at hl 0 rfl) ?_
    refine lv_iconst (v := 1) hx hb dX10_reasonAgainst_32 (by decide) ?_
    obtain ⟨s2, h_s2, hf⟩ := hf_bind hf
    refine wh_calli (D := (dC, dI)) (ws' := (wl_fM_reasonAgainst cI cZ cJ cQ a_0 a_0s a_0before a_0slots a_0isKept a_0buffer a_0cells a_0owner a_0code a_0table a_0isOver a_0isRuled a_0all a_0some a_0chosen a_0last a_0corner a_0wide a_0cuts a_0aside known_0 length_0 s2.2 many_0 round_0 seed_0 hash_0 s_0)) (va_runV (As := [.int (1 : Int32)]) (rest := []) ⟨hx, hb, hml, hown, hts⟩ (c_fM_throwing l dC dI cI cZ cJ cQ a_0 a_0s a_0before a_0slots a_0isKept a_0buffer a_0cells a_0owner a_0code a_0table a_0isOver a_0isRuled a_0all a_0some a_0chosen a_0last a_0corner a_0wide a_0cuts a_0aside known_0 length_0 many_0 round_0 seed_0 hash_0 _ h_s2) (cwV 1 hts gX10_reasonAgainst_X10_throwing rfl rfl rfl (by decide +kernel) ⟨Nat.le_of_ble_eq_true rfl, Nat.le_of_ble_eq_true rfl⟩) (wh_preV (C := RX10) (T := TX10) (N := 26) hK hN hP hD [0] rfl rfl 10 0 rfl rfl) rfl rfl hl.1 rfl (lv_room (Nat.le_of_ble_eq_true rfl)) dX10_reasonAgainst_33 ⟨Nat.le_refl _, Nat.le_refl _⟩) hP hD hS hA [0] [1] [1, 0] rfl rfl rfl rfl (fun H locs hP hD hS => ?_)
    obtain rfl := Option.some.inj hf
    exact hret _ _ _ _ hP hD hS dX10_reasonAgainst_36
  · replace hf := hf_neg cc hf
    refine lv_aload_n hx hb dX10_reasonAgainst_16 rfl (lv_at hl 0 rfl) ?_
    refine lv_iload_n hx hb dX10_reasonAgainst_17 rfl (lv_at hl 1 rfl) ?_
    refine lv_iload_n hx hb dX10_reasonAgainst_18 rfl (lv_at hl 2 rfl) ?_
    refine lv_iload_n hx hb dX10_reasonAgainst_19 rfl (lv_at hl 3 rfl) ?_
    refine lv_iload hx hb dX10_reasonAgainst_20 (lv_at hl 4 rfl) ?_
    obtain ⟨s3, h_s3, hf⟩ := hf_bind hf
    refine wh_calll (D := (dC, dI)) (ws' := (wl_fM_reasonAgainst cI cZ cJ cQ a_0 a_0s a_0before a_0slots a_0isKept a_0buffer a_0cells a_0owner a_0code a_0table a_0isOver a_0isRuled a_0all a_0some a_0chosen a_0last a_0corner a_0wide a_0cuts a_0aside known_0 length_0 (0 : Int32) many_0 round_0 seed_0 hash_0 s_0)) (va_runS (As := [.int x1, .int x2, .int x3, .int x4]) (rest := [.ref a_0]) ⟨hx, hb, hml, hown, hts⟩ (c_fM_rectangle l dC dI cI cZ cJ cQ _ h_s3) (va_cwS 4 hts gX10_reasonAgainst_X10_rectangle rfl rfl rfl (by decide +kernel) ⟨Nat.le_of_ble_eq_true rfl, Nat.le_of_ble_eq_true rfl⟩) (wh_preS hK hN hP hD [] rfl rfl) rfl rfl hl.1 rfl (lv_room (Nat.le_of_ble_eq_true rfl)) dX10_reasonAgainst_22 ⟨Nat.le_refl _, Nat.le_refl _⟩) hP hD hS hA [] [0, 1] [0, 1] rfl rfl rfl rfl (fun H locs hP hD hS => ?_)
    obtain ⟨s4, h_s4, hf⟩ := hf_bind hf
    refine wh_calli (D := (dC, dI)) (ws' := (wl_fM_reasonAgainst cI cZ cJ cQ a_0 a_0s a_0before a_0slots a_0isKept a_0buffer a_0cells a_0owner a_0code a_0table a_0isOver a_0isRuled a_0all a_0some a_0chosen a_0last a_0corner a_0wide a_0cuts a_0aside known_0 length_0 (0 : Int32) many_0 round_0 seed_0 hash_0 s_0)) (va_runV (As := [.long s3]) (rest := []) ⟨hx, hb, hml, hown, hts⟩ (c_fM_against l dC dI cI cZ cJ cQ a_0 a_0s a_0before a_0slots a_0isKept a_0buffer a_0cells a_0owner a_0code a_0table a_0isOver a_0isRuled a_0all a_0some a_0chosen a_0last a_0corner a_0wide a_0cuts a_0aside known_0 length_0 (0 : Int32) many_0 round_0 seed_0 hash_0 _ h_s4) (cwV 1 hts gX10_reasonAgainst_X10_against rfl rfl rfl (by decide +kernel) ⟨Nat.le_of_ble_eq_true rfl, Nat.le_of_ble_eq_true rfl⟩) (wh_preV (C := RX10) (T := TX10) (N := 26) hK hN hP hD [0, 1] rfl rfl 10 0 rfl rfl) rfl rfl hl.1 rfl (lv_room (Nat.le_of_ble_eq_true rfl)) dX10_reasonAgainst_25 ⟨Nat.le_refl _, Nat.le_refl _⟩) hP hD hS hA [0, 1] [] [0, 1] rfl rfl rfl rfl (fun H locs hP hD hS => ?_)
    refine lv_goto (tgt := 36) hx hb dX10_reasonAgainst_28 (by decide) ?_
    obtain rfl := Option.some.inj hf
    exact hret _ _ _ _ hP hD hS dX10_reasonAgainst_36
