/-! THE MATHEMATICS: the calls that ask for a field, case by case. Own text. -/
section CA
variable {F L i : Nat} {xs nu inF fi la s : Nat → Int32} {arr : Nat → Int64} {th : Int32}
theorem there1 (h : BR nu inF fi la s 0) (x y th : Int32) :
    (fX_checkedFieldCell x y inF = some (1, 0) ∧ fM_isThere x y (1 : Int32) s th = some (0, 1)) ∨
    (fX_checkedFieldCell x y inF = some (3, 0) ∧ fM_isThere x y (1 : Int32) s th = some (0, 2)) ∨
    ∃ r q, r < 6 ∧ q < 7 ∧ x = nI r ∧ y = nI q ∧ inF (7 * r + q) = 1 ∧
      fX_checkedFieldCell x y inF = some (0, nI (7 * r + q)) ∧ fM_isThere x y (1 : Int32) s th = some (1, 0) := by
  unfold fX_checkedFieldCell fM_isThere
  rcases cell_cases x y with ⟨e1, e2⟩ | ⟨r, q, hr, hq, ex, ey, e1, e2⟩
  · refine Or.inl ?_
    rw [e1, e2]
    exact ⟨rfl, rfl⟩
  · have hk : 7 * r + q < 42 := by omega
    have hs0 := h.s0 hk
    rw [e1, e2, ex, ey]
    simp only [Option.bind_some, m42, hasField_s hk (h.inF hk), o_rd_s (show 42 + (7 * r + q) < 84 by omega) (show 84 < 2 ^ 31 by decide), if_true]
    rcases h.inF hk with g | g
    · refine Or.inr (Or.inl ?_)
      have : s (42 + (7 * r + q)) = 0 := by rw [hs0]; exact g
      rw [this, g]
      exact ⟨rfl, rfl⟩
    · refine Or.inr (Or.inr ⟨r, q, hr, hq, rfl, rfl, g, ?_, ?_⟩)
      · rw [g]; rfl
      · have : ¬ s (42 + (7 * r + q)) = 0 := by rw [hs0, g]; decide
        rw [if_pos (by decide), if_neg (by decide), if_pos this]
        rfl
theorem case19 (hF : 42 < F) (h : BR nu inF fi la s 0) (hi : i + 4 < L) (hL : L < 2 ^ 31) : ∃ out, fL_case19 F L (nI i) xs inF fi la arr s th = some out := by
  unfold fL_case19
  rw [show (1 : Int32) = nI 1 from rfl, show (2 : Int32) = nI 2 from rfl, rdk (by omega) hL, rdk (by omega) hL]
  simp only [Option.bind_some]
  unfold fPaddockFieldsLaw_fieldSize fX_fieldSize fM_fieldSize
  rcases there1 h (xs (i + 1)) (xs (i + 2)) th with ⟨e1, e2⟩ | ⟨e1, e2⟩ | ⟨r, q, hr, hq, ex, ey, g, e1, e2⟩
  · rw [e1, e2]
    exact ⟨_, rfl⟩
  · rw [e1, e2]
    exact ⟨_, rfl⟩
  · have hk : 7 * r + q < 42 := by omega
    obtain ⟨z, n, hn, z1, z2, z3⟩ := h.size hF hk g
    rw [e1, e2, ex, ey]
    simp only [Option.bind_some, if_true, m7, z1, z2, z3, wr1]
    rw [if_neg (by decide)]
    simp only [Option.bind_some, fM_thrown, if_true, rd1]
    exact ⟨_, rfl⟩
theorem case20 (h : BR nu inF fi la s 0) (hi : i + 4 < L) (hL : L < 2 ^ 31) : ∃ out, fL_case20 F L (nI i) xs inF fi arr s th = some out := by
  unfold fL_case20
  rw [show (1 : Int32) = nI 1 from rfl, show (2 : Int32) = nI 2 from rfl, rdk (by omega) hL, rdk (by omega) hL]
  simp only [Option.bind_some]
  unfold fPaddockFieldsLaw_cornerOf fX_cornerOf fM_cornerOf
  rcases there1 h (xs (i + 1)) (xs (i + 2)) th with ⟨e1, e2⟩ | ⟨e1, e2⟩ | ⟨r, q, hr, hq, ex, ey, g, e1, e2⟩
  · rw [e1, e2]
    exact ⟨_, rfl⟩
  · rw [e1, e2]
    exact ⟨_, rfl⟩
  · have hk : 7 * r + q < 42 := by omega
    obtain ⟨a, b, hab, hin, e3, e4, e5, -, -⟩ := h.field hk g
    rw [e1, e2, ex, ey]
    have e6 : fBoard_firstOfField (nI (7 * r + q)) fi = some (nI a) := by
      unfold fBoard_firstOfField
      rw [fX_isCell_s hk, Option.bind_some, if_neg (by decide), o_rd_s hk (by decide), e3]
      rfl
    have e7 : nI (a + 1) - (1 : Int32) = nI a := by
      rw [show (1 : Int32) = nI 1 from rfl, nI_sub (by omega)]
      congr 1
    simp only [Option.bind_some, if_true, m42, e6, o_rd_s (show 42 + (7 * r + q) < 84 by omega) (show 84 < 2 ^ 31 by decide), wr1]
    rw [if_neg (by decide)]
    simp only [Option.bind_some, fM_thrown, if_true, rd1, e5, e7]
    exact ⟨_, rfl⟩
theorem case7 {n : Nat} {codes buf : Nat → Int32} (hn : n ≤ 60) (h : ∀ k, k < n → codes k = buf k) (hi : i + 4 < L) (hL : L < 2 ^ 31) :
    ∃ arr' th' m codes' buf', m ≤ 60 ∧ (∀ k, k < m → codes' k = buf' k) ∧ fL_case7 F L (nI i) xs arr th (nI n) codes (nI n) buf = some (nI m, codes', arr', th', nI m, buf') := by
  unfold fL_case7
  rw [show (1 : Int32) = nI 1 from rfl, rdk (by omega) hL]
  simp only [Option.bind_some]
  unfold fPaddockFieldsLaw_append fX_append fM_append fM_in
  by_cases q1 : xs (i + 1) < (33 : Int32)
  · rw [if_pos q1, if_pos q1]
    exact ⟨_, _, n, _, _, hn, h, rfl⟩
  · rw [if_neg q1, if_neg q1]
    by_cases q2 : xs (i + 1) ≤ (126 : Int32)
    · have q3 : ¬ (126 : Int32) < xs (i + 1) := by
        intro c
        rw [Int32.lt_iff_toInt_lt] at c
        rw [Int32.le_iff_toInt_le] at q2
        omega
      rw [if_pos q2, if_neg q3]
      by_cases q4 : n = 60
      · subst q4
        exact ⟨_, _, 60, _, _, hn, h, rfl⟩
      · have z1 : nI n < (60 : Int32) := by
          show nI n < nI 60
          rw [nI_lt42 (by omega) (by decide)]
          omega
        have z2 : ¬ nI n < (0 : Int32) := by
          show ¬ nI n < nI 0
          rw [nI_lt42 (by omega) (by decide)]
          omega
        have z3 : ¬ (60 : Int32) ≤ nI n := by
          show ¬ nI 60 ≤ nI n
          intro c
          rw [Int32.le_iff_toInt_le] at c
          have e1 := nI_toInt (n := n) (by omega)
          have e2 := nI_toInt (n := 60) (by decide)
          omega
        have z4 : ¬ nI n = (60 : Int32) := fun c => q4 (nI_inj (by omega) (by decide) c)
        have z5 : nI n + (1 : Int32) = nI (n + 1) := nI_add n 1
        unfold fInputText_length fInputText_add
        simp only [Option.bind_some]
        rw [if_pos z1, if_neg z2, if_neg z3, o_wrI_s (by omega) (by decide)]
        simp only [Option.bind_some, if_true]
        rw [if_pos (show ¬ (1 : Int32) = 0 by decide), if_pos z4, o_wrI_s (by omega) (by decide)]
        simp only [Option.bind_some, wr1, fM_thrown, if_true, z5]
        rw [if_neg (by decide)]
        simp only [rd1, Option.bind_some, if_true]
        refine ⟨_, _, n + 1, _, _, by omega, ?_, rfl⟩
        intro k hk
        unfold upd
        by_cases q : k = n
        · rw [if_pos q, if_pos q]
        · rw [if_neg q, if_neg q]
          exact h k (by omega)
    · have q3 : (126 : Int32) < xs (i + 1) := by
        rw [Int32.lt_iff_toInt_lt]
        rw [Int32.le_iff_toInt_le] at q2
        omega
      rw [if_neg q2, if_pos q3]
      exact ⟨_, _, n, _, _, hn, h, rfl⟩
end CA
