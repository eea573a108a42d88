/-! THE MATHEMATICS: the plain calls, case by case. Own text. -/
section CS
variable {F L i : Nat} {xs nu inF fi la s : Nat → Int32} {arr : Nat → Int64} {th : Int32}
theorem case14 {c : Nat} : ∃ out, fL_case14 F L (nI i) xs (nI c) th (nI c) = some out := by
  unfold fL_case14 fX_savedStates fHistory_countSaved fM_savedStates
  exact ⟨0, by simp⟩
theorem case15 (h : BR nu inF fi la s 0) (hi : i + 4 < L) (hL : L < 2 ^ 31) : ∃ out, fL_case15 F L (nI i) xs nu arr s th = some out := by
  unfold fL_case15
  rw [show (1 : Int32) = nI 1 from rfl, show (2 : Int32) = nI 2 from rfl, rdk (by omega) hL, rdk (by omega) hL]
  simp only [Option.bind_some]
  unfold fPaddockFieldsLaw_numberAt fX_numberAt fM_numberAt fM_isThere fM_thrown
  rcases cell_cases (xs (i + 1)) (xs (i + 2)) with ⟨e1, e2⟩ | ⟨r, q, hr, hq, ex, ey, e1, e2⟩
  · rw [e1, e2]
    simp
  · have hk : 7 * r + q < 42 := by omega
    have hs := (h _ hk).2.1
    rw [Nat.zero_add] at hs
    rw [e1, e2, ex, ey]
    simp only [Option.bind_some, m7, numberIn_s hk, o_rd_s (show 7 * r + q < 84 by omega) (show 84 < 2 ^ 31 by decide), if_true, wr1, hs]
    simp [rd1]
theorem case16 (hF : 42 < F) (h : BR nu inF fi la s 0) : ∃ out, fL_case16 F L (nI i) xs nu s th = some out := by
  obtain ⟨x, e1, e2, hx, -⟩ := h.numbered hF
  unfold fL_case16 fX_numbers fM_numbers
  rw [e1, e2]
  simp only [Option.bind_some, bits_bc hF hx, if_true]
  exact ⟨_, rfl⟩
theorem case17 (hF : 42 < F) (h : BR nu inF fi la s 0) : ∃ out, fL_case17 F L (nI i) xs nu s th = some out := by
  obtain ⟨e1, e2⟩ := h.total hF
  unfold ALL at e1
  unfold fL_case17 fX_sum fM_sum
  rw [e1, e2]
  simp only [Option.bind_some, if_true]
  exact ⟨_, rfl⟩
theorem case18 (h : BR nu inF fi la s 0) (hi : i + 4 < L) (hL : L < 2 ^ 31) : ∃ out, fL_case18 F L (nI i) xs inF arr s th = some out := by
  unfold fL_case18
  rw [show (1 : Int32) = nI 1 from rfl, show (2 : Int32) = nI 2 from rfl, rdk (by omega) hL, rdk (by omega) hL]
  simp only [Option.bind_some]
  unfold fPaddockFieldsLaw_isInField fX_isInField fM_isInField fM_isThere fM_thrown
  rcases cell_cases (xs (i + 1)) (xs (i + 2)) with ⟨e1, e2⟩ | ⟨r, q, hr, hq, ex, ey, e1, e2⟩
  · rw [e1, e2]
    simp
  · have hk : 7 * r + q < 42 := by omega
    have hf := h.fld hk
    rw [Nat.zero_add] at hf
    rw [e1, e2, ex, ey]
    simp only [Option.bind_some, m42, hasField_s hk (h.inF hk), o_rd_s (show 42 + (7 * r + q) < 84 by omega) (show 84 < 2 ^ 31 by decide), if_true]
    rcases h.inF hk with g | g
    · rw [g] at hf ⊢
      have h2 : s (42 + (7 * r + q)) ≤ 0 := by
        apply Classical.byContradiction
        intro c
        have := hf.symm ▸ c
        exact this rfl
      simp [o_z, h2, wr1, rd1]
    · rw [g] at hf ⊢
      have h2 : ¬ s (42 + (7 * r + q)) ≤ 0 := by
        rw [← hf]
        decide
      simp [o_z, h2, wr1, rd1]
theorem case21 (hF : 42 < F) (h : BR nu inF fi la s 0) : ∃ out, fL_case21 F L (nI i) xs inF fi s th = some out := by
  obtain ⟨n, -, e1, e2⟩ := h.count hF
  unfold fL_case21 fX_fields fM_fields
  rw [e1, e2]
  simp only [Option.bind_some, if_true]
  exact ⟨_, rfl⟩
theorem case22 (hF : 42 < F) (h : BR nu inF fi la s 0) : ∃ out, fL_case22 F L (nI i) xs inF s th = some out := by
  obtain ⟨x, e1, e2, hx, -⟩ := h.taken hF
  unfold fL_case22 fX_openCells fX_countOpenCells fM_openCells
  rw [e1, e2]
  simp only [Option.bind_some, bits_bc hF hx, if_true]
  exact ⟨_, rfl⟩
theorem case23 (hF : 42 < F) (h : BR nu inF fi la s 0) : ∃ out, fL_case23 F L (nI i) xs inF s th = some out := by
  obtain ⟨x, e1, e2, hx, -⟩ := h.taken hF
  unfold fL_case23 fX_isFull fM_isFull
  rw [e1, e2]
  simp only [Option.bind_some]
  by_cases q : x = (4398046511103 : Int64)
  · simp [q]
  · simp [q]
theorem case8 {n : Nat} : ∃ out, fL_case8 F L (nI i) xs th (nI n) (nI n) = some out ∧ out.1 = 0 ∧ out.2.2 = 0 := by
  unfold fL_case8 fX_clearBuffer fInputText_length fInputText_clear fM_clearBuffer
  simp
end CS
theorem case9 {F L i n : Nat} {xs codes buf : Nat → Int32} {th : Int32} (hF : 42 < F) (hn : n ≤ 60) (h : ∀ k, k < n → codes k = buf k) : ∃ out, fL_case9 F L (nI i) xs th (nI n) codes (nI n) buf = some out := by
  obtain ⟨j, -, e1, e2, -⟩ := err_s hF hn h
  unfold fL_case9 fX_firstError fM_firstError
  rw [e1, e2]
  simp only [Option.bind_some, if_true]
  exact ⟨_, rfl⟩
