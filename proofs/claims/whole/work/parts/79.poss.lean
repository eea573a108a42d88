/-! THE MATHEMATICS: the possible rectangles, case by case. Own text. -/
section CP
variable {F L i : Nat} {xs nu inF fi la s : Nat → Int32} {arr : Nat → Int64} {th : Int32} {ef el : Nat → Int32} {ec : Nat → Int64}
theorem there0 (s : Nat → Int32) (x y th : Int32) : (fX_checkedCell x y = some (1, 0) ∧ fM_isThere x y (0 : Int32) s th = some (0, 1)) ∨
    ∃ r q, r < 6 ∧ q < 7 ∧ x = nI r ∧ y = nI q ∧ fX_checkedCell x y = some (0, nI (7 * r + q)) ∧ fM_isThere x y (0 : Int32) s th = some (1, 0) := by
  unfold fM_isThere
  rcases cell_cases x y with ⟨e1, e2⟩ | ⟨r, q, hr, hq, ex, ey, e1, e2⟩
  · rw [e2]
    exact Or.inl ⟨e1, rfl⟩
  · rw [e2]
    exact Or.inr ⟨r, q, hr, hq, ex, ey, e1, rfl⟩
variable (countX : Int32) (firstX lastX : Nat → Int32) (cellsX : Nat → Int64) (ownerX : Nat → Int32) (manyM : Int32) (tableM : Nat → Int32) (cellsM : Nat → Int64) (ownerM codeM : Nat → Int32)
theorem case25 (hF : 1200 < F) (hE : EV ef el ec) (h : BR nu inF fi la s 0) (hi : i + 4 < L) (hL : L < 2 ^ 31) : ∃ out, fL_case25 F L (nI i) xs inF nu arr s th countX ec ef firstX el lastX cellsX ownerX manyM tableM cellsM ownerM codeM = some out := by
  unfold fL_case25
  rw [show (1 : Int32) = nI 1 from rfl, show (2 : Int32) = nI 2 from rfl, rdk (by omega) hL, rdk (by omega) hL]
  simp only [Option.bind_some]
  unfold fPaddockFieldsLaw_possibleFor fX_possibleFor fM_possibleFor
  rcases there0 s (xs (i + 1)) (xs (i + 2)) th with ⟨e1, e2⟩ | ⟨r, q, hr, hq, ex, ey, e1, e2⟩
  · rw [e1, e2]
    exact ⟨_, rfl⟩
  · have hk : 7 * r + q < 42 := by omega
    obtain ⟨a, a1, a2⟩ := find_s (F := F) (by omega) hE nu inF countX firstX lastX cellsX ownerX
    obtain ⟨m, m1, m2⟩ := finds_s hF h manyM tableM cellsM ownerM codeM
    rw [e1, e2, ex, ey]
    simp only [Option.bind_some, if_true, m7]
    rw [if_pos (show ¬ (1 : Int32) = 0 by decide), a2, m2]
    simp only [Option.bind_some]
    rw [X_countOf (F := F) (by omega) a1 hk, M_countOf (F := F) (by omega) m1 hk]
    simp only [Option.bind_some, if_true, wr1, fM_thrown]
    rw [if_neg (by decide)]
    simp only [rd1, Option.bind_some, if_true]
    exact ⟨_, rfl⟩
theorem case27 (hF : 1200 < F) (hE : EV ef el ec) (h : BR nu inF fi la s 0) (hi : i + 4 < L) (hL : L < 2 ^ 31) : ∃ out, fL_case27 F L (nI i) xs inF nu arr s th countX ec ef firstX el lastX cellsX ownerX manyM tableM cellsM ownerM codeM = some out := by
  unfold fL_case27
  rw [show (1 : Int32) = nI 1 from rfl, show (2 : Int32) = nI 2 from rfl, rdk (by omega) hL, rdk (by omega) hL]
  simp only [Option.bind_some]
  unfold fPaddockFieldsLaw_coveredBy fX_coveredBy fM_coveredBy
  rcases there0 s (xs (i + 1)) (xs (i + 2)) th with ⟨e1, e2⟩ | ⟨r, q, hr, hq, ex, ey, e1, e2⟩
  · rw [e1, e2]
    exact ⟨_, rfl⟩
  · have hk : 7 * r + q < 42 := by omega
    obtain ⟨a, a1, a2⟩ := find_s (F := F) (by omega) hE nu inF countX firstX lastX cellsX ownerX
    obtain ⟨m, m1, m2⟩ := finds_s hF h manyM tableM cellsM ownerM codeM
    rw [e1, e2, ex, ey]
    simp only [Option.bind_some, if_true, m7]
    rw [if_pos (show ¬ (1 : Int32) = 0 by decide), a2, m2]
    simp only [Option.bind_some]
    rw [X_countOver (F := F) (by omega) a1 hk, M_covering (F := F) (by omega) m1 hk]
    simp only [Option.bind_some, if_true, wr1, fM_thrown]
    rw [if_neg (by decide)]
    simp only [rd1, Option.bind_some, if_true]
    exact ⟨_, rfl⟩
theorem case28 (hF : 1200 < F) (hE : EV ef el ec) (h : BR nu inF fi la s 0) (hi : i + 4 < L) (hL : L < 2 ^ 31) : ∃ out, fL_case28 F L (nI i) xs inF nu arr s th countX ec ef firstX el lastX cellsX ownerX manyM tableM cellsM ownerM codeM = some out := by
  unfold fL_case28
  rw [show (1 : Int32) = nI 1 from rfl, show (2 : Int32) = nI 2 from rfl, rdk (by omega) hL, rdk (by omega) hL]
  simp only [Option.bind_some]
  unfold fPaddockFieldsLaw_claimedBy fX_claimedBy fM_claimedBy
  rcases there0 s (xs (i + 1)) (xs (i + 2)) th with ⟨e1, e2⟩ | ⟨r, q, hr, hq, ex, ey, e1, e2⟩
  · rw [e1, e2]
    exact ⟨_, rfl⟩
  · have hk : 7 * r + q < 42 := by omega
    obtain ⟨a, a1, a2⟩ := find_s (F := F) (by omega) hE nu inF countX firstX lastX cellsX ownerX
    obtain ⟨m, m1, m2⟩ := finds_s hF h manyM tableM cellsM ownerM codeM
    rw [e1, e2, ex, ey]
    simp only [Option.bind_some, if_true, m7]
    rw [if_pos (show ¬ (1 : Int32) = 0 by decide), a2, m2]
    simp only [Option.bind_some]
    rw [X_countOwnersOver (F := F) (by omega) a1 hk, M_claiming (F := F) (by omega) m1 hk]
    simp only [Option.bind_some, if_true, wr1, fM_thrown]
    rw [if_neg (by decide)]
    simp only [rd1, Option.bind_some, if_true]
    exact ⟨_, rfl⟩
theorem case29 (hF : 1200 < F) (hE : EV ef el ec) (h : BR nu inF fi la s 0) : ∃ out, fL_case29 F L (nI i) xs inF nu s th countX ec ef firstX el lastX cellsX ownerX manyM tableM cellsM ownerM codeM = some out := by
  obtain ⟨a, a1, a2⟩ := find_s (F := F) (by omega) hE nu inF countX firstX lastX cellsX ownerX
  obtain ⟨m, m1, m2⟩ := finds_s hF h manyM tableM cellsM ownerM codeM
  unfold fL_case29 fX_possible fM_possible fRectangles_size
  rw [a2, m2]
  simp only [Option.bind_some]
  rw [if_pos (by rw [a1.1, m1.1, (ML_perm nu inF).length_eq])]
  exact ⟨_, rfl⟩
theorem case26 (hF : 1200 < F) (hE : EV ef el ec) (h : BR nu inF fi la s 0) (hi : i + 4 < L) (hL : L < 2 ^ 31) : ∃ out, fL_case26 F L (nI i) xs inF nu arr s th countX ec ef firstX el lastX cellsX ownerX manyM tableM cellsM ownerM codeM = some out := by
  unfold fL_case26
  rw [show (1 : Int32) = nI 1 from rfl, show (2 : Int32) = nI 2 from rfl, show (3 : Int32) = nI 3 from rfl, rdk (by omega) hL, rdk (by omega) hL, rdk (by omega) hL]
  simp only [Option.bind_some]
  unfold fPaddockFieldsLaw_possibleAt fX_possibleAt fM_possibleAt
  rcases there0 s (xs (i + 1)) (xs (i + 2)) th with ⟨e1, e2⟩ | ⟨r, q, hr, hq, ex, ey, e1, e2⟩
  · rw [e1, e2]
    exact ⟨_, rfl⟩
  · have hk : 7 * r + q < 42 := by omega
    obtain ⟨a, a1, a2⟩ := find_s (F := F) (by omega) hE nu inF countX firstX lastX cellsX ownerX
    obtain ⟨m, m1, m2⟩ := finds_s hF h manyM tableM cellsM ownerM codeM
    have hlen : (XL nu inF).countP (fun r_1 => decide (own nu r_1 = 7 * r + q)) = (LK nu inF (7 * r + q)).length := List.countP_eq_length_filter
    have hl2 : (LK nu inF (7 * r + q)).length ≤ 588 := Nat.le_trans (List.length_filter_le _ _) (XL_len nu inF)
    rw [e1, e2, ex, ey]
    simp only [Option.bind_some, if_true]
    rw [if_pos (show ¬ (1 : Int32) = 0 by decide), a2, m2]
    simp only [Option.bind_some]
    rw [X_countOf (F := F) (by omega) a1 hk, hlen]
    rcases M_possibleAt (F := F) (by omega) m1 (m7 r q) hk (xs (i + 3)) 0 with ⟨p, rr, x1, x2, x3, x4⟩ | ⟨x1, x2⟩
    · have hp : p < (LK nu inF (7 * r + q)).length := ts_lt x3
      obtain ⟨j, r2, j1, j2, j3⟩ := X_indexOf (F := F) (by omega) a1 hk hp
      obtain rfl : rr = r2 := Option.some.inj (x3.symm.trans j2)
      rw [x4, x1, if_neg (show ¬ nI p < (0 : Int32) from nI_pos x2), Option.bind_some, if_pos ((nI_ltI (by omega) (by omega)).mpr hp), j3, Option.bind_some, a1.1, bothEnds_s (ts_lt j1) (XL_len nu inF), a1.2.1 _ _ j1, a1.2.2.1 _ _ j1]
      have ec : nI rr.1 * 42 + nI rr.2 = cdO rr := by
        unfold cdO
        rw [show (42 : Int32) = nI 42 from rfl, nI_mul, nI_add, Nat.mul_comm]
      rw [ec]
      simp only [Option.bind_some, if_true, wr1, fM_thrown]
      rw [if_neg (by decide)]
      simp only [rd1, Option.bind_some, if_true]
      exact ⟨_, rfl⟩
    · rw [x2]
      by_cases c : xs (i + 3) < (0 : Int32)
      · rw [if_pos c]
        exact ⟨_, rfl⟩
      · have e0 : xs (i + 3) = nI (xs (i + 3)).toInt.toNat := nI_of_toInt (by
          rw [Int32.lt_iff_toInt_lt] at c
          have : (0 : Int32).toInt = 0 := by decide
          omega)
        have e9 : (xs (i + 3)).toInt < 2 ^ 31 := (xs (i + 3)).toInt_lt
        have c2 : ¬ xs (i + 3) < nI (LK nu inF (7 * r + q)).length := by
          have := x1 _ e0 (by omega)
          rw [e0, nI_ltI (by omega) (by omega)]
          omega
        rw [if_neg c, Option.bind_some, if_neg c2]
        exact ⟨_, rfl⟩
end CP
