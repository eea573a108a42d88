/-! THE MATHEMATICS: the rounds, case by case. Own text. -/
section CQ
variable {F L i : Nat} {xs nu inF fi la s : Nat → Int32} {arr : Nat → Int64} {th : Int32} {ef el : Nat → Int32} {ec : Nat → Int64}
variable (countX : Int32) (firstX lastX : Nat → Int32) (cellsX : Nat → Int64) (ownerX : Nat → Int32) (openS numbersS : Int64) (leftS : Nat → Int32) (roundsDoneS : Int32) (inSomeS inAllS : Nat → Int64) (manyM : Int32) (tableM : Nat → Int32) (cellsM : Nat → Int64) (ownerM codeM isOverM : Nat → Int32) (roundM : Int32) (allM someM : Nat → Int64) (isRuledM : Nat → Int32)
theorem bI_cases (b : Bool) : bI b = (0 : Int32) ∨ bI b = (1 : Int32) := by cases b <;> decide
theorem case30 (hF : 1200 < F) (hE : EV ef el ec) (h : BR nu inF fi la s 0) : ∃ out, fL_case30 F L (nI i) xs inF nu s th countX ec ef firstX el lastX cellsX ownerX openS numbersS leftS roundsDoneS inSomeS inAllS manyM tableM cellsM ownerM codeM isOverM roundM allM someM isRuledM = some out := by
  obtain ⟨a, m, Lz, Rz, s1, a1, left1, a3, s3, over1, ru1, r1, r2, r3, r4, r5, r6, r7, r8, e1, e2⟩ := run_s hF hE h countX firstX lastX cellsX ownerX openS numbersS leftS roundsDoneS inSomeS inAllS manyM tableM cellsM ownerM codeM isOverM roundM allM someM isRuledM
  unfold fL_case30 fX_rounds fM_rounds fSteps_countRounds
  rw [e1, e2]
  simp only [Option.bind_some, if_true]
  exact ⟨_, rfl⟩
theorem case31 (hF : 1200 < F) (hE : EV ef el ec) (h : BR nu inF fi la s 0) : ∃ out, fL_case31 F L (nI i) xs inF nu s th countX ec ef firstX el lastX cellsX ownerX openS numbersS leftS roundsDoneS inSomeS inAllS manyM tableM cellsM ownerM codeM isOverM roundM allM someM isRuledM = some out := by
  obtain ⟨a, m, Lz, Rz, s1, a1, left1, a3, s3, over1, ru1, r1, r2, r3, r4, r5, r6, r7, r8, e1, e2⟩ := run_s hF hE h countX firstX lastX cellsX ownerX openS numbersS leftS roundsDoneS inSomeS inAllS manyM tableM cellsM ownerM codeM isOverM roundM allM someM isRuledM
  unfold fL_case31 fX_leftInTheEnd fM_leftInTheEnd
  rw [e1, e2]
  simp only [Option.bind_some]
  rw [X_countLeft (F := F) (by omega) r6, M_leftAll (F := F) (by omega) r2 r8]
  simp only [Option.bind_some, if_true]
  exact ⟨_, rfl⟩
theorem case33 (hF : 1200 < F) (hE : EV ef el ec) (h : BR nu inF fi la s 0) : ∃ out, fL_case33 F L (nI i) xs inF nu s th countX ec ef firstX el lastX cellsX ownerX openS numbersS leftS roundsDoneS inSomeS inAllS manyM tableM cellsM ownerM codeM isOverM roundM allM someM isRuledM = some out := by
  obtain ⟨a, m, Lz, Rz, s1, a1, left1, a3, s3, over1, ru1, r1, r2, r3, r4, r5, r6, r7, r8, e1, e2⟩ := run_s hF hE h countX firstX lastX cellsX ownerX openS numbersS leftS roundsDoneS inSomeS inAllS manyM tableM cellsM ownerM codeM isOverM roundM allM someM isRuledM
  unfold fL_case33 fX_isContradiction fM_isContradiction
  rw [e1, e2]
  simp only [Option.bind_some]
  rw [X_con (F := F) (by omega) r5, M_con (F := F) (by omega) h r7]
  rcases bI_cases (con nu inF Lz) with q | q
  · rw [q]
    exact ⟨_, rfl⟩
  · rw [q]
    exact ⟨_, rfl⟩
theorem case32 (hF : 1200 < F) (hE : EV ef el ec) (h : BR nu inF fi la s 0) (hi : i + 4 < L) (hL : L < 2 ^ 31) : ∃ out, fL_case32 F L (nI i) xs inF nu arr s th countX ec ef firstX el lastX cellsX ownerX openS numbersS leftS roundsDoneS inSomeS inAllS manyM tableM cellsM ownerM codeM isOverM roundM allM someM isRuledM = some out := by
  unfold fL_case32
  rw [show (1 : Int32) = nI 1 from rfl, show (2 : Int32) = nI 2 from rfl, rdk (by omega) hL, rdk (by omega) hL]
  simp only [Option.bind_some]
  unfold fPaddockFieldsLaw_leftFor fX_leftFor fM_leftFor
  rcases there0 s (xs (i + 1)) (xs (i + 2)) th with ⟨e1, e2⟩ | ⟨r, q, hr, hq, ex, ey, e1, e2⟩
  · rw [e1, e2]
    exact ⟨_, rfl⟩
  · have hk : 7 * r + q < 42 := by omega
    obtain ⟨a, m, Lz, Rz, s1, a1, left1, a3, s3, over1, ru1, r1, r2, r3, r4, r5, r6, r7, r8, z1, z2⟩ := run_s hF hE h countX firstX lastX cellsX ownerX openS numbersS leftS roundsDoneS inSomeS inAllS manyM tableM cellsM ownerM codeM isOverM roundM allM someM isRuledM
    rw [e1, e2, ex, ey]
    simp only [Option.bind_some, if_true, m7]
    rw [if_pos (show ¬ (1 : Int32) = 0 by decide), z1, z2]
    simp only [Option.bind_some]
    rw [X_countLeftOf (F := F) (by omega) r1 r6 hk, M_leftIn (F := F) (by omega) r2 r8 hk]
    simp only [Option.bind_some, if_true, wr1, fM_thrown]
    rw [if_neg (by decide)]
    simp only [rd1, Option.bind_some, if_true]
    exact ⟨_, rfl⟩
theorem case34 (hF : 1200 < F) (hE : EV ef el ec) (h : BR nu inF fi la s 0) : ∃ out, fL_case34 F L (nI i) xs inF nu arr s th countX ec ef firstX el lastX cellsX ownerX openS numbersS leftS roundsDoneS inSomeS inAllS manyM tableM cellsM ownerM codeM isOverM roundM allM someM isRuledM = some out := by
  obtain ⟨a, m, Lz, Rz, s1, a1, left1, a3, s3, over1, ru1, r1, r2, r3, r4, r5, r6, r7, r8, z1, z2⟩ := run_s hF hE h countX firstX lastX cellsX ownerX openS numbersS leftS roundsDoneS inSomeS inAllS manyM tableM cellsM ownerM codeM isOverM roundM allM someM isRuledM
  unfold fL_case34 fPaddockFieldsLaw_certain fX_certain fM_certain fX_runWithoutContradiction
  rw [z1, z2]
  simp only [Option.bind_some]
  rw [X_con (F := F) (by omega) r5, M_con (F := F) (by omega) h r7]
  rcases bI_cases (con nu inF Lz) with q | q
  · rw [q]
    simp only [Option.bind_some, if_true]
    rw [X_countCertain (F := F) (by omega) r1 r6, M_sure (F := F) (by omega) h r2 r8]
    simp only [Option.bind_some, if_true, wr1, fM_thrown]
    rw [if_neg (by decide)]
    simp only [rd1, Option.bind_some, if_true]
    exact ⟨_, rfl⟩
  · rw [q]
    exact ⟨_, rfl⟩
theorem case35 (hF : 1200 < F) (hE : EV ef el ec) (h : BR nu inF fi la s 0) : ∃ out, fL_case35 F L (nI i) xs inF nu arr s th countX ec ef firstX el lastX cellsX ownerX openS numbersS leftS roundsDoneS inSomeS inAllS manyM tableM cellsM ownerM codeM isOverM roundM allM someM isRuledM = some out := by
  obtain ⟨a, m, Lz, Rz, s1, a1, left1, a3, s3, over1, ru1, r1, r2, r3, r4, r5, r6, r7, r8, z1, z2⟩ := run_s hF hE h countX firstX lastX cellsX ownerX openS numbersS leftS roundsDoneS inSomeS inAllS manyM tableM cellsM ownerM codeM isOverM roundM allM someM isRuledM
  unfold fL_case35 fPaddockFieldsLaw_hint fX_hint fM_hint fX_runWithoutContradiction
  rw [z1, z2]
  simp only [Option.bind_some]
  rw [X_con (F := F) (by omega) r5, M_con (F := F) (by omega) h r7]
  rcases bI_cases (con nu inF Lz) with q | q
  · rw [q]
    simp only [Option.bind_some, if_true]
    rw [X_firstCertain (F := F) (by omega) r1 r6, M_firstSure (F := F) (by omega) h r2 r8]
    have hle : fa_first (one nu inF Lz) 42 ≤ 42 := fa_first_le _ _
    generalize fa_first (one nu inF Lz) 42 = c at hle
    by_cases hc : c < 42
    · have c1 : ¬ nI c = (42 : Int32) := fun e => by
        have := nI_inj (by omega) (b := 42) (by decide) e
        omega
      have c2 : ¬ nI c = (-1 : Int32) := fun e => by
        have e1 := congrArg Int32.toInt e
        rw [nI_toInt (by omega)] at e1
        have e2 : (-1 : Int32).toInt = -1 := by decide
        omega
      rw [if_pos hc]
      simp only [Option.bind_some]
      rw [if_pos c1, if_pos c2, if_neg (not_not_intro trivial)]
      simp only [Option.bind_some, if_true, wr1, fM_thrown]
      rw [if_neg (by decide)]
      simp only [rd1, Option.bind_some, if_true]
      exact ⟨_, rfl⟩
    · obtain rfl : c = 42 := by omega
      exact ⟨_, rfl⟩
  · rw [q]
    exact ⟨_, rfl⟩
end CQ
