/-! THE MATHEMATICS: cells out of the script; the buffer. Own text. -/
theorem lt_of_le_succ {x a b : Int32} (h : b ≤ x) (ha : a.toInt + 1 = b.toInt) : a < x := by
  rw [Int32.lt_iff_toInt_lt]
  rw [Int32.le_iff_toInt_le] at h
  omega
theorem le_of_nlt {x a : Int32} (h : ¬ a < x) : x ≤ a := Int32.not_lt.mp h
theorem cell_cases (x y : Int32) : (fX_checkedCell x y = some (1, 0) ∧ fM_isCell x y = some 0) ∨ ∃ r q, r < 6 ∧ q < 7 ∧ x = nI r ∧ y = nI q ∧ fX_checkedCell x y = some (0, nI (7 * r + q)) ∧ fM_isCell x y = some 1 := by
  unfold fX_checkedCell fM_isCell fM_in
  by_cases h1 : x < 0
  · left
    rw [if_pos h1, if_pos h1]
    exact ⟨rfl, rfl⟩
  · rw [if_neg h1, if_neg h1]
    by_cases h2 : (6 : Int32) ≤ x
    · left
      rw [if_pos h2, if_pos (lt_of_le_succ h2 (by decide))]
      exact ⟨rfl, rfl⟩
    · have h2' : ¬ (5 : Int32) < x := fun e => h2 (by
        rw [Int32.lt_iff_toInt_lt] at e
        rw [Int32.le_iff_toInt_le]
        have a : (5 : Int32).toInt = 5 := by decide
        have b : (6 : Int32).toInt = 6 := by decide
        omega)
      rw [if_neg h2, if_neg h2']
      by_cases h3 : y < 0
      · left
        rw [if_pos h3]
        refine ⟨rfl, ?_⟩
        rw [Option.bind_some, if_neg (by decide), if_pos h3]
        rfl
      · rw [if_neg h3]
        by_cases h4 : y < (7 : Int32)
        · right
          have h4' : ¬ (6 : Int32) < y := fun e => by
            rw [Int32.lt_iff_toInt_lt] at e h4
            have a : (6 : Int32).toInt = 6 := by decide
            have b : (7 : Int32).toInt = 7 := by decide
            omega
          obtain ⟨r, hr, rfl⟩ := nI_of2 (M := 5) (n := 5) (by decide) h1 (le_of_nlt h2')
          obtain ⟨q, hq, rfl⟩ := nI_of2 (M := 6) (n := 6) (by decide) h3 (le_of_nlt h4')
          refine ⟨r, q, by omega, by omega, rfl, rfl, ?_, ?_⟩
          · rw [if_pos h4]
            unfold fX_cellAt
            rw [Option.bind_some, show (7 : Int32) = nI 7 from rfl, nI_mul, nI_add, Nat.mul_comm]
          · rw [Option.bind_some, if_neg (by decide), if_neg h3, if_neg h4']
            rfl
        · left
          rw [if_neg h4]
          refine ⟨rfl, ?_⟩
          have h4' : (6 : Int32) < y := by
            rw [Int32.lt_iff_toInt_lt] at h4 ⊢
            have a : (6 : Int32).toInt = 6 := by decide
            have b : (7 : Int32).toInt = 7 := by decide
            omega
          rw [Option.bind_some, if_neg (by decide), if_neg h3, if_pos h4']
          rfl
theorem m7 (r q : Nat) : ((7 : Int32) * nI r) + nI q = nI (7 * r + q) := by rw [show (7 : Int32) = nI 7 from rfl, nI_mul, nI_add]
theorem m42 (r q : Nat) : (((42 : Int32) + ((7 : Int32) * nI r)) + nI q) = nI (42 + (7 * r + q)) := by rw [show (7 : Int32) = nI 7 from rfl, nI_mul, a42, nI_add, Nat.add_assoc]
/-- reading the script -/
theorem rdk {L i k : Nat} {xs : Nat → Int32} (h : i + k < L) (hL : L < 2 ^ 31) : o_rd L xs (nI i + nI k) = some (xs (i + k)) := by
  rw [nI_add]
  exact o_rd_s h hL
theorem wr1 (g : Nat → Int64) (v : Int64) : o_wrJ 1 g (0 : Int32) v = some (vp_updL g 0 v) := o_wrJ_s (i := 0) (n := 1) (by decide) (by decide)
theorem rd1 (g : Nat → Int64) (v : Int64) : o_rd 1 (vp_updL g 0 v) (0 : Int32) = some v := by
  have := o_rd_s (i := 0) (n := 1) (f := vp_updL g 0 v) (by decide) (by decide)
  rw [show (0 : Int32) = nI 0 from rfl, this]
  rfl
def mchk (c : Int32) : Option Int32 := if c = (46 : Int32) then some (1 : Int32) else (fM_in c (49 : Int32) (57 : Int32)).bind fun s2 => if ¬ s2 = (0 : Int32) then some (1 : Int32) else (fM_in c (97 : Int32) (107 : Int32)).bind fun s3 => if s3 = (0 : Int32) then some (0 : Int32) else some (1 : Int32)
theorem nof (c : Int32) : (∃ v, v ≤ 20 ∧ fInputText_numberOf c = some (nI v) ∧ mchk c = some 1) ∨ (fInputText_numberOf c = some (-1) ∧ mchk c = some 0) := by
  have t49 : (49 : Int32).toInt = 49 := by decide
  have t57 : (57 : Int32).toInt = 57 := by decide
  have t97 : (97 : Int32).toInt = 97 := by decide
  have t107 : (107 : Int32).toInt = 107 := by decide
  have t0 : (0 : Int32).toInt = 0 := by decide
  unfold fInputText_numberOf mchk fM_in
  by_cases h1 : c = 46
  · left
    refine ⟨0, by decide, ?_, ?_⟩
    · rw [if_neg (not_not_intro h1)]; rfl
    · rw [if_pos h1]
  · rw [if_pos h1, if_neg h1]
    by_cases h2 : c < 49
    · have h3 : c < 97 := by
        rw [Int32.lt_iff_toInt_lt] at h2 ⊢
        omega
      right
      rw [if_pos h2, if_pos h3, if_pos h2, if_pos h3]
      exact ⟨rfl, rfl⟩
    · rw [if_neg h2, if_neg h2]
      by_cases h4 : (57 : Int32) < c
      · rw [if_pos h4, if_pos h4]
        by_cases h3 : c < 97
        · right
          rw [if_pos h3, if_pos h3]
          exact ⟨rfl, rfl⟩
        · rw [if_neg h3, if_neg h3]
          by_cases h5 : (107 : Int32) < c
          · right
            rw [if_pos h5, if_pos h5]
            exact ⟨rfl, rfl⟩
          · left
            have hc0 : ¬ c < 0 := fun e => by
              rw [Int32.lt_iff_toInt_lt] at h3 e
              omega
            obtain ⟨j, hj, rfl⟩ := nI_of2 (M := 107) (n := 107) (by decide) hc0 (le_of_nlt h5)
            have hj2 : 97 ≤ j := Nat.not_lt.mp (fun q => h3 (nI_lt (b := 97) q (by decide)))
            refine ⟨j - 97 + 10, by omega, ?_, ?_⟩
            · rw [if_neg h5, show (97 : Int32) = nI 97 from rfl, nI_sub hj2, show (10 : Int32) = nI 10 from rfl, nI_add]
            · rw [if_neg h5]; rfl
      · left
        have hc0 : ¬ c < 0 := fun e => by
          rw [Int32.lt_iff_toInt_lt] at h2 e
          omega
        obtain ⟨j, hj, rfl⟩ := nI_of2 (M := 57) (n := 57) (by decide) hc0 (le_of_nlt h4)
        have hj2 : 49 ≤ j := Nat.not_lt.mp (fun q => h2 (nI_lt (b := 49) q (by decide)))
        refine ⟨j - 48, by omega, ?_, ?_⟩
        · rw [if_neg h4, show (48 : Int32) = nI 48 from rfl, nI_sub (by omega)]
        · rw [if_neg h4]; rfl
theorem codeAt_s {codes : Nat → Int32} {k : Nat} (hk : k < 60) : fInputText_codeAt (nI k) codes = some (codes k) := by
  unfold fInputText_codeAt
  rw [if_neg (nI_pos (by omega)), if_neg (show ¬ (60 : Int32) ≤ nI k from nI_ge (b := 60) hk (by decide)), o_rd_s hk (by decide)]
  rfl
theorem numberFor_s {codes : Nat → Int32} {k : Nat} (hk : k < 60) : fInputText_numberFor (nI k) codes = fInputText_numberOf (codes k) := by
  unfold fInputText_numberFor
  rw [codeAt_s hk, Option.bind_some]
  cases fInputText_numberOf (codes k) <;> rfl
theorem err_s {F : Nat} (hF : 42 < F) {n : Nat} (hn : n ≤ 60) {codes buf : Nat → Int32} (h : ∀ k, k < n → codes k = buf k) : ∃ j, j ≤ n ∧ fInputText_firstWrong F (nI n) codes = some (nI j) ∧ fM_error F (nI n) buf = some (nI j) ∧ (j = n → n ≤ 7 ∧ ∀ k, k < n → ∃ v, v ≤ 20 ∧ fInputText_numberOf (codes k) = some (nI v)) := by
  have key : ∀ (m i N : Nat), i + m = 7 → m < N → i ≤ n → (∀ k, k < i → ∃ v, v ≤ 20 ∧ fInputText_numberOf (codes k) = some (nI v)) → ∃ j, j ≤ n ∧ fInputText_firstWrong_L2 F (nI n) codes N (nI i) = some (nI j) ∧ fM_error_L2 F (nI n) buf N (nI i) = some (nI j) ∧ (j = n → n ≤ 7 ∧ ∀ k, k < n → ∃ v, v ≤ 20 ∧ fInputText_numberOf (codes k) = some (nI v)) := by
    intro m
    induction m with
    | zero =>
      intro i N hi hN hin hv
      obtain ⟨M, rfl⟩ : ∃ M, N = M + 1 := ⟨N - 1, by omega⟩
      have e7 : i = 7 := by omega
      subst e7
      by_cases q : n = 7
      · subst q
        have e : nI 7 ≤ nI 7 := Int32.le_refl _
        exact ⟨7, Nat.le_refl _, by simp only [fInputText_firstWrong_L2, e, if_true], by simp only [fM_error_L2, e, if_true], fun _ => ⟨Nat.le_refl _, hv⟩⟩
      · have e : ¬ nI n ≤ nI 7 := nI_ge (by omega) (by omega)
        have e2 : (7 : Int32) ≤ nI 7 := Int32.le_refl _
        refine ⟨7, hin, by simp only [fInputText_firstWrong_L2, e, e2, if_true, if_false], ?_, fun z => absurd z (by omega)⟩
        have hr : o_rd 60 buf (nI 7) = some (buf 7) := o_rd_s (by decide) (by decide)
        rcases nof (buf 7) with ⟨v, -, -, e3⟩ | ⟨-, e3⟩
        · unfold mchk at e3
          simp only [fM_error_L2, e, if_false, hr, Option.bind_some, e3, show ¬ (1 : Int32) = 0 by decide, show ¬ ¬ nI 7 = (7 : Int32) from not_not_intro rfl]
        · unfold mchk at e3
          simp only [fM_error_L2, e, if_false, hr, Option.bind_some, e3, if_true]
    | succ m ih =>
      intro i N hi hN hin hv
      obtain ⟨M, rfl⟩ : ∃ M, N = M + 1 := ⟨N - 1, by omega⟩
      by_cases q : n = i
      · subst q
        have e : nI n ≤ nI n := Int32.le_refl _
        exact ⟨n, Nat.le_refl _, by simp only [fInputText_firstWrong_L2, e, if_true], by simp only [fM_error_L2, e, if_true], fun _ => ⟨by omega, hv⟩⟩
      · have hlt : i < n := by omega
        have e : ¬ nI n ≤ nI i := nI_ge hlt (by omega)
        have e2 : ¬ (7 : Int32) ≤ nI i := nI_ge (b := 7) (by omega) (by decide)
        have e4 : ¬ nI i = (7 : Int32) := fun z => by
          have := nI_inj (a := i) (b := 7) (by omega) (by decide) z
          omega
        have hr : o_rd 60 buf (nI i) = some (buf i) := o_rd_s (by omega) (by decide)
        have hx : fInputText_numberFor (nI i) codes = fInputText_numberOf (buf i) := by rw [numberFor_s (by omega), h i hlt]
        rcases nof (buf i) with ⟨v, hv20, e5, e3⟩ | ⟨e5, e3⟩
        · obtain ⟨j, h1, h2, h3, h4⟩ := ih (i + 1) M (by omega) (by omega) (by omega) (fun k hk => by
            by_cases z : k = i
            · subst z
              exact ⟨v, hv20, by rw [h k hlt]; exact e5⟩
            · exact hv k (by omega))
          refine ⟨j, h1, ?_, ?_, h4⟩
          · have e6 : (0 : Int32) ≤ nI v := nI_pos' (by omega)
            simp only [fInputText_firstWrong_L2, e, e2, if_false, hx, e5, Option.bind_some, e6, if_true, nI_1, h2]
          · unfold mchk at e3
            simp only [fM_error_L2, e, if_false, hr, Option.bind_some, e3, show ¬ (1 : Int32) = 0 by decide, e4, not_false_eq_true, if_true, nI_1, h3]
        · refine ⟨i, by omega, ?_, ?_, fun z => absurd z (by omega)⟩
          · simp only [fInputText_firstWrong_L2, e, e2, if_false, hx, e5, Option.bind_some, show ¬ (0 : Int32) ≤ -1 by decide]
          · unfold mchk at e3
            simp only [fM_error_L2, e, if_false, hr, Option.bind_some, e3, if_true]
  obtain ⟨j, h1, h2, h3, h4⟩ := key 7 0 F rfl (by omega) (Nat.zero_le _) (fun k hk => by omega)
  exact ⟨j, h1, h2, h3, h4⟩
