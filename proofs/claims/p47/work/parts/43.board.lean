/-! THE MATHEMATICS: a board and the reference's row of numbers. Own text. -/
theorem a42 (i : Nat) : (42 : Int32) + nI i = nI (42 + i) := nI_add 42 i
theorem z42 : (0 : Int32) = nI 0 := rfl
theorem le42 : (42 : Int32) ≤ nI 42 := Int32.le_refl _
theorem taken_s {F : Nat} (hF : 42 < F) (s : Nat → Int32) : ∃ x, fM_taken F s = some x ∧ ∀ k, tb x k = (decide (k < 42) && decide (¬ s (42 + k) ≤ 0)) := by
  obtain ⟨a, ha, e⟩ := lp0 42 hF (fun N i (a : Int64) => fM_taken_L4 F s N a (nI i)) (fun a => (a, nI 42)) (fun i a => ∀ k, tb a k = (decide (k < i) && decide (¬ s (42 + k) ≤ 0))) (a := 0)
    (fun k => by rw [tb_0]; simp)
    (fun i a hi ha => by
      have e1 := ge42 hi
      have e2 : o_rd 84 s (nI (42 + i)) = some (s (42 + i)) := o_rd_s (by omega) (by decide)
      by_cases h : s (42 + i) ≤ 0
      · refine ⟨a, fun k => ?_, fun N => ?_⟩
        · rw [ha k]
          by_cases q : k = i
          · subst q; simp [h]
          · rw [dec_succ k i q]
        · simp only [fM_taken_L4, e1, if_false, a42, e2, Option.bind_some, h, if_true, Int64.or_zero, nI_1]
      · refine ⟨a ||| ((1 : Int64) <<< ((nI i).toInt64 &&& 63)), fun k => ?_, fun N => ?_⟩
        · rw [tb_or, tb_bit (by omega), ha k]
          by_cases q : k = i
          · subst q; simp [h]
          · rw [dec_succ k i q]; simp [q]
        · simp only [fM_taken_L4, e1, if_false, a42, e2, Option.bind_some, h, nI_1])
    (fun N a ha => by simp only [fM_taken_L4, le42, if_true])
  refine ⟨a, ?_, ha⟩
  unfold fM_taken
  try rw [nI_0] at e
  rw [e]
  rfl
theorem numbered_s {F : Nat} (hF : 42 < F) (s : Nat → Int32) : ∃ x, fM_numbered F s = some x ∧ ∀ k, tb x k = (decide (k < 42) && decide (¬ s k ≤ 0)) := by
  obtain ⟨a, ha, e⟩ := lp0 42 hF (fun N i (a : Int64) => fM_numbered_L4 F s N a (nI i)) (fun a => (a, nI 42)) (fun i a => ∀ k, tb a k = (decide (k < i) && decide (¬ s k ≤ 0))) (a := 0)
    (fun k => by rw [tb_0]; simp)
    (fun i a hi ha => by
      have e1 := ge42 hi
      have e2 : o_rd 84 s (nI i) = some (s i) := o_rd_s (by omega) (by decide)
      by_cases h : s i ≤ 0
      · refine ⟨a, fun k => ?_, fun N => ?_⟩
        · rw [ha k]
          by_cases q : k = i
          · subst q; simp [h]
          · rw [dec_succ k i q]
        · simp only [fM_numbered_L4, e1, if_false, e2, Option.bind_some, h, if_true, Int64.or_zero, nI_1]
      · refine ⟨a ||| ((1 : Int64) <<< ((nI i).toInt64 &&& 63)), fun k => ?_, fun N => ?_⟩
        · rw [tb_or, tb_bit (by omega), ha k]
          by_cases q : k = i
          · subst q; simp [h]
          · rw [dec_succ k i q]; simp [q]
        · simp only [fM_numbered_L4, e1, if_false, e2, Option.bind_some, h, nI_1])
    (fun N a ha => by simp only [fM_numbered_L4, le42, if_true])
  refine ⟨a, ?_, ha⟩
  unfold fM_numbered
  try rw [nI_0] at e
  rw [e]
  rfl
theorem cellsWithNumber_s {F : Nat} (hF : 42 < F) (nu : Nat → Int32) : ∃ x, fBoard_cellsWithNumber F nu = some x ∧ ∀ k, tb x k = (decide (k < 42) && decide (nu k ≠ 0)) := by
  obtain ⟨a, ha, e⟩ := lp0 42 hF (fun N i (a : Int64) => fBoard_cellsWithNumber_L4 F nu N a (nI i)) (fun a => (a, nI 42)) (fun i a => ∀ k, tb a k = (decide (k < i) && decide (nu k ≠ 0))) (a := 0)
    (fun k => by rw [tb_0]; simp)
    (fun i a hi ha => by
      have e1 := ge42 hi
      by_cases h : nu i = 0
      · refine ⟨a, fun k => ?_, fun N => ?_⟩
        · rw [ha k]
          by_cases q : k = i
          · subst q; simp [h]
          · rw [dec_succ k i q]
        · simp only [fBoard_cellsWithNumber_L4, e1, if_false, o_rd_s hi (show 42 < 2 ^ 31 by decide), Option.bind_some, h, if_true, Int64.or_zero, nI_1]
      · refine ⟨a ||| ((1 : Int64) <<< ((nI i).toInt64 &&& 63)), fun k => ?_, fun N => ?_⟩
        · rw [tb_or, tb_bit (by omega), ha k]
          by_cases q : k = i
          · subst q; simp [h]
          · rw [dec_succ k i q]; simp [q]
        · simp only [fBoard_cellsWithNumber_L4, e1, if_false, o_rd_s hi (show 42 < 2 ^ 31 by decide), Option.bind_some, h, fX_bit_s hi, nI_1])
    (fun N a ha => by simp only [fBoard_cellsWithNumber_L4, le42, if_true])
  refine ⟨a, ?_, ha⟩
  unfold fBoard_cellsWithNumber
  try rw [nI_0] at e
  rw [e]
  rfl
theorem fieldOf_s {F : Nat} (hF : 42 < F) (s : Nat → Int32) {c : Nat} (hc : c < 42) : ∃ x, fM_fieldOf F (nI c) s = some x ∧ ∀ k, tb x k = (decide (k < 42) && decide (s (42 + k) = s (42 + c))) := by
  have e3 : o_rd 84 s (nI (42 + c)) = some (s (42 + c)) := o_rd_s (by omega) (by decide)
  obtain ⟨a, ha, e⟩ := lp0 42 hF (fun N i (a : Int64) => fM_fieldOf_L5 F (nI c) s N a (nI i)) (fun a => (a, nI 42)) (fun i a => ∀ k, tb a k = (decide (k < i) && decide (s (42 + k) = s (42 + c)))) (a := 0)
    (fun k => by rw [tb_0]; simp)
    (fun i a hi ha => by
      have e1 := ge42 hi
      have e2 : o_rd 84 s (nI (42 + i)) = some (s (42 + i)) := o_rd_s (by omega) (by decide)
      by_cases h : s (42 + i) = s (42 + c)
      · refine ⟨a ||| ((1 : Int64) <<< ((nI i).toInt64 &&& 63)), fun k => ?_, fun N => ?_⟩
        · rw [tb_or, tb_bit (by omega), ha k]
          by_cases q : k = i
          · subst q; simp [h]
          · rw [dec_succ k i q]; simp [q]
        · simp only [fM_fieldOf_L5, e1, if_false, a42, e2, e3, Option.bind_some, h, not_true_eq_false, nI_1]
      · refine ⟨a, fun k => ?_, fun N => ?_⟩
        · rw [ha k]
          by_cases q : k = i
          · subst q; simp [h]
          · rw [dec_succ k i q]
        · simp only [fM_fieldOf_L5, e1, if_false, a42, e2, e3, Option.bind_some, h, not_false_eq_true, if_true, Int64.or_zero, nI_1])
    (fun N a ha => by simp only [fM_fieldOf_L5, le42, if_true])
  refine ⟨a, ?_, ha⟩
  unfold fM_fieldOf
  try rw [nI_0] at e
  rw [e]
  rfl
theorem bits_s {F : Nat} (hF : 42 < F) (x : Int64) : fM_bits F x = some (nI (fb_ct (tb x) 42)) := by
  obtain ⟨a, ha, e⟩ := lp0 42 hF (fun N i (a : Int32) => fM_bits_L4 F x N a (nI i)) (fun a => (a, nI 42)) (fun i a => a = nI (fb_ct (tb x) i)) (a := 0)
    rfl
    (fun i a hi ha => by
      have e1 := ge42 hi
      subst ha
      refine ⟨_, rfl, fun N => ?_⟩
      rw [fb_ct_succ]
      by_cases h : tb x i = true
      · simp only [fM_bits_L4, e1, if_false, fM_has_s (show i < 64 by omega), Option.bind_some, h, if_true, show ¬ (1 : Int32) = 0 by decide, nI_1]
      · simp only [fM_bits_L4, e1, if_false, fM_has_s (show i < 64 by omega), Option.bind_some, h, if_true, Int32.add_zero, Nat.add_zero, nI_1, Bool.false_eq_true])
    (fun N a ha => by simp only [fM_bits_L4, le42, if_true])
  subst ha
  unfold fM_bits
  try rw [nI_0] at e
  rw [e]
  rfl
/-- a set of cells of the board -/
def inB (x : Int64) : Prop := ∀ k, 42 ≤ k → tb x k = false
theorem bc_42 {x : Int64} (h : inB x) : fJ_bitCount x = nI (fb_ct (tb x) 42) := by
  rw [bc_tb, show (64 : Nat) = 42 + 22 by decide, fb_ct_split]
  have : fb_ct (fun k => tb x (42 + k)) 22 = 0 := fb_ct_zero.mpr (fun k _ => h (42 + k) (by omega))
  rw [this, Nat.add_zero]
theorem bits_bc {F : Nat} (hF : 42 < F) {x : Int64} (h : inB x) : fM_bits F x = some (fJ_bitCount x) := by rw [bits_s hF, bc_42 h]
theorem inB_and {x y : Int64} (h : inB x) : inB (x &&& y) := fun k hk => by rw [tb_and, h k hk]; rfl
theorem inB_of {x : Int64} {p : Nat → Bool} (h : ∀ k, tb x k = (decide (k < 42) && p k)) : inB x := fun k hk => by
  rw [h k, decide_eq_false (by omega)]; rfl
/-- corners of a rectangle, and what lies inside -/
def RC (a b : Nat) : Prop := a < 42 ∧ b < 42 ∧ a / 7 ≤ b / 7 ∧ a % 7 ≤ b % 7
def IN (k a b : Nat) : Prop := a ≤ k ∧ k ≤ b ∧ a % 7 ≤ k % 7 ∧ k % 7 ≤ b % 7
theorem IN_a {a b : Nat} (h : RC a b) : IN a a b := by unfold RC at h; unfold IN; omega
theorem IN_b {a b : Nat} (h : RC a b) : IN b a b := by unfold RC at h; unfold IN; omega
theorem IN_lt {k a b : Nat} (h : RC a b) (hk : IN k a b) : k < 42 := by unfold RC at h; unfold IN at hk; omega
/-- one cell of a board against the reference's row from o on -/
def CR (nu inF fi la s : Nat → Int32) (o k : Nat) : Prop := (∃ v, v ≤ 20 ∧ nu k = nI v) ∧ s (o + k) = nu k ∧
  ((inF k = 0 ∧ s (o + 42 + k) = 0) ∨ (inF k = 1 ∧ ∃ a b, RC a b ∧ IN k a b ∧ fi k = nI a ∧ la k = nI b ∧ s (o + 42 + k) = nI (a + 1) ∧ ∀ j, IN j a b → inF j = 1 ∧ fi j = nI a ∧ la j = nI b))
def BR (nu inF fi la s : Nat → Int32) (o : Nat) : Prop := ∀ k, k < 42 → CR nu inF fi la s o k
theorem BR.cong {nu inF fi la s nu' inF' fi' la' s' : Nat → Int32} {o o' : Nat} (h : BR nu inF fi la s o) (h1 : ∀ k, k < 42 → nu' k = nu k) (h2 : ∀ k, k < 42 → inF' k = inF k) (h3 : ∀ k, k < 42 → fi' k = fi k) (h4 : ∀ k, k < 42 → la' k = la k) (h5 : ∀ k, k < 84 → s' (o' + k) = s (o + k)) : BR nu' inF' fi' la' s' o' := fun k hk => by
  obtain ⟨hv, hs, hf⟩ := h k hk
  have e5 : s' (o' + 42 + k) = s (o + 42 + k) := by
    have := h5 (42 + k) (by omega)
    rw [← Nat.add_assoc, ← Nat.add_assoc] at this
    exact this
  refine ⟨by rw [h1 k hk]; exact hv, by rw [h5 k (by omega), h1 k hk]; exact hs, ?_⟩
  rw [h2 k hk, e5]
  rcases hf with hf | ⟨hf, a, b, hr, hi, ha, hb, hs2, hj⟩
  · exact Or.inl hf
  · refine Or.inr ⟨hf, a, b, hr, hi, by rw [h3 k hk]; exact ha, by rw [h4 k hk]; exact hb, hs2, fun j hj2 => ?_⟩
    have hl := IN_lt hr hj2
    rw [h2 j hl, h3 j hl, h4 j hl]
    exact hj j hj2
theorem BR.inF {nu inF fi la s : Nat → Int32} {o k : Nat} (h : BR nu inF fi la s o) (hk : k < 42) : inF k = 0 ∨ inF k = 1 := by
  obtain ⟨-, -, h | h⟩ := h k hk
  · exact Or.inl h.1
  · exact Or.inr h.1
theorem nI_nz {a : Nat} (h : a < 2 ^ 31 - 1) : ¬ nI (a + 1) ≤ 0 := nI_nle (Nat.succ_pos a) (by omega)
theorem BR.fld {nu inF fi la s : Nat → Int32} {o k : Nat} (h : BR nu inF fi la s o) (hk : k < 42) : (inF k ≠ 0) = (¬ s (o + 42 + k) ≤ 0) := by
  obtain ⟨-, -, h | ⟨h, a, b, hr, -, -, -, hs, -⟩⟩ := h k hk
  · rw [h.1, h.2]
    simp
  · rw [h, hs]
    have : ¬ nI (a + 1) ≤ 0 := nI_nz (by unfold RC at hr; omega)
    simp [this]
theorem BR.num {nu inF fi la s : Nat → Int32} {o k : Nat} (h : BR nu inF fi la s o) (hk : k < 42) : (nu k ≠ 0) = (¬ s (o + k) ≤ 0) := by
  obtain ⟨⟨v, hv, e⟩, hs, -⟩ := h k hk
  rw [hs, e]
  by_cases q : v = 0
  · subst q
    simp [nI_0]
  · have h1 : ¬ nI v ≤ 0 := nI_nle (by omega) (by omega)
    have h2 : ¬ nI v = 0 := nI_ne0 (by omega) (by omega)
    simp [h1, h2]
/-- the two see the same cells in fields, and the same with a number -/
theorem BR.taken {F : Nat} (hF : 42 < F) {nu inF fi la s : Nat → Int32} (h : BR nu inF fi la s 0) : ∃ x, fBoard_cellsInFields F inF = some x ∧ fM_taken F s = some x ∧ inB x ∧ ∀ k, tb x k = (decide (k < 42) && decide (inF k ≠ 0)) := by
  obtain ⟨x, e1, h1⟩ := cellsInFields_s hF inF
  obtain ⟨y, e2, h2⟩ := taken_s hF s
  have hxy : x = y := tb_eq (fun k => by
    rw [h1 k, h2 k]
    by_cases hk : k < 42
    · have := h.fld hk
      rw [Nat.zero_add] at this
      simp only [this]
    · simp [hk])
  subst hxy
  exact ⟨x, e1, e2, inB_of h1, h1⟩
theorem BR.numbered {F : Nat} (hF : 42 < F) {nu inF fi la s : Nat → Int32} (h : BR nu inF fi la s 0) : ∃ x, fBoard_cellsWithNumber F nu = some x ∧ fM_numbered F s = some x ∧ inB x ∧ ∀ k, tb x k = (decide (k < 42) && decide (nu k ≠ 0)) := by
  obtain ⟨x, e1, h1⟩ := cellsWithNumber_s hF nu
  obtain ⟨y, e2, h2⟩ := numbered_s hF s
  have hxy : x = y := tb_eq (fun k => by
    rw [h1 k, h2 k]
    by_cases hk : k < 42
    · have := h.num hk
      rw [Nat.zero_add] at this
      simp only [this]
    · simp [hk])
  subst hxy
  exact ⟨x, e1, e2, inB_of h1, h1⟩
theorem hasField_s {inF : Nat → Int32} {k : Nat} (hk : k < 42) (h : inF k = 0 ∨ inF k = 1) : fBoard_hasField (nI k) inF = some (inF k) := by
  unfold fBoard_hasField
  rw [fX_isCell_s hk, Option.bind_some, if_neg (by decide), o_rd_s hk (by decide), Option.bind_some]
  rcases h with h | h
  · rw [h]; rfl
  · rw [h]; rfl
theorem numberIn_s {nu : Nat → Int32} {k : Nat} (hk : k < 42) : fBoard_numberIn (nI k) nu = some (nu k) := by
  unfold fBoard_numberIn
  rw [fX_isCell_s hk, Option.bind_some, if_neg (by decide), o_rd_s hk (by decide)]
  rfl
theorem firstOfField_s {fi : Nat → Int32} {k : Nat} (hk : k < 42) : fBoard_firstOfField (nI k) fi = some (fi k) := by
  unfold fBoard_firstOfField
  rw [fX_isCell_s hk, Option.bind_some, if_neg (by decide), o_rd_s hk (by decide)]
  rfl
