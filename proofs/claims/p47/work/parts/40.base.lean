/-! THE MATHEMATICS: bits of a set of cells, counted and found. Own text. -/
def tb (x : Int64) (k : Nat) : Bool := x.toBitVec.getLsbD k
theorem tb_ext {x y : Int64} (h : ∀ i, i < 64 → tb x i = tb y i) : x = y := Int64.toBitVec_inj.mp (BitVec.eq_of_getLsbD_eq (fun i hi => h i hi))
theorem tb_or (x y : Int64) (i : Nat) : tb (x ||| y) i = (tb x i || tb y i) := by unfold tb; rw [Int64.toBitVec_or, BitVec.getLsbD_or]
theorem tb_and (x y : Int64) (i : Nat) : tb (x &&& y) i = (tb x i && tb y i) := by unfold tb; rw [Int64.toBitVec_and, BitVec.getLsbD_and]
theorem tb_xor (x y : Int64) (i : Nat) : tb (x ^^^ y) i = (tb x i ^^ tb y i) := by unfold tb; rw [Int64.toBitVec_xor, BitVec.getLsbD_xor]
theorem tb_big {x : Int64} {i : Nat} (h : 64 ≤ i) : tb x i = false := BitVec.getLsbD_of_ge _ _ h
theorem tb_0 (i : Nat) : tb 0 i = false := BitVec.getLsbD_zero
theorem tb_lN {n i : Nat} (hi : i < 64) : tb (lN n) i = n.testBit i := by
  unfold tb
  rw [lN_bv, BitVec.getLsbD_ofNat]
  simp [hi]
theorem tb_m1 {i : Nat} (hi : i < 64) : tb (-1) i = true := by
  have h : ∀ i : Fin 64, tb (-1) i.val = true := by decide +kernel
  exact h ⟨i, hi⟩
theorem bit_shl {k : Nat} (hk : k < 64) : (1 : Int64) <<< ((nI k).toInt64 &&& 63) = lN (2 ^ k) := by
  have h := wb_shl 1 hk
  rw [Nat.one_mul] at h
  exact h
theorem tb_bit {k : Nat} (hk : k < 64) (i : Nat) : tb ((1 : Int64) <<< ((nI k).toInt64 &&& 63)) i = decide (i = k) := by
  rw [bit_shl hk]
  by_cases hi : i < 64
  · rw [tb_lN hi, Nat.testBit_two_pow]
    by_cases h : k = i
    · subst h; simp
    · simp [h, Ne.symm h]
  · rw [tb_big (Nat.not_lt.mp hi)]
    have : ¬ i = k := by omega
    simp [this]
theorem and_bit0 {x : Int64} {k : Nat} (hk : k < 64) : (x &&& ((1 : Int64) <<< ((nI k).toInt64 &&& 63))) = 0 ↔ tb x k = false := by
  constructor
  · intro h
    have h1 := congrArg (fun y => tb y k) h
    simp only [tb_and, tb_bit hk, tb_0] at h1
    simpa using h1
  · intro h
    refine tb_ext (fun i hi => ?_)
    rw [tb_and, tb_bit hk, tb_0]
    by_cases e : i = k
    · subst e; rw [h]; rfl
    · simp [e]
theorem eq0_iff {x : Int64} : x = 0 ↔ ∀ i, i < 64 → tb x i = false := by
  constructor
  · intro h i _; rw [h, tb_0]
  · intro h; exact tb_ext (fun i hi => by rw [h i hi, tb_0])
theorem ne0_iff {x : Int64} : ¬ x = 0 ↔ ∃ i, i < 64 ∧ tb x i = true := by
  constructor
  · intro h
    apply Classical.byContradiction
    intro c
    apply h
    refine eq0_iff.mpr (fun i hi => ?_)
    cases e : tb x i with
    | false => rfl
    | true => exact absurd ⟨i, hi, e⟩ c
  · rintro ⟨i, hi, h⟩ e
    rw [e, tb_0] at h
    cases h
theorem tb_shr {x : Int64} {k : Nat} (hk : k < 64) : tb (x >>> ((nI k).toInt64 &&& 63)) 0 = tb x k := by
  unfold tb
  rw [wb_c k hk, Int64.toBitVec_shiftRight]
  show (x.toBitVec.sshiftRight ((lN k).toBitVec.smod 64).toNat).getLsbD 0 = _
  have e : ((lN k).toBitVec.smod 64).toNat = k := by
    rw [lN_bv, wb_sm k hk, BitVec.toNat_ofNat]
    exact Nat.mod_eq_of_lt (by omega)
  rw [e, BitVec.getLsbD_sshiftRight]
  simp [hk]
theorem and1_iff {y : Int64} : (y &&& 1) = 1 ↔ tb y 0 = true := by
  have h1 : ∀ i : Fin 64, tb 1 i.val = decide (i.val = 0) := by decide +kernel
  constructor
  · intro h
    have h2 := congrArg (fun z => tb z 0) h
    simp only [tb_and] at h2
    have h10 : tb 1 0 = true := by decide +kernel
    rw [h10] at h2
    simpa using h2
  · intro h
    refine tb_ext (fun i hi => ?_)
    rw [tb_and, h1 ⟨i, hi⟩]
    by_cases e : i = 0
    · subst e; rw [h]; rfl
    · simp [e]
theorem fM_has_s {x : Int64} {k : Nat} (hk : k < 64) : fM_has x (nI k) = some (if tb x k then 1 else 0) := by
  unfold fM_has
  by_cases h : tb x k = true
  · rw [if_neg (not_not_intro (and1_iff.mpr (by rw [tb_shr hk]; exact h))), if_pos h]
  · rw [if_pos (fun e => h (by rw [← tb_shr hk]; exact and1_iff.mp e)), if_neg h]
theorem ge42 {k : Nat} (hk : k < 42) : ¬ (42 : Int32) ≤ nI k := nI_ge (b := 42) hk (by decide)
theorem fX_bit_s {k : Nat} (hk : k < 42) : fX_bit (nI k) = some ((1 : Int64) <<< ((nI k).toInt64 &&& 63)) := by
  unfold fX_bit
  rw [if_neg (nI_pos (by omega)), if_neg (ge42 hk)]
theorem fX_isCell_s {k : Nat} (hk : k < 42) : fX_isCell (nI k) = some 1 := by
  unfold fX_isCell
  rw [if_neg (nI_pos (by omega)), if_neg (ge42 hk)]
theorem fX_has_s {x : Int64} {k : Nat} (hk : k < 42) : fX_has x (nI k) = some (if tb x k then 1 else 0) := by
  unfold fX_has
  rw [fX_bit_s hk, Option.bind_some]
  by_cases h : tb x k = true
  · rw [if_neg (fun e => by rw [(and_bit0 (by omega)).mp e] at h; cases h), if_pos h]
  · rw [if_pos ((and_bit0 (by omega)).mpr (by simpa using h)), if_neg h]
