/-! p47, THE MATHEMATICS: the mean times the open numbers, by evaluation. Own text. -/
def mv (m n : Nat) : UInt64 := FP.ddiv (FP.i2d (nI m)) (FP.i2d (nI n))
def mw (m n : Nat) : UInt64 := FP.dmul (mv m n) (FP.i2d (nI n))
def nnb (x : UInt64) : Bool := decide (x &&& 0x7fffffffffffffff ≤ 0x7ff0000000000000)
def mchk (m n : Nat) : Bool := nnb (mv m n) && (nnb (mw m n) && (decide (Op.cmpValue (FP.dcmp (mw m n) (FP.i2d (nI m - 1))) .l = 1) && decide (Op.cmpValue (FP.dcmp (mw m n) (FP.i2d (nI m + 1))) .g = -1)))
def mall (n : Nat) : Nat → Bool
  | 0 => true
  | m + 1 => mchk m n && mall n m
theorem mall_1 : mall 1 589 = true := by decide +kernel
theorem mall_2 : mall 2 589 = true := by decide +kernel
theorem mall_3 : mall 3 589 = true := by decide +kernel
theorem mall_4 : mall 4 589 = true := by decide +kernel
theorem mall_5 : mall 5 589 = true := by decide +kernel
theorem mall_6 : mall 6 589 = true := by decide +kernel
theorem mall_7 : mall 7 589 = true := by decide +kernel
theorem mall_8 : mall 8 589 = true := by decide +kernel
theorem mall_9 : mall 9 589 = true := by decide +kernel
theorem mall_10 : mall 10 589 = true := by decide +kernel
theorem mall_11 : mall 11 589 = true := by decide +kernel
theorem mall_12 : mall 12 589 = true := by decide +kernel
theorem mall_13 : mall 13 589 = true := by decide +kernel
theorem mall_14 : mall 14 589 = true := by decide +kernel
theorem mall_15 : mall 15 589 = true := by decide +kernel
theorem mall_16 : mall 16 589 = true := by decide +kernel
theorem mall_17 : mall 17 589 = true := by decide +kernel
theorem mall_18 : mall 18 589 = true := by decide +kernel
theorem mall_19 : mall 19 589 = true := by decide +kernel
theorem mall_20 : mall 20 589 = true := by decide +kernel
theorem mall_21 : mall 21 589 = true := by decide +kernel
theorem mall_22 : mall 22 589 = true := by decide +kernel
theorem mall_23 : mall 23 589 = true := by decide +kernel
theorem mall_24 : mall 24 589 = true := by decide +kernel
theorem mall_25 : mall 25 589 = true := by decide +kernel
theorem mall_26 : mall 26 589 = true := by decide +kernel
theorem mall_27 : mall 27 589 = true := by decide +kernel
theorem mall_28 : mall 28 589 = true := by decide +kernel
theorem mall_29 : mall 29 589 = true := by decide +kernel
theorem mall_30 : mall 30 589 = true := by decide +kernel
theorem mall_31 : mall 31 589 = true := by decide +kernel
theorem mall_32 : mall 32 589 = true := by decide +kernel
theorem mall_33 : mall 33 589 = true := by decide +kernel
theorem mall_34 : mall 34 589 = true := by decide +kernel
theorem mall_35 : mall 35 589 = true := by decide +kernel
theorem mall_36 : mall 36 589 = true := by decide +kernel
theorem mall_37 : mall 37 589 = true := by decide +kernel
theorem mall_38 : mall 38 589 = true := by decide +kernel
theorem mall_39 : mall 39 589 = true := by decide +kernel
theorem mall_40 : mall 40 589 = true := by decide +kernel
theorem mall_41 : mall 41 589 = true := by decide +kernel
theorem mall_42 : mall 42 589 = true := by decide +kernel
theorem mall_of {n : Nat} : ∀ {M m : Nat}, mall n M = true → m < M → mchk m n = true
  | 0, m, _, h => absurd h (Nat.not_lt_zero m)
  | M + 1, m, h, hm => by
    have h2 : (mchk M n && mall n M) = true := h
    rw [Bool.and_eq_true] at h2
    by_cases q : m = M
    · rw [q]; exact h2.1
    · exact mall_of h2.2 (by omega)
theorem mall_all : ∀ n, 0 < n → n < 43 → mall n 589 = true
  | 0, h, _ => absurd h (Nat.lt_irrefl 0)
  | 1, _, _ => mall_1
  | 2, _, _ => mall_2
  | 3, _, _ => mall_3
  | 4, _, _ => mall_4
  | 5, _, _ => mall_5
  | 6, _, _ => mall_6
  | 7, _, _ => mall_7
  | 8, _, _ => mall_8
  | 9, _, _ => mall_9
  | 10, _, _ => mall_10
  | 11, _, _ => mall_11
  | 12, _, _ => mall_12
  | 13, _, _ => mall_13
  | 14, _, _ => mall_14
  | 15, _, _ => mall_15
  | 16, _, _ => mall_16
  | 17, _, _ => mall_17
  | 18, _, _ => mall_18
  | 19, _, _ => mall_19
  | 20, _, _ => mall_20
  | 21, _, _ => mall_21
  | 22, _, _ => mall_22
  | 23, _, _ => mall_23
  | 24, _, _ => mall_24
  | 25, _, _ => mall_25
  | 26, _, _ => mall_26
  | 27, _, _ => mall_27
  | 28, _, _ => mall_28
  | 29, _, _ => mall_29
  | 30, _, _ => mall_30
  | 31, _, _ => mall_31
  | 32, _, _ => mall_32
  | 33, _, _ => mall_33
  | 34, _, _ => mall_34
  | 35, _, _ => mall_35
  | 36, _, _ => mall_36
  | 37, _, _ => mall_37
  | 38, _, _ => mall_38
  | 39, _, _ => mall_39
  | 40, _, _ => mall_40
  | 41, _, _ => mall_41
  | 42, _, _ => mall_42
  | n + 43, _, h => absurd h (by omega)
theorem nn_of {x : UInt64} (h : nnb x = true) : o_nn x = some x := by
  unfold o_nn
  exact if_pos (of_decide_eq_true h)
theorem mean_ok {m n : Nat} (hm : m ≤ 588) (h0 : 0 < n) (hn : n ≤ 42) : o_nn (mv m n) = some (mv m n) ∧ o_nn (mw m n) = some (mw m n) ∧ Op.cmpValue (FP.dcmp (mw m n) (FP.i2d (nI m - 1))) .l = 1 ∧ Op.cmpValue (FP.dcmp (mw m n) (FP.i2d (nI m + 1))) .g = -1 := by
  have h := mall_of (mall_all n h0 (by omega)) (show m < 589 by omega)
  unfold mchk at h
  rw [Bool.and_eq_true, Bool.and_eq_true, Bool.and_eq_true, decide_eq_true_eq, decide_eq_true_eq] at h
  exact ⟨nn_of h.1, nn_of h.2.1, h.2.2.1, h.2.2.2⟩
theorem mean_0 : Op.cmpValue (FP.dcmp FP.dconst0 FP.dconst0) .l = 0 := by decide +kernel
