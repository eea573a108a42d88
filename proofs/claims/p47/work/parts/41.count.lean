/-! THE MATHEMATICS: how many bits a long has, byte by byte. Own text. -/
def by_v (a : Nat → Nat) : Nat → Nat
  | 0 => 0
  | m + 1 => a 0 + 256 * by_v (fun j => a (j + 1)) m
theorem by_lt : ∀ (m : Nat) (a : Nat → Nat), (∀ j, j < m → a j < 256) → by_v a m < 256 ^ m
  | 0, _, _ => show (0 : Nat) < 256 ^ 0 by decide
  | m + 1, a, h => by
    have h1 := by_lt m (fun j => a (j + 1)) (fun j hj => h (j + 1) (by omega))
    have h0 := h 0 (by omega)
    rw [Nat.pow_succ]
    show a 0 + 256 * _ < _
    omega
theorem by_cong : ∀ (m : Nat) {a b : Nat → Nat}, (∀ j, j < m → a j = b j) → by_v a m = by_v b m
  | 0, _, _, _ => rfl
  | m + 1, a, b, h => by
    show a 0 + 256 * _ = b 0 + 256 * _
    rw [h 0 (by omega), by_cong m (fun j hj => h (j + 1) (by omega))]
theorem nat_and_split (a b A B : Nat) (ha : a < 256) (hb : b < 256) : (a + 256 * A) &&& (b + 256 * B) = (a &&& b) + 256 * (A &&& B) := by
  have h1 := Nat.and_mod_two_pow (a := a + 256 * A) (b := b + 256 * B) (n := 8)
  have h2 := Nat.and_div_two_pow (a := a + 256 * A) (b := b + 256 * B) (n := 8)
  have e1 : (a + 256 * A) % 2 ^ 8 = a := by omega
  have e2 : (b + 256 * B) % 2 ^ 8 = b := by omega
  have e3 : (a + 256 * A) / 2 ^ 8 = A := by omega
  have e4 : (b + 256 * B) / 2 ^ 8 = B := by omega
  rw [e1, e2] at h1
  rw [e3, e4] at h2
  omega
theorem by_and : ∀ (m : Nat) (a b : Nat → Nat), (∀ j, j < m → a j < 256) → (∀ j, j < m → b j < 256) → by_v a m &&& by_v b m = by_v (fun j => a j &&& b j) m
  | 0, _, _, _, _ => by
    show (0 &&& 0 : Nat) = 0
    decide
  | m + 1, a, b, ha, hb => by
    show (a 0 + 256 * _) &&& (b 0 + 256 * _) = (a 0 &&& b 0) + 256 * _
    rw [nat_and_split _ _ _ _ (ha 0 (by omega)) (hb 0 (by omega)), by_and m _ _ (fun j hj => ha (j + 1) (by omega)) (fun j hj => hb (j + 1) (by omega))]
theorem by_add : ∀ (m : Nat) (a b : Nat → Nat), by_v a m + by_v b m = by_v (fun j => a j + b j) m
  | 0, _, _ => rfl
  | m + 1, a, b => by
    have h := by_add m (fun j => a (j + 1)) (fun j => b (j + 1))
    show (a 0 + 256 * by_v (fun j => a (j + 1)) m) + (b 0 + 256 * by_v (fun j => b (j + 1)) m) = (a 0 + b 0) + 256 * by_v (fun j => a (j + 1) + b (j + 1)) m
    omega
theorem by_le : ∀ (m : Nat) (a b : Nat → Nat), (∀ j, j < m → a j ≤ b j) → by_v a m ≤ by_v b m
  | 0, _, _, _ => Nat.le_refl _
  | m + 1, a, b, h => by
    have h1 := by_le m (fun j => a (j + 1)) (fun j => b (j + 1)) (fun j hj => h (j + 1) (by omega))
    have h0 := h 0 (by omega)
    show a 0 + 256 * _ ≤ b 0 + 256 * _
    omega
theorem by_sub (m : Nat) (a b : Nat → Nat) (h : ∀ j, j < m → b j ≤ a j) : by_v a m - by_v b m = by_v (fun j => a j - b j) m := by
  have h1 := by_add m (fun j => a j - b j) b
  have h2 : by_v (fun j => a j - b j + b j) m = by_v a m := by_cong m (fun j hj => Nat.sub_add_cancel (h j hj))
  omega
/-- a shift by less than a byte, of which the lower bits are kept -/
theorem by_shr (s c : Nat) (hs : s ≤ 8) : ∀ (m : Nat) (a : Nat → Nat), (∀ j, j < m → a j < 256) → by_v a m / 2 ^ s = by_v (fun j => a j / 2 ^ s + (if j + 1 < m then a (j + 1) % 2 ^ s * 2 ^ (8 - s) else 0)) m
  | 0, _, _ => by simp [by_v]
  | m + 1, a, h => by
    have ih := by_shr s c hs m (fun j => a (j + 1)) (fun j hj => h (j + 1) (by omega))
    have e : by_v (fun j => a (j + 1) / 2 ^ s + (if j + 1 < m then a (j + 1 + 1) % 2 ^ s * 2 ^ (8 - s) else 0)) m = by_v (fun j => a (j + 1) / 2 ^ s + (if j + 1 + 1 < m + 1 then a (j + 1 + 1) % 2 ^ s * 2 ^ (8 - s) else 0)) m :=
      by_cong m (fun j _ => by by_cases q : j + 1 < m <;> simp [q])
    show (a 0 + 256 * by_v (fun j => a (j + 1)) m) / 2 ^ s = (a 0 / 2 ^ s + (if 0 + 1 < m + 1 then a (0 + 1) % 2 ^ s * 2 ^ (8 - s) else 0)) + 256 * _
    rw [← e, ← ih]
    have hp : 2 ^ s * 2 ^ (8 - s) = 256 := by rw [← Nat.pow_add, show s + (8 - s) = 8 by omega]
    have hpos : 0 < 2 ^ s := Nat.pow_pos (by decide)
    have h1 : (a 0 + 256 * by_v (fun j => a (j + 1)) m) / 2 ^ s = a 0 / 2 ^ s + 2 ^ (8 - s) * by_v (fun j => a (j + 1)) m := by
      rw [← hp, Nat.mul_assoc, Nat.add_mul_div_left _ _ hpos]
    rw [h1]
    match m, h with
    | 0, _ => simp [by_v]
    | m + 1, h =>
      have h2 : by_v (fun j => a (j + 1)) (m + 1) = a 1 + 256 * by_v (fun j => a (j + 1 + 1)) m := rfl
      have h3 : by_v (fun j => a (j + 1)) (m + 1) % 2 ^ s = a 1 % 2 ^ s := by
        rw [h2, ← hp, Nat.mul_assoc, Nat.add_mul_mod_self_left]
      have h4 := Nat.div_add_mod (by_v (fun j => a (j + 1)) (m + 1)) (2 ^ s)
      generalize hV : by_v (fun j => a (j + 1)) (m + 1) = V at h3 h4 ⊢
      rw [if_pos (by omega)]
      rw [h3] at h4
      have h5 : 2 ^ (8 - s) * V = 2 ^ (8 - s) * (2 ^ s * (V / 2 ^ s)) + 2 ^ (8 - s) * (a 1 % 2 ^ s) := by rw [← Nat.mul_add, h4]
      rw [h5, ← Nat.mul_assoc, Nat.mul_comm (2 ^ (8 - s)) (2 ^ s), hp, Nat.mul_comm (2 ^ (8 - s)) (a 1 % 2 ^ s)]
      show _ = a 0 / 2 ^ s + a 1 % 2 ^ s * 2 ^ (8 - s) + 256 * (V / 2 ^ s)
      omega
def by_1 (c : Nat) : Nat := c - ((c / 2) &&& 0x55)
def by_2 (c : Nat) : Nat := (c &&& 0x33) + ((c / 4) &&& 0x33)
def by_3 (c : Nat) : Nat := (c + c / 16) &&& 15
theorem by_t1 : ∀ c d : Fin 256, ((c.val / 2 + d.val % 2 * 128) &&& 0x55) = ((c.val / 2) &&& 0x55) := by decide +kernel
theorem by_t1l : ∀ c : Fin 256, ((c.val / 2) &&& 0x55) ≤ c.val ∧ by_1 c.val < 256 := by decide +kernel
theorem by_t2 : ∀ c d : Fin 256, ((c.val / 4 + d.val % 4 * 64) &&& 0x33) = ((c.val / 4) &&& 0x33) := by decide +kernel
theorem by_t2l : ∀ c : Fin 256, by_2 c.val < 256 ∧ by_2 c.val / 16 ≤ 6 ∧ by_2 c.val % 16 ≤ 6 := by decide +kernel
theorem by_t3 : ∀ c : Fin 256, by_3 (by_2 (by_1 c.val)) = fb_ct (fun k => c.val.testBit k) 8 := by decide +kernel
theorem by_t3b : ∀ c : Fin 256, by_2 (by_1 c.val) / 16 ≤ 4 ∧ by_2 (by_1 c.val) % 16 ≤ 4 := by decide +kernel
theorem by_t4 : ∀ c : Fin 128, ∀ d : Fin 5, ((c.val + d.val * 16) &&& 15) = c.val &&& 15 := by decide +kernel
/-- a number below 2^64 by its bytes -/
def by_o (n : Nat) (j : Nat) : Nat := n / 256 ^ j % 256
theorem by_of : ∀ (m n : Nat), n < 256 ^ m → by_v (by_o n) m = n
  | 0, n, h => by
    have : n = 0 := by simpa using h
    rw [this]; rfl
  | m + 1, n, h => by
    have ih := by_of m (n / 256) (by rw [Nat.pow_succ] at h; omega)
    have e : by_v (fun j => by_o n (j + 1)) m = by_v (by_o (n / 256)) m := by_cong m (fun j _ => by
      unfold by_o
      rw [Nat.pow_succ, Nat.mul_comm, ← Nat.div_div_eq_div_mul])
    show by_o n 0 + 256 * by_v (fun j => by_o n (j + 1)) m = n
    rw [e, ih]
    unfold by_o
    simp
    omega
theorem by_o_lt (n j : Nat) : by_o n j < 256 := Nat.mod_lt _ (by decide)
theorem by_o_bit (n j k : Nat) (hk : k < 8) : (by_o n j).testBit k = n.testBit (8 * j + k) := by
  unfold by_o
  have e : (256 : Nat) ^ j = 2 ^ (8 * j) := by rw [Nat.pow_mul]
  rw [e, show (256 : Nat) = 2 ^ 8 by decide, Nat.testBit_mod_two_pow, Nat.testBit_div_two_pow]
  simp [hk, Nat.add_comm]
theorem by_c (c : Nat) : by_v (fun _ => c) 8 = c * 72340172838076673 := by
  simp only [by_v]
  omega
theorem by_shr_and (s c : Nat) (hs : s ≤ 8) (hc : c < 256) (m : Nat) (a : Nat → Nat) (ha : ∀ j, j < m → a j < 256) (hb : ∀ x y, x < 256 → y < 256 → ((x / 2 ^ s + y % 2 ^ s * 2 ^ (8 - s)) &&& c) = ((x / 2 ^ s) &&& c)) :
    by_v a m / 2 ^ s &&& by_v (fun _ => c) m = by_v (fun j => (a j / 2 ^ s) &&& c) m := by
  have hpos : 0 < 2 ^ s := Nat.pow_pos (by decide)
  have hp : 2 ^ s * 2 ^ (8 - s) = 256 := by rw [← Nat.pow_add, show s + (8 - s) = 8 by omega]
  have hq : ∀ x y, x < 256 → x / 2 ^ s + y % 2 ^ s * 2 ^ (8 - s) < 256 := fun x y hx => by
    have h1 : x / 2 ^ s < 2 ^ (8 - s) := Nat.div_lt_of_lt_mul (by rw [hp]; exact hx)
    have h2 : y % 2 ^ s < 2 ^ s := Nat.mod_lt _ hpos
    have h3 : (y % 2 ^ s + 1) * 2 ^ (8 - s) ≤ 2 ^ s * 2 ^ (8 - s) := Nat.mul_le_mul_right _ h2
    rw [Nat.add_mul, Nat.one_mul, hp] at h3
    omega
  rw [by_shr s c hs m a ha, by_and]
  · refine by_cong m (fun j hj => ?_)
    by_cases q : j + 1 < m
    · rw [if_pos q]; exact hb _ _ (ha j hj) (ha _ q)
    · rw [if_neg q, Nat.add_zero]
  · intro j hj
    by_cases q : j + 1 < m
    · rw [if_pos q]; exact hq _ _ (ha j hj)
    · rw [if_neg q, Nat.add_zero]; exact Nat.lt_of_le_of_lt (Nat.div_le_self _ _) (ha j hj)
  · intro j _; exact hc
theorem ct8 (n : Nat) : fb_ct (fun k => n.testBit k) 64 = fb_ct (fun k => (by_o n 0).testBit k) 8 + fb_ct (fun k => (by_o n 1).testBit k) 8 + fb_ct (fun k => (by_o n 2).testBit k) 8 + fb_ct (fun k => (by_o n 3).testBit k) 8 + fb_ct (fun k => (by_o n 4).testBit k) 8 + fb_ct (fun k => (by_o n 5).testBit k) 8 + fb_ct (fun k => (by_o n 6).testBit k) 8 + fb_ct (fun k => (by_o n 7).testBit k) 8 := by
  have h : ∀ j, fb_ct (fun k => n.testBit k) (8 * j + 8) = fb_ct (fun k => n.testBit k) (8 * j) + fb_ct (fun k => (by_o n j).testBit k) 8 := fun j =>
    (fb_ct_split _ (8 * j) 8).trans (congrArg (fun z => fb_ct (fun k => n.testBit k) (8 * j) + z) (fb_ct_cong (fun k hk => (by_o_bit n j k hk).symm)))
  have h0 := h 0
  have h1 := h 1
  have h2 := h 2
  have h3 := h 3
  have h4 := h 4
  have h5 := h 5
  have h6 := h 6
  have h7 := h 7
  have hz : fb_ct (fun k => n.testBit k) (8 * 0) = 0 := rfl
  simp only [Nat.reduceMul, Nat.reduceAdd] at h0 h1 h2 h3 h4 h5 h6 h7 hz
  omega
theorem toI_and {n : Nat} : (lN n).toInt32 &&& 127 = nI (n % 128) := by
  rw [lN_i]
  have h : (127 : Int32) = nI (2 ^ 7 - 1) := rfl
  rw [h]
  refine b_ext (fun i hi => ?_)
  rw [b_and]
  unfold bt
  rw [show (nI n).toBitVec = BitVec.ofNat 32 n from rfl, show (nI (2 ^ 7 - 1)).toBitVec = BitVec.ofNat 32 (2 ^ 7 - 1) from rfl, show (nI (n % 128)).toBitVec = BitVec.ofNat 32 (n % 128) from rfl]
  rw [BitVec.getLsbD_ofNat, BitVec.getLsbD_ofNat, BitVec.getLsbD_ofNat, Nat.testBit_two_pow_sub_one, show (128 : Nat) = 2 ^ 7 by decide, Nat.testBit_mod_two_pow]
  by_cases q : i < 7 <;> simp [hi, q]
theorem bc_s {n : Nat} (hn : n < 2 ^ 64) : fJ_bitCount (lN n) = nI (fb_ct (fun k => n.testBit k) 64) := by
  have hn8 : n < 256 ^ 8 := by rw [show (256 : Nat) ^ 8 = 2 ^ 64 by decide]; exact hn
  have hv := by_of 8 n hn8
  generalize hA : by_o n = a at hv
  have ha : ∀ j, a j < 256 := fun j => by rw [← hA]; exact by_o_lt n j
  -- step 1
  have s1 : lN n - ((((lN n).toUInt64 >>> ((1 : Int32).toInt64.toUInt64 &&& Int64.toUInt64 63)).toInt64) &&& (6148914691236517205 : Int64)) = lN (by_v (fun j => by_1 (a j)) 8) := by
    rw [show (1 : Int32) = nI 1 from rfl, wb_shr hn (by decide), show (6148914691236517205 : Int64) = lN 6148914691236517205 from rfl, wb_and (by omega) (by decide)]
    have e1 : (6148914691236517205 : Nat) = by_v (fun _ => 0x55) 8 := by rw [by_c]
    have e2 : n / 2 ^ 1 &&& 6148914691236517205 = by_v (fun j => (a j / 2) &&& 0x55) 8 := by
      rw [e1, ← hv]
      exact by_shr_and 1 0x55 (by decide) (by decide) 8 a (fun j _ => ha j) (fun x y hx hy => by simpa using by_t1 ⟨x, hx⟩ ⟨y, hy⟩)
    rw [e2]
    have hle : ∀ j, j < 8 → ((a j / 2) &&& 0x55) ≤ a j := fun j _ => (by_t1l ⟨a j, ha j⟩).1
    have hl := by_le 8 _ a hle
    rw [lN_sub (by rw [← hv]; exact hl)]
    have := by_sub 8 a (fun j => (a j / 2) &&& 0x55) hle
    rw [← hv]
    exact congrArg lN this
  have l1 : ∀ j, by_1 (a j) < 256 := fun j => (by_t1l ⟨a j, ha j⟩).2
  have b1 := by_lt 8 _ (fun j _ => l1 j)
  rw [show (256 : Nat) ^ 8 = 2 ^ 64 by decide] at b1
  -- step 2
  have s2 : (lN (by_v (fun j => by_1 (a j)) 8) &&& (3689348814741910323 : Int64)) + ((((lN (by_v (fun j => by_1 (a j)) 8)).toUInt64 >>> ((2 : Int32).toInt64.toUInt64 &&& Int64.toUInt64 63)).toInt64) &&& (3689348814741910323 : Int64)) = lN (by_v (fun j => by_2 (by_1 (a j))) 8) := by
    rw [show (2 : Int32) = nI 2 from rfl, wb_shr b1 (by decide), show (3689348814741910323 : Int64) = lN 3689348814741910323 from rfl, wb_and b1 (by decide), wb_and (by omega) (by decide)]
    have e1 : (3689348814741910323 : Nat) = by_v (fun _ => 0x33) 8 := by rw [by_c]
    rw [e1, by_and 8 _ _ (fun j _ => l1 j) (fun j _ => by decide), by_shr_and 2 0x33 (by decide) (by decide) 8 _ (fun j _ => l1 j) (fun x y hx hy => by simpa using by_t2 ⟨x, hx⟩ ⟨y, hy⟩), lN_add, by_add]
    rfl
  have l2 : ∀ j, by_2 (by_1 (a j)) < 256 ∧ by_2 (by_1 (a j)) / 16 ≤ 4 ∧ by_2 (by_1 (a j)) % 16 ≤ 4 := fun j => ⟨(by_t2l ⟨_, l1 j⟩).1, (by_t3b ⟨a j, ha j⟩).1, (by_t3b ⟨a j, ha j⟩).2⟩
  have b2 := by_lt 8 _ (fun j _ => (l2 j).1)
  rw [show (256 : Nat) ^ 8 = 2 ^ 64 by decide] at b2
  generalize hB : (fun j => by_2 (by_1 (a j))) = c at s2 b2
  have lc : ∀ j, c j < 256 ∧ c j / 16 ≤ 4 ∧ c j % 16 ≤ 4 := fun j => by rw [← hB]; exact l2 j
  -- step 3
  have hsum : by_v c 8 + by_v c 8 / 2 ^ 4 = by_v (fun j => c j + (c j / 16 + (if j + 1 < 8 then c (j + 1) % 16 * 16 else 0))) 8 := by
    rw [by_shr 4 0 (by decide) 8 c (fun j _ => (lc j).1), by_add]
  have hd : ∀ j, c j + (c j / 16 + (if j + 1 < 8 then c (j + 1) % 16 * 16 else 0)) < 256 := fun j => by
    have h1 := lc j
    have h2 := lc (j + 1)
    by_cases q : j + 1 < 8
    · rw [if_pos q]; omega
    · rw [if_neg q]; omega
  have b3 := by_lt 8 _ (fun j _ => hd j)
  rw [show (256 : Nat) ^ 8 = 2 ^ 64 by decide, ← hsum] at b3
  have s3 : (lN (by_v c 8) + ((lN (by_v c 8)).toUInt64 >>> ((4 : Int32).toInt64.toUInt64 &&& Int64.toUInt64 63)).toInt64) &&& (1085102592571150095 : Int64) = lN (by_v (fun j => by_3 (c j)) 8) := by
    rw [show (4 : Int32) = nI 4 from rfl, wb_shr b2 (by decide), lN_add, show (1085102592571150095 : Int64) = lN 1085102592571150095 from rfl, wb_and b3 (by decide)]
    have e1 : (1085102592571150095 : Nat) = by_v (fun _ => 15) 8 := by rw [by_c]
    rw [e1, hsum, by_and 8 _ _ (fun j _ => hd j) (fun j _ => by decide)]
    refine congrArg lN (by_cong 8 (fun j _ => ?_))
    have h1 := lc j
    have h2 := lc (j + 1)
    show (c j + (c j / 16 + (if j + 1 < 8 then c (j + 1) % 16 * 16 else 0))) &&& 15 = (c j + c j / 16) &&& 15
    by_cases q : j + 1 < 8
    · rw [if_pos q, ← Nat.add_assoc]
      exact by_t4 ⟨c j + c j / 16, by omega⟩ ⟨c (j + 1) % 16, by omega⟩
    · rw [if_neg q, Nat.add_zero]
  have l3 : ∀ j, by_3 (c j) ≤ 15 := fun j => by unfold by_3; exact Nat.and_le_right
  have hct : ∀ j, by_3 (c j) = fb_ct (fun k => (by_o n j).testBit k) 8 := fun j => by
    rw [← hB, hA]
    exact by_t3 ⟨a j, ha j⟩
  have lct : ∀ j, by_3 (c j) ≤ 8 := fun j => by rw [hct j]; exact fb_ct_le _ _
  rw [ct8 n, ← hct 0, ← hct 1, ← hct 2, ← hct 3, ← hct 4, ← hct 5, ← hct 6, ← hct 7]
  unfold fJ_bitCount
  simp only []
  rw [s1, s2, s3]
  have e0 := lct 0
  have e1 := lct 1
  have e2 := lct 2
  have e3 := lct 3
  have e4 := lct 4
  have e5 := lct 5
  have e6 := lct 6
  have e7 := lct 7
  have hY : by_v (fun j => by_3 (c j)) 8 = by_3 (c 0) + 256 * (by_3 (c 1) + 256 * (by_3 (c 2) + 256 * (by_3 (c 3) + 256 * (by_3 (c 4) + 256 * (by_3 (c 5) + 256 * (by_3 (c 6) + 256 * (by_3 (c 7) + 256 * 0))))))) := rfl
  rw [hY]
  generalize by_3 (c 0) = x0 at *
  generalize by_3 (c 1) = x1 at *
  generalize by_3 (c 2) = x2 at *
  generalize by_3 (c 3) = x3 at *
  generalize by_3 (c 4) = x4 at *
  generalize by_3 (c 5) = x5 at *
  generalize by_3 (c 6) = x6 at *
  generalize by_3 (c 7) = x7 at *
  clear hY hct lct l3 s1 s2 s3 b1 b2 b3 hsum hd lc l2 hB l1 ha hA hv hn8 hn
  rw [show (8 : Int32) = nI 8 from rfl, show (16 : Int32) = nI 16 from rfl, show (32 : Int32) = nI 32 from rfl]
  obtain ⟨r7, q7⟩ : ∃ r, r = x7 := ⟨_, rfl⟩
  obtain ⟨r6, q6⟩ : ∃ r, r = x6 + 256 * r7 := ⟨_, rfl⟩
  obtain ⟨r5, q5⟩ : ∃ r, r = x5 + 256 * r6 := ⟨_, rfl⟩
  obtain ⟨r4, q4⟩ : ∃ r, r = x4 + 256 * r5 := ⟨_, rfl⟩
  obtain ⟨r3, q3⟩ : ∃ r, r = x3 + 256 * r4 := ⟨_, rfl⟩
  obtain ⟨r2, q2⟩ : ∃ r, r = x2 + 256 * r3 := ⟨_, rfl⟩
  obtain ⟨r1, q1⟩ : ∃ r, r = x1 + 256 * r2 := ⟨_, rfl⟩
  have hr : x0 + 256 * (x1 + 256 * (x2 + 256 * (x3 + 256 * (x4 + 256 * (x5 + 256 * (x6 + 256 * (x7 + 256 * 0))))))) = x0 + 256 * r1 := by
    omega
  rw [hr]
  have a1 : (x0 + 256 * r1) / 2 ^ 8 = r1 := by omega
  have a2 : (x0 + 256 * r1 + r1) / 2 ^ 16 = r2 + r3 := by omega
  have a3 : (x0 + 256 * r1 + r1 + (r2 + r3)) / 2 ^ 32 = r4 + r5 + (r6 + r7) := by omega
  rw [wb_shr (by omega) (by decide), a1, lN_add, wb_shr (by omega) (by decide), a2, lN_add, wb_shr (by omega) (by decide), a3, lN_add, toI_and]
  refine congrArg nI ?_
  omega
theorem lN_of (x : Int64) : ∃ n, n < 2 ^ 64 ∧ x = lN n := wb_of x
theorem bc_tb (x : Int64) : fJ_bitCount x = nI (fb_ct (tb x) 64) := by
  obtain ⟨n, hn, rfl⟩ := wb_of x
  rw [bc_s hn]
  exact congrArg nI (fb_ct_cong (fun k hk => (tb_lN hk).symm))
