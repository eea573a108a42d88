/-! THE MATHEMATICS: doubles that are not below 0, and their bits. Own text. -/
theorem f_qmin : FP.Core.b64.qmin = -1074 := by decide
theorem f_qmax : FP.Core.b64.qmax = 971 := by decide
theorem f_tails : FP.Core.b64.tails = 4503599627370496 := by decide
theorem f_exps : FP.Core.b64.exps = 2048 := by decide
theorem f_p : FP.Core.b64.p = 53 := rfl
def NZ (c : Nat) : Prop := 4503599627370496 ≤ c ∧ c < 9007199254740992
def QR (q : Int) : Prop := -1000 ≤ q ∧ q ≤ 900
def ddE (c : Nat) (q : Int) : Nat := ((q + 1074).toNat + 1) * 4503599627370496 + (c - 4503599627370496)
def dd (c : Nat) (q : Int) : UInt64 := UInt64.ofNat (ddE c q)
theorem enc_dd {c : Nat} (q : Int) (h : NZ c) : FP.Core.encode FP.Core.b64 (.fin false c q) = ddE c q := by
  have h1 : ¬ c < FP.Core.b64.tails := by rw [f_tails]; unfold NZ at h; omega
  show (if c < FP.Core.b64.tails then _ else _) = _
  rw [if_neg h1]
  unfold FP.Core.assemble ddE
  rw [f_tails, f_exps, f_qmin]
  show (0 * 2048 + ((q - -1074).toNat + 1)) * 4503599627370496 + (c - 4503599627370496) = _
  rw [Nat.zero_mul, Nat.zero_add, show q - -1074 = q + 1074 by omega]
theorem ddE_lt {c : Nat} {q : Int} (h : NZ c) (hq : QR q) : ddE c q < 9218868437227405312 := by
  unfold ddE
  unfold NZ at h
  unfold QR at hq
  omega
theorem dd_nat {c : Nat} {q : Int} (h : NZ c) (hq : QR q) : (dd c q).toNat = ddE c q := u_tn (by have := ddE_lt h hq; omega)
theorem dec_dd {c : Nat} {q : Int} (h : NZ c) (hq : QR q) : FP.Core.decode FP.Core.b64 (ddE c q) = .fin false c q := by
  unfold NZ at h
  unfold QR at hq
  obtain ⟨E, hE⟩ : ∃ E, E = (q + 1074).toNat + 1 := ⟨_, rfl⟩
  have hE2 : (E : Int) = q + 1075 := by omega
  obtain ⟨t, ht⟩ : ∃ t, t = c - 4503599627370496 := ⟨_, rfl⟩
  have e0 : ddE c q = E * 4503599627370496 + t := by unfold ddE; rw [hE, ht]
  have e1 : FP.Core.fieldE FP.Core.b64 (ddE c q) = E := by
    unfold FP.Core.fieldE
    rw [f_tails, f_exps, e0]
    omega
  have e2 : FP.Core.fieldT FP.Core.b64 (ddE c q) = t := by
    unfold FP.Core.fieldT
    rw [f_tails, e0]
    omega
  have e3 : FP.Core.fieldS FP.Core.b64 (ddE c q) = false := by
    unfold FP.Core.fieldS
    rw [f_tails, f_exps, e0]
    have : (E * 4503599627370496 + t) / 4503599627370496 / 2048 % 2 = 0 := by omega
    rw [this]
    rfl
  unfold FP.Core.decode
  rw [e1, e2, e3, f_exps, f_tails, f_qmin, if_neg (by omega), if_neg (by omega)]
  have a1 : 4503599627370496 + t = c := by omega
  have a2 : (-1074 : Int) + ((E : Int) - 1) = q := by omega
  rw [a1, a2]
theorem val_dd {c : Nat} {q : Int} (h : NZ c) (hq : QR q) : FP.Core.decode FP.Core.b64 (dd c q).toNat = .fin false c q := by rw [dd_nat h hq, dec_dd h hq]
theorem nn_dd {c : Nat} {q : Int} (h : NZ c) (hq : QR q) : o_nn (dd c q) = some (dd c q) := by
  unfold o_nn
  rw [if_pos]
  rw [UInt64.le_iff_toNat_le, UInt64.toNat_and]
  refine Nat.le_trans Nat.and_le_left ?_
  rw [dd_nat h hq]
  have := ddE_lt h hq
  show _ ≤ 9218868437227405312
  omega
theorem nn_0 : o_nn (0 : UInt64) = some 0 := by decide
theorem near_mul (M : Nat) {B : Nat} (h : 0 < B) : FP.Core.nearest (M * B) B = M := by
  unfold FP.Core.nearest
  rw [Nat.mul_mod_left, Nat.mul_zero, if_pos h, Nat.mul_div_cancel _ h]
theorem near_1 (M : Nat) : FP.Core.nearest M 1 = M := by
  have := near_mul M (B := 1) (by decide)
  rw [Nat.mul_one] at this
  exact this
theorem settle_n {c : Nat} {q : Int} (h : c < 9007199254740992) (hq : q ≤ 900) : FP.Core.settle FP.Core.b64 false c q = .fin false c q := by
  unfold FP.Core.settle FP.Core.bound
  rw [f_p, f_qmax, if_pos (show c < 2 ^ 53 by omega), if_pos (by omega)]
theorem lg_52 {c : Nat} (h : NZ c) : c.log2 = 52 := (Nat.log2_eq_iff (by unfold NZ at h; omega)).mpr (by unfold NZ at h; constructor <;> omega)
/-- g times a power of two, exactly -/
theorem rr1 {g a : Nat} {b : Int} (hg : 0 < g) (hg2 : g < 9007199254740992) (hb : -900 ≤ b ∧ b ≤ 800) : FP.Core.roundRatio FP.Core.b64 false (g * 2 ^ a) 1 (b - a) = .fin false (g * 2 ^ (52 - g.log2)) ((g.log2 : Int) - 52 + b) := by
  have h0 : g ≠ 0 := by omega
  obtain ⟨h1, h2⟩ := (Nat.log2_eq_iff h0).mp rfl
  have h3 : g.log2 < 53 := (Nat.log2_lt h0).mpr (by omega)
  generalize g.log2 = lg at h1 h2 h3
  have hA0 : g * 2 ^ a ≠ 0 := Nat.mul_ne_zero h0 (Nat.ne_of_gt (Nat.pow_pos (by decide)))
  have hA : (g * 2 ^ a).log2 = lg + a := (Nat.log2_eq_iff hA0).mpr ⟨by rw [Nat.pow_add]; exact Nat.mul_le_mul_right _ h1, by
    rw [show lg + a + 1 = (lg + 1) + a by omega, Nat.pow_add]
    exact Nat.mul_lt_mul_of_pos_right h2 (Nat.pow_pos (by decide))⟩
  have hlead : FP.Core.leading (g * 2 ^ a) 1 = (lg : Int) + a := by
    unfold FP.Core.leading
    have e1 : Nat.log2 1 = 0 := by decide
    have e2 : ((((lg + a : Nat) : Int)) - ((0 : Nat) : Int)) = (lg : Int) + a := by omega
    simp only [hA, e1, e2]
    have e3 : ((lg : Int) + a).toNat = lg + a := by omega
    have e4 : (-((lg : Int) + a)).toNat = 0 := by omega
    rw [e3, e4, if_pos]
    rw [Nat.one_mul, Nat.pow_zero, Nat.mul_one, Nat.pow_add]
    exact Nat.mul_le_mul_right _ h1
  have hq : FP.Core.quantum FP.Core.b64 (g * 2 ^ a) 1 (b - a) = (lg : Int) - 52 + b := by
    unfold FP.Core.quantum
    rw [hlead, f_qmin, f_p]
    omega
  have hn : FP.Core.nearest (FP.Core.unitsNum (g * 2 ^ a) (b - a) ((lg : Int) - 52 + b)) (FP.Core.unitsDen 1 (b - a) ((lg : Int) - 52 + b)) = g * 2 ^ (52 - lg) := by
    unfold FP.Core.unitsNum FP.Core.unitsDen
    by_cases q : a + lg ≤ 52
    · have e1 : ((b - (a : Int)) - ((lg : Int) - 52 + b)).toNat = 52 - a - lg := by omega
      have e2 : (((lg : Int) - 52 + b) - (b - (a : Int))).toNat = 0 := by omega
      rw [e1, e2, Nat.pow_zero, Nat.mul_one, near_1, Nat.mul_assoc, ← Nat.pow_add]
      congr 2
      omega
    · have e1 : ((b - (a : Int)) - ((lg : Int) - 52 + b)).toNat = 0 := by omega
      have e2 : (((lg : Int) - 52 + b) - (b - (a : Int))).toNat = a + lg - 52 := by omega
      rw [e1, e2, Nat.pow_zero, Nat.mul_one, Nat.one_mul]
      have e3 : g * 2 ^ a = (g * 2 ^ (52 - lg)) * 2 ^ (a + lg - 52) := by
        rw [Nat.mul_assoc, ← Nat.pow_add]
        congr 2
        omega
      rw [e3]
      exact near_mul _ (Nat.pow_pos (by decide))
  have hc : g * 2 ^ (52 - lg) < 9007199254740992 := by
    have h4 : g * 2 ^ (52 - lg) < 2 ^ (lg + 1) * 2 ^ (52 - lg) := Nat.mul_lt_mul_of_pos_right h2 (Nat.pow_pos (by decide))
    rw [← Nat.pow_add, show lg + 1 + (52 - lg) = 53 by omega] at h4
    omega
  unfold FP.Core.roundRatio
  rw [if_neg hA0]
  unfold FP.Core.roundAt
  rw [hq, hn]
  exact settle_n hc (by omega)
def dv (g : Nat) (b : Int) : UInt64 := dd (g * 2 ^ (52 - g.log2)) ((g.log2 : Int) - 52 + b)
theorem nz_dv {g : Nat} (hg : 0 < g) (hg2 : g < 9007199254740992) : NZ (g * 2 ^ (52 - g.log2)) ∧ g.log2 < 53 := by
  have h0 : g ≠ 0 := by omega
  obtain ⟨h1, h2⟩ := (Nat.log2_eq_iff h0).mp rfl
  have h3 : g.log2 < 53 := (Nat.log2_lt h0).mpr (by omega)
  generalize g.log2 = lg at h1 h2 h3
  have h4 : g * 2 ^ (52 - lg) < 2 ^ (lg + 1) * 2 ^ (52 - lg) := Nat.mul_lt_mul_of_pos_right h2 (Nat.pow_pos (by decide))
  have h5 : 2 ^ lg * 2 ^ (52 - lg) ≤ g * 2 ^ (52 - lg) := Nat.mul_le_mul_right _ h1
  rw [← Nat.pow_add, show lg + 1 + (52 - lg) = 53 by omega] at h4
  rw [← Nat.pow_add, show lg + (52 - lg) = 52 by omega] at h5
  unfold NZ
  refine ⟨⟨by omega, by omega⟩, h3⟩
theorem rr_dv {g a : Nat} {b : Int} (hg : 0 < g) (hg2 : g < 9007199254740992) (hb : -900 ≤ b ∧ b ≤ 800) : UInt64.ofNat (FP.Core.encode FP.Core.b64 (FP.Core.roundRatio FP.Core.b64 false (g * 2 ^ a) 1 (b - a))) = dv g b := by
  rw [rr1 hg hg2 hb, enc_dd _ (nz_dv hg hg2).1]
  rfl
theorem dv_dd {c : Nat} (h : NZ c) (b : Int) : dv c b = dd c b := by
  unfold dv
  rw [lg_52 h, Nat.sub_self, Nat.pow_zero, Nat.mul_one]
  congr 1
  omega
theorem dv_2 {g : Nat} (hg : 0 < g) (hg2 : g < 4503599627370496) (b : Int) : dv (2 * g) b = dv g (b + 1) := by
  have h0 : g ≠ 0 := by omega
  obtain ⟨h1, h2⟩ := (Nat.log2_eq_iff h0).mp rfl
  have h3 : g.log2 < 52 := (Nat.log2_lt h0).mpr (by omega)
  have h4 : (2 * g).log2 = g.log2 + 1 := (Nat.log2_eq_iff (by omega)).mpr ⟨by rw [Nat.pow_succ]; omega, by rw [Nat.pow_succ]; omega⟩
  unfold dv
  rw [h4]
  generalize g.log2 = lg at h3
  have e1 : 2 * g * 2 ^ (52 - (lg + 1)) = g * 2 ^ (52 - lg) := by
    rw [show 52 - lg = (52 - (lg + 1)) + 1 by omega, Nat.pow_succ, Nat.mul_comm 2 g, Nat.mul_assoc, Nat.mul_comm 2]
  rw [e1]
  congr 1
  omega
/-! the operations -/
theorem dec_2 : FP.Core.decode FP.Core.b64 (0x4000000000000000 : UInt64).toNat = .fin false 4503599627370496 (-51) := by decide +kernel
theorem dec_1 : FP.Core.decode FP.Core.b64 FP.dconst1.toNat = .fin false 4503599627370496 (-52) := by decide +kernel
theorem dec_0 : FP.Core.decode FP.Core.b64 (0 : UInt64).toNat = .fin false 0 (-1074) := by decide +kernel
theorem dec_c0 : FP.Core.decode FP.Core.b64 FP.dconst0.toNat = .fin false 0 (-1074) := by decide +kernel
theorem dec_p : FP.Core.decode FP.Core.b64 (0x4330000000000000 : UInt64).toNat = .fin false 4503599627370496 0 := by decide +kernel
theorem mul_dd {c : Nat} {q r : Int} (h : NZ c) (hq : QR q) {y : UInt64} (hy : FP.Core.decode FP.Core.b64 y.toNat = .fin false 4503599627370496 r) (hr : -800 ≤ q + r ∧ q + r ≤ 700) : FP.dmul (dd c q) y = dd c (q + r + 52) := by
  show UInt64.ofNat (FP.Core.encode FP.Core.b64 (FP.Core.round FP.Core.b64 (FP.Core.exactProduct (FP.Core.decode FP.Core.b64 (dd c q).toNat) (FP.Core.decode FP.Core.b64 y.toNat)))) = _
  rw [val_dd h hq, hy]
  show UInt64.ofNat (FP.Core.encode FP.Core.b64 (FP.Core.roundRatio FP.Core.b64 false (c * 4503599627370496) 1 (q + r))) = _
  have e1 : (c * 4503599627370496) = c * 2 ^ 52 := rfl
  have e2 : q + r = (q + r + 52) - ((52 : Nat) : Int) := by omega
  rw [e1]
  conv => lhs; rw [e2]
  unfold NZ at h
  rw [rr_dv (by omega) (by omega) ⟨by omega, by omega⟩]
  exact dv_dd h _
theorem quo_e {c d : Nat} {q r : Int} (h : d ≠ 0) : FP.Core.quotient FP.Core.b64 (.fin false c q) (.fin false d r) = FP.Core.roundRatio FP.Core.b64 false c d (q - r) := by
  show (if d = 0 then (if c = 0 then FP.Core.Datum.nan else FP.Core.Datum.inf (false != false)) else FP.Core.roundRatio FP.Core.b64 (false != false) c d (q - r)) = _
  rw [if_neg h]
  rfl
theorem rr_0 (B : Nat) (e : Int) : UInt64.ofNat (FP.Core.encode FP.Core.b64 (FP.Core.roundRatio FP.Core.b64 false 0 B e)) = 0 := by
  unfold FP.Core.roundRatio
  rw [if_pos rfl]
  decide +kernel
theorem div_dd {c : Nat} {q : Int} (h : NZ c) (hq : QR q) (hq2 : -900 ≤ q) : FP.ddiv (dd c q) (0x4000000000000000 : UInt64) = dd c (q - 1) := by
  show UInt64.ofNat (FP.Core.encode FP.Core.b64 (FP.Core.quotient FP.Core.b64 (FP.Core.decode FP.Core.b64 (dd c q).toNat) (FP.Core.decode FP.Core.b64 (0x4000000000000000 : UInt64).toNat))) = _
  rw [val_dd h hq, dec_2]
  rw [quo_e (by decide)]
  have hc0 : c ≠ 0 := by unfold NZ at h; omega
  have hlead : FP.Core.leading c 4503599627370496 = 0 := by
    unfold FP.Core.leading
    have e1 : Nat.log2 4503599627370496 = 52 := by decide +kernel
    simp only [lg_52 h, e1]
    unfold NZ at h
    simp
    omega
  have hqu : FP.Core.quantum FP.Core.b64 c 4503599627370496 (q - -51) = q - 1 := by
    unfold FP.Core.quantum
    rw [hlead, f_qmin, f_p]
    omega
  have hn : FP.Core.nearest (FP.Core.unitsNum c (q - -51) (q - 1)) (FP.Core.unitsDen 4503599627370496 (q - -51) (q - 1)) = c := by
    unfold FP.Core.unitsNum FP.Core.unitsDen
    have e1 : ((q - -51) - (q - 1)).toNat = 52 := by omega
    have e2 : ((q - 1) - (q - -51)).toNat = 0 := by omega
    rw [e1, e2]
    exact near_mul c (by decide)
  unfold FP.Core.roundRatio
  rw [if_neg hc0]
  unfold FP.Core.roundAt
  unfold QR at hq
  rw [hqu, hn, settle_n h.2 (by omega), enc_dd _ h]
  rfl
theorem cmp_dd {c d : Nat} {q r : Int} (h : NZ c) (hq : QR q) {y : UInt64} (hy : FP.Core.decode FP.Core.b64 y.toNat = .fin false d r) : FP.dcmp (dd c q) y = some (compare ((c * 2 ^ (q - min q r).toNat : Nat) : Int) ((d * 2 ^ (r - min q r).toNat : Nat) : Int)) := by
  show FP.Core.order (FP.Core.decode FP.Core.b64 (dd c q).toNat) (FP.Core.decode FP.Core.b64 y.toNat) = _
  rw [val_dd h hq, hy]
  rfl
theorem cmpI_lt {a b : Nat} (h : a < b) : compare (a : Int) (b : Int) = .lt := by
  rw [Int.compare_eq_lt]
  omega
theorem cmpI_eq {a b : Nat} (h : a = b) : compare (a : Int) (b : Int) = .eq := by
  rw [Int.compare_eq_eq]
  omega
theorem cmpI_gt {a b : Nat} (h : b < a) : compare (a : Int) (b : Int) = .gt := by
  rw [Int.compare_eq_gt]
  omega
theorem cv_lt (op : CmpOp) : Op.cmpValue (some .lt) op = -1 := rfl
theorem cv_eq (op : CmpOp) : Op.cmpValue (some .eq) op = 0 := rfl
theorem cv_gt (op : CmpOp) : Op.cmpValue (some .gt) op = 1 := rfl
/-- against 2 and against 1 -/
theorem cmp_pow {c : Nat} {q : Int} (h : NZ c) (hq : QR q) {y : UInt64} {r : Int} (hy : FP.Core.decode FP.Core.b64 y.toNat = .fin false 4503599627370496 r) (op : CmpOp) : (q < r → Op.cmpValue (FP.dcmp (dd c q) y) op = -1) ∧ (r ≤ q → Op.cmpValue (FP.dcmp (dd c q) y) op = 0 ∨ Op.cmpValue (FP.dcmp (dd c q) y) op = 1) := by
  rw [cmp_dd h hq hy]
  unfold NZ at h
  constructor
  · intro hlt
    have e1 : min q r = q := by omega
    obtain ⟨k, hk⟩ : ∃ k, (r - q).toNat = k + 1 := ⟨(r - q).toNat - 1, by omega⟩
    rw [e1, Int.sub_self, hk, cmpI_lt]
    · rfl
    · have : 1 ≤ 2 ^ k := Nat.pow_pos (by decide)
      rw [Nat.pow_succ]
      show c * 2 ^ 0 < _
      omega
  · intro hle
    have e1 : min q r = r := by omega
    rw [e1, Int.sub_self]
    have h2 : 4503599627370496 * 2 ^ (0 : Int).toNat ≤ c * 2 ^ (q - r).toNat := by
      have : 1 ≤ 2 ^ (q - r).toNat := Nat.pow_pos (by decide)
      have h3 : c * 1 ≤ c * 2 ^ (q - r).toNat := Nat.mul_le_mul_left _ this
      show 4503599627370496 * 2 ^ 0 ≤ _
      omega
    rcases Nat.eq_or_lt_of_le h2 with h3 | h3
    · rw [cmpI_eq h3.symm]
      exact Or.inl rfl
    · rw [cmpI_gt h3]
      exact Or.inr rfl
/-- what is left after 1 is taken away -/
def dz (g : Nat) : UInt64 := if g = 0 then 0 else dv g (-52)
theorem nn_dz {g : Nat} (hg2 : g < 9007199254740992) : o_nn (dz g) = some (dz g) := by
  unfold dz
  by_cases q : g = 0
  · rw [if_pos q]; exact nn_0
  · rw [if_neg q]
    obtain ⟨h1, h2⟩ := nz_dv (by omega : 0 < g) hg2
    exact nn_dd h1 (by unfold QR; omega)
theorem sub_1 {c k : Nat} {q : Int} (h : NZ c) (hq : QR q) (hk : q = -52 - (k : Int)) {g : Nat} (hg : g < 9007199254740992) (hc : c = (4503599627370496 + g) * 2 ^ k) : FP.dsub (dd c q) FP.dconst1 = dz g := by
  show UInt64.ofNat (FP.Core.encode FP.Core.b64 (FP.Core.round FP.Core.b64 (FP.Core.exactSum (FP.Core.decode FP.Core.b64 (dd c q).toNat) (FP.Core.negate (FP.Core.decode FP.Core.b64 FP.dconst1.toNat))))) = _
  rw [val_dd h hq, dec_1]
  have e1 : min q (-52) = q := by omega
  have e2 : ((-52 : Int) - q).toNat = k := by omega
  have eu : FP.Core.sumUnits false c q true 4503599627370496 (-52) (min q (-52)) = ((g * 2 ^ k : Nat) : Int) := by
    unfold FP.Core.sumUnits FP.Core.inUnits
    rw [e1, Int.sub_self, e2]
    show ((c * 2 ^ 0 : Nat) : Int) + -((4503599627370496 * 2 ^ k : Nat) : Int) = _
    rw [Nat.pow_zero, Nat.mul_one, hc, Nat.add_mul]
    omega
  show UInt64.ofNat (FP.Core.encode FP.Core.b64 (FP.Core.roundRatio FP.Core.b64 (FP.Core.sumSign false true (FP.Core.sumUnits false c q true 4503599627370496 (-52) (min q (-52)))) (FP.Core.sumUnits false c q true 4503599627370496 (-52) (min q (-52))).natAbs 1 (min q (-52)))) = _
  rw [eu, e1]
  have es : FP.Core.sumSign false true ((g * 2 ^ k : Nat) : Int) = false := by
    unfold FP.Core.sumSign
    split
    · rfl
    · exact decide_eq_false (by omega)
  rw [es, Int.natAbs_natCast]
  unfold dz
  by_cases qg : g = 0
  · subst qg
    rw [if_pos rfl, Nat.zero_mul]
    exact rr_0 1 q
  · rw [if_neg qg, hk]
    exact rr_dv (by omega) hg ⟨by omega, by omega⟩
theorem sub_0 {c : Nat} {q : Int} (h : NZ c) (hq : QR q) (hq2 : -900 ≤ q ∧ q ≤ 800) : FP.dsub (dd c q) (0 : UInt64) = dd c q := by
  show UInt64.ofNat (FP.Core.encode FP.Core.b64 (FP.Core.round FP.Core.b64 (FP.Core.exactSum (FP.Core.decode FP.Core.b64 (dd c q).toNat) (FP.Core.negate (FP.Core.decode FP.Core.b64 (0 : UInt64).toNat))))) = _
  rw [val_dd h hq, dec_0]
  have e1 : min q (-1074) = -1074 := by omega
  have e2 : (q - -1074).toNat = (q + 1074).toNat := by congr 1
  have eu : FP.Core.sumUnits false c q true 0 (-1074) (min q (-1074)) = ((c * 2 ^ (q + 1074).toNat : Nat) : Int) := by
    unfold FP.Core.sumUnits FP.Core.inUnits
    rw [e1, e2, Nat.zero_mul]
    show ((c * 2 ^ (q + 1074).toNat : Nat) : Int) + -((0 : Nat) : Int) = _
    omega
  show UInt64.ofNat (FP.Core.encode FP.Core.b64 (FP.Core.roundRatio FP.Core.b64 (FP.Core.sumSign false true (FP.Core.sumUnits false c q true 0 (-1074) (min q (-1074)))) (FP.Core.sumUnits false c q true 0 (-1074) (min q (-1074))).natAbs 1 (min q (-1074)))) = _
  rw [eu, e1]
  have hpos : 0 < c * 2 ^ (q + 1074).toNat := Nat.mul_pos (by unfold NZ at h; omega) (Nat.pow_pos (by decide))
  have es : FP.Core.sumSign false true ((c * 2 ^ (q + 1074).toNat : Nat) : Int) = false := by
    unfold FP.Core.sumSign
    split
    · rfl
    · exact decide_eq_false (by omega)
  rw [es, Int.natAbs_natCast]
  have e3 : (-1074 : Int) = q - (((q + 1074).toNat : Nat) : Int) := by omega
  conv => lhs; rw [e3]
  have hN := h
  unfold NZ at hN
  rw [rr_dv (by omega) (by omega) hq2]
  exact dv_dd h _
theorem sub_00 : FP.dsub (0 : UInt64) (0 : UInt64) = 0 := by decide +kernel
theorem mul_0 : FP.dmul (0 : UInt64) (0x4000000000000000 : UInt64) = 0 := by decide +kernel
theorem mul_0p : FP.dmul (0 : UInt64) (0x4330000000000000 : UInt64) = 0 := by decide +kernel
theorem cmp_01 (op : CmpOp) : Op.cmpValue (FP.dcmp (0 : UInt64) FP.dconst1) op = -1 := by cases op <;> decide +kernel
theorem l2d_0 : FP.l2d (0 : Int64) = 0 := by decide +kernel
theorem l2d_1 : FP.l2d (1 : Int64) = FP.dconst1 := by decide +kernel
theorem d2l_0 : FP.d2l (0 : UInt64) = 0 := by decide +kernel
theorem d2l_dv {g : Nat} (hg : 0 < g) (hg2 : g < 4503599627370496) : FP.d2l (dv g 0) = lN g := by
  obtain ⟨h1, h2⟩ := nz_dv hg (by omega)
  show FP.Core.toL (FP.Core.decode FP.Core.b64 (dd _ _).toNat) = _
  rw [val_dd h1 (by unfold QR; omega)]
  show Int64.ofInt (max (-2 ^ 63) (min (2 ^ 63 - 1) (FP.Core.truncate false (g * 2 ^ (52 - g.log2)) ((g.log2 : Int) - 52 + 0)))) = _
  have e1 : FP.Core.truncate false (g * 2 ^ (52 - g.log2)) ((g.log2 : Int) - 52 + 0) = (g : Int) := by
    unfold FP.Core.truncate
    have a1 : ((g.log2 : Int) - 52 + 0).toNat = 0 := by omega
    have a2 : (-((g.log2 : Int) - 52 + 0)).toNat = 52 - g.log2 := by omega
    rw [a1, a2, Nat.pow_zero, Nat.mul_one, Nat.mul_div_cancel _ (Nat.pow_pos (by decide))]
    rfl
  rw [e1]
  have e2 : max (-2 ^ 63) (min (2 ^ 63 - 1) (g : Int)) = (g : Int) := by omega
  rw [e2]
  rfl
/-! the bits, told in two ways -/
theorem b52_end {u f g : Nat} (hg : g < 4503599627370496) (hu : u * 4503599627370496 + g = f * 2 ^ 52) : u = f := by
  have e : f * 2 ^ 52 = f * 4503599627370496 := rfl
  rw [e] at hu
  omega
theorem b52_step {u g f o g' P : Nat} (hu : u * 4503599627370496 + g = f * P) (h2 : 2 * g = o * 4503599627370496 + g') : (2 * u + o) * 4503599627370496 + g' = f * (P * 2) := by
  rw [← Nat.mul_assoc, ← hu, Nat.add_mul, Nat.mul_assoc, Nat.add_assoc, ← h2]
  generalize u * 4503599627370496 = X
  omega
/-- a double as a mean may be -/
def MN (x : UInt64) : Prop := x = 0 ∨ ∃ c q, NZ c ∧ -150 ≤ q ∧ q ≤ 100 ∧ x = dd c q
theorem i1023 : (1023 : Int64) = lN 1023 := rfl
theorem i1023' : (1023 : Int32) = nI 1023 := rfl
theorem pick_f {f : Nat} (hf2 : f < 4503599627370496) : ∃ w, o_nn (FP.dmul (dz f) (0x4330000000000000 : UInt64)) = some w ∧ FP.d2l w = lN f := by
  by_cases q0 : f = 0
  · rw [q0]
    exact ⟨0, by rw [show dz 0 = 0 from rfl, mul_0p]; exact nn_0, d2l_0⟩
  · obtain ⟨n1, n2⟩ := nz_dv (show 0 < f by omega) (by omega)
    have hlg : f.log2 < 52 := (Nat.log2_lt q0).mpr (by omega)
    refine ⟨dv f 0, ?_, d2l_dv (by omega) hf2⟩
    have : FP.dmul (dz f) (0x4330000000000000 : UInt64) = dv f 0 := by
      unfold dz
      rw [if_neg q0]
      have := mul_dd n1 (show QR ((f.log2 : Int) - 52 + -52) by unfold QR; omega) dec_p (by omega)
      rw [show (f.log2 : Int) - 52 + -52 + 0 + 52 = (f.log2 : Int) - 52 + 0 by omega] at this
      exact this
    rw [this]
    exact nn_dd n1 (by unfold QR; omega)
theorem cmp_c0 {c : Nat} {q : Int} (h : NZ c) (hQ : QR q) : Op.cmpValue (FP.dcmp (dd c q) FP.dconst0) .l = 1 := by
  rw [cmp_dd h hQ dec_c0, Nat.zero_mul, cmpI_gt]
  · rfl
  · exact Nat.mul_pos (by unfold NZ at h; omega) (Nat.pow_pos (by decide))
theorem sub_c {c f : Nat} (h : NZ c) (hf : c = 4503599627370496 + f) (hf2 : f < 4503599627370496) : o_nn (FP.dsub (dd c (-52)) FP.dconst1) = some (dz f) := by
  have hQ5 : QR (-52) := by unfold QR; omega
  rw [sub_1 (k := 0) (g := f) h hQ5 (by decide) (by omega) (by rw [hf, Nat.pow_zero, Nat.mul_one])]
  exact nn_dz (g := f) (by omega)
/-- the mean of so many by so many -/
theorem mean_s {m n : Nat} (hm : m < 1024) (hn0 : 0 < n) (hn : n < 64) : ∃ x, o_nn (FP.ddiv (FP.i2d (nI m)) (FP.i2d (nI n))) = some x ∧ MN x := by
  have hi : ∀ k, 0 < k → k < 1024 → FP.i2d (nI k) = dv k 0 := fun k hk hk2 => by
    show UInt64.ofNat (FP.Core.encode FP.Core.b64 (FP.Core.roundRatio FP.Core.b64 (decide ((nI k).toInt < 0)) (nI k).toInt.natAbs 1 0)) = _
    rw [nI_toInt (by omega), decide_eq_false (by omega), Int.natAbs_natCast]
    have := rr_dv (g := k) (a := 0) (b := 0) hk (by omega) ⟨by decide, by decide⟩
    rw [Nat.pow_zero, Nat.mul_one] at this
    exact this
  by_cases q : m = 0
  · subst q
    have e0 : FP.i2d (nI 0) = 0 := by decide +kernel
    obtain ⟨n1, n2⟩ := nz_dv hn0 (by omega)
    have e1 : FP.ddiv (0 : UInt64) (dv n 0) = 0 := by
      show UInt64.ofNat (FP.Core.encode FP.Core.b64 (FP.Core.quotient FP.Core.b64 (FP.Core.decode FP.Core.b64 (0 : UInt64).toNat) (FP.Core.decode FP.Core.b64 (dv n 0).toNat))) = _
      unfold dv
      rw [dec_0, val_dd n1 (by unfold QR; omega)]
      rw [quo_e (by unfold NZ at n1; omega)]
      exact rr_0 _ _
    refine ⟨0, ?_, Or.inl rfl⟩
    rw [e0, hi n hn0 (by omega), e1]
    exact nn_0
  · have hm0 : 0 < m := by omega
    obtain ⟨a1, a2⟩ := nz_dv hm0 (by omega)
    obtain ⟨b1, b2⟩ := nz_dv hn0 (by omega)
    have lm : m.log2 < 10 := (Nat.log2_lt (by omega)).mpr (by omega)
    have ln : n.log2 < 10 := (Nat.log2_lt (by omega)).mpr (by omega)
    rw [hi m hm0 hm, hi n hn0 (by omega)]
    have hdiv : ∃ c q, NZ c ∧ -150 ≤ q ∧ q ≤ 100 ∧ FP.ddiv (dv m 0) (dv n 0) = dd c q := by
      unfold dv
      generalize m * 2 ^ (52 - m.log2) = A at a1
      generalize n * 2 ^ (52 - n.log2) = B at b1
      have hA := val_dd a1 (show QR ((m.log2 : Int) - 52 + 0) by unfold QR; omega)
      have hB := val_dd b1 (show QR ((n.log2 : Int) - 52 + 0) by unfold QR; omega)
      have e1 : FP.ddiv (dd A ((m.log2 : Int) - 52 + 0)) (dd B ((n.log2 : Int) - 52 + 0)) = UInt64.ofNat (FP.Core.encode FP.Core.b64 (FP.Core.roundRatio FP.Core.b64 false A B ((m.log2 : Int) - 52 + 0 - ((n.log2 : Int) - 52 + 0)))) := by
        show UInt64.ofNat (FP.Core.encode FP.Core.b64 (FP.Core.quotient FP.Core.b64 (FP.Core.decode FP.Core.b64 (dd A _).toNat) (FP.Core.decode FP.Core.b64 (dd B _).toNat))) = _
        rw [hA, hB]
        rw [quo_e (by unfold NZ at b1; omega)]
      rw [e1]
      generalize he : (m.log2 : Int) - 52 + 0 - ((n.log2 : Int) - 52 + 0) = e
      have he2 : -10 ≤ e ∧ e ≤ 10 := by omega
      have hlead : FP.Core.leading A B = 0 ∧ B ≤ A ∨ FP.Core.leading A B = -1 ∧ A < B := by
        unfold FP.Core.leading
        simp only [lg_52 a1, lg_52 b1]
        by_cases q2 : B ≤ A
        · left
          refine ⟨?_, q2⟩
          simp
          omega
        · right
          refine ⟨?_, by omega⟩
          simp
          omega
      have hfin : ∀ (c : Nat) (q : Int), 4503599627370496 ≤ c → c ≤ 9007199254740992 → -100 ≤ q → q ≤ 50 → ∃ c' q', NZ c' ∧ -150 ≤ q' ∧ q' ≤ 100 ∧ FP.Core.settle FP.Core.b64 false c q = .fin false c' q' := fun c q h1 h2 h3 h4 => by
        by_cases q3 : c < 9007199254740992
        · exact ⟨c, q, ⟨h1, q3⟩, by omega, by omega, settle_n q3 (by omega)⟩
        · refine ⟨4503599627370496, q + 1, ⟨Nat.le_refl _, by decide⟩, by omega, by omega, ?_⟩
          unfold FP.Core.settle FP.Core.bound
          rw [f_p, f_qmax, f_tails, if_neg (show ¬ c < 2 ^ 53 by omega), if_pos (by omega)]
      have hnear : ∀ (num den : Nat), 0 < den → 4503599627370496 * den ≤ num → num < 9007199254740992 * den → 4503599627370496 ≤ FP.Core.nearest num den ∧ FP.Core.nearest num den ≤ 9007199254740992 := fun num den h0 h1 h2 => by
        have d1 : 4503599627370496 ≤ num / den := (Nat.le_div_iff_mul_le h0).mpr h1
        have d2 : num / den < 9007199254740992 := (Nat.div_lt_iff_lt_mul h0).mpr h2
        unfold FP.Core.nearest
        split
        · omega
        · split <;> omega
      have hA0 : A ≠ 0 := by unfold NZ at a1; omega
      have hround : ∃ c' q', NZ c' ∧ -150 ≤ q' ∧ q' ≤ 100 ∧ FP.Core.roundRatio FP.Core.b64 false A B e = .fin false c' q' := by
        unfold FP.Core.roundRatio
        rw [if_neg hA0]
        unfold FP.Core.roundAt FP.Core.quantum
        rcases hlead with ⟨hl, hc⟩ | ⟨hl, hc⟩
        · rw [hl, f_qmin, f_p]
          have e2 : max (-1074 : Int) (0 + e - (((53 : Nat) : Int) - 1)) = e - 52 := by omega
          rw [e2]
          unfold FP.Core.unitsNum FP.Core.unitsDen
          have e3 : (e - (e - 52)).toNat = 52 := by omega
          have e4 : (e - 52 - e).toNat = 0 := by omega
          rw [e3, e4, Nat.pow_zero, Nat.mul_one]
          unfold NZ at a1 b1
          obtain ⟨g1, g2⟩ := hnear (A * 2 ^ 52) B (by omega) (by omega) (by omega)
          exact hfin _ _ g1 g2 (by omega) (by omega)
        · rw [hl, f_qmin, f_p]
          have e2 : max (-1074 : Int) (-1 + e - (((53 : Nat) : Int) - 1)) = e - 53 := by omega
          rw [e2]
          unfold FP.Core.unitsNum FP.Core.unitsDen
          have e3 : (e - (e - 53)).toNat = 53 := by omega
          have e4 : (e - 53 - e).toNat = 0 := by omega
          rw [e3, e4, Nat.pow_zero, Nat.mul_one]
          unfold NZ at a1 b1
          obtain ⟨g1, g2⟩ := hnear (A * 2 ^ 53) B (by omega) (by omega) (by omega)
          exact hfin _ _ g1 g2 (by omega) (by omega)
      obtain ⟨c', q', h1, h2, h3, h4⟩ := hround
      refine ⟨c', q', h1, h2, h3, ?_⟩
      rw [h4, enc_dd _ h1]
      rfl
    obtain ⟨c, q', h1, h2, h3, h4⟩ := hdiv
    exact ⟨dd c q', by rw [h4]; exact nn_dd h1 (by unfold QR; omega), Or.inr ⟨c, q', h1, h2, h3, rfl⟩⟩
