/-! THE MATHEMATICS: how large a field is, how many there are, sums. Own text. -/
def inb (a b k : Nat) : Bool := decide (a ≤ k) && (decide (k ≤ b) && (decide (a % 7 ≤ k % 7) && decide (k % 7 ≤ b % 7)))
theorem inb_iff {a b k : Nat} : inb a b k = true ↔ IN k a b := by
  unfold inb IN
  simp
def rcb (a b : Nat) : Bool := decide (a / 7 ≤ b / 7) && decide (a % 7 ≤ b % 7)
theorem rcb_of {a b : Nat} (h : RC a b) : rcb a b = true := by
  unfold RC at h
  unfold rcb
  simp [h.2.2.1, h.2.2.2]
theorem rect_ct0 : ∀ a b : Fin 42, rcb a.val b.val = true → fb_ct (inb a.val b.val) 42 = (b.val / 7 - a.val / 7 + 1) * (b.val % 7 - a.val % 7 + 1) := by decide +kernel
theorem rect_ct {a b : Nat} (h : RC a b) : fb_ct (inb a b) 42 = (b / 7 - a / 7 + 1) * (b % 7 - a % 7 + 1) := rect_ct0 ⟨a, h.1⟩ ⟨b, h.2.1⟩ (rcb_of h)
theorem sizeOf_s {a b : Nat} (h : RC a b) : fX_sizeOf (nI a) (nI b) = some (nI (fb_ct (inb a b) 42)) := by
  rw [rect_ct h]
  unfold RC at h
  unfold fX_sizeOf fX_rowsOf fX_columnsOf
  rw [Option.bind_some, Option.bind_some, nI_r7 (by omega), nI_r7 (by omega), nI_d7 (by omega), nI_d7 (by omega), nI_sub h.2.2.1, nI_sub h.2.2.2, nI_1, nI_1, nI_mul]
theorem nI_inj {a b : Nat} (ha : a < 2 ^ 31) (hb : b < 2 ^ 31) (h : nI a = nI b) : a = b := (nI_eq ha hb).mp h
/-- the field of a cell: its corners, and which cells the reference takes for it -/
theorem BR.field {nu inF fi la s : Nat → Int32} (h : BR nu inF fi la s 0) {c : Nat} (hc : c < 42) (hf : inF c = 1) : ∃ a b, RC a b ∧ IN c a b ∧ fi c = nI a ∧ la c = nI b ∧ s (42 + c) = nI (a + 1) ∧ (∀ j, IN j a b → inF j = 1 ∧ fi j = nI a ∧ la j = nI b) ∧ ∀ k, k < 42 → (s (42 + k) = s (42 + c) ↔ IN k a b) := by
  obtain ⟨-, -, h0 | ⟨-, a, b, hr, hi, ha, hb, hs, hj⟩⟩ := h c hc
  · rw [h0.1] at hf; cases hf
  · rw [Nat.zero_add] at hs
    refine ⟨a, b, hr, hi, ha, hb, hs, hj, fun k hk => ?_⟩
    have hr' := hr
    unfold RC at hr'
    rw [hs]
    constructor
    · intro e
      obtain ⟨-, -, g0 | ⟨-, a', b', gr, gi, ga, gb, gs, gj⟩⟩ := h k hk
      · rw [Nat.zero_add] at g0
        rw [g0.2] at e
        have := nI_inj (a := 0) (b := a + 1) (by decide) (by omega) e
        omega
      · rw [Nat.zero_add, e] at gs
        have gr' := gr
        unfold RC at gr'
        have e1 : a = a' := by
          have := nI_inj (by omega) (by omega) gs
          omega
        subst e1
        have h1 := (hj a (IN_a hr)).2.2
        have h2 := (gj a (IN_a gr)).2.2
        rw [h1] at h2
        have e2 : b = b' := nI_inj (by omega) (by omega) h2
        subst e2
        exact gi
    · intro hin
      obtain ⟨g1, g2, g3⟩ := hj k hin
      obtain ⟨-, -, g0 | ⟨-, a', b', gr, gi, ga, gb, gs, gj⟩⟩ := h k hk
      · rw [g0.1] at g1; cases g1
      · rw [Nat.zero_add] at gs
        rw [g2] at ga
        have gr' := gr
        unfold RC at gr'
        have e1 : a = a' := nI_inj (by omega) (by omega) ga
        rw [gs, e1]
theorem BR.size {F : Nat} (hF : 42 < F) {nu inF fi la s : Nat → Int32} (h : BR nu inF fi la s 0) {c : Nat} (hc : c < 42) (hf : inF c = 1) : ∃ x n, n ≤ 42 ∧ fM_fieldOf F (nI c) s = some x ∧ fM_bits F x = some (nI n) ∧ fBoard_sizeOfField (nI c) fi la = some (nI n) := by
  obtain ⟨a, b, hr, hi, ha, hb, hs, hj, hk⟩ := h.field hc hf
  obtain ⟨x, e1, hx⟩ := fieldOf_s hF s hc
  refine ⟨x, fb_ct (inb a b) 42, fb_ct_le _ _, e1, ?_, ?_⟩
  · rw [bits_s hF]
    refine congrArg (fun z => some (nI z)) (fb_ct_cong (fun k hk2 => ?_))
    rw [hx k, decide_eq_true hk2, Bool.true_and]
    cases hb : inb a b k with
    | true => exact decide_eq_true ((hk k hk2).mpr (inb_iff.mp hb))
    | false => exact decide_eq_false (fun e => by rw [inb_iff.mpr ((hk k hk2).mp e)] at hb; cases hb)
  · unfold fBoard_sizeOfField
    rw [fX_isCell_s hc, Option.bind_some, if_neg (by decide), o_rd_s hc (by decide), Option.bind_some, o_rd_s hc (by decide), Option.bind_some, ha, hb, sizeOf_s hr]
    rfl
theorem isCorner_s {inF fi : Nat → Int32} {k : Nat} (hk : k < 42) : fBoard_isCorner (nI k) inF fi = some (if inF k ≠ 0 ∧ fi k = nI k then 1 else 0) := by
  unfold fBoard_isCorner
  rw [fX_isCell_s hk, Option.bind_some, if_neg (by decide), o_rd_s hk (by decide), Option.bind_some]
  by_cases h1 : inF k = 0
  · rw [if_pos h1, if_neg (fun e => e.1 h1)]
  · rw [if_neg h1, o_rd_s hk (by decide), Option.bind_some]
    by_cases h2 : fi k = nI k
    · rw [if_neg (not_not_intro h2), if_pos ⟨h1, h2⟩]
    · rw [if_pos h2, if_neg (fun e => h2 e.2)]
def crn (inF fi : Nat → Int32) (k : Nat) : Bool := decide (inF k ≠ 0 ∧ fi k = nI k)
theorem countFields_s {F : Nat} (hF : 42 < F) (inF fi : Nat → Int32) : fBoard_countFields F inF fi = some (nI (fb_ct (crn inF fi) 42)) := by
  obtain ⟨a, ha, e⟩ := lp0 42 hF (fun N i (a : Int32) => fBoard_countFields_L4 F inF fi N a (nI i)) (fun a => (a, nI 42)) (fun i a => a = nI (fb_ct (crn inF fi) i)) (a := 0)
    rfl
    (fun i a hi ha => by
      have e1 := ge42 hi
      subst ha
      refine ⟨_, rfl, fun N => ?_⟩
      rw [fb_ct_succ]
      by_cases h : inF i ≠ 0 ∧ fi i = nI i
      · simp only [fBoard_countFields_L4, e1, if_false, isCorner_s hi, Option.bind_some, if_pos h, show ¬ (1 : Int32) = 0 by decide, nI_1, crn, decide_eq_true h, if_true]
      · simp only [fBoard_countFields_L4, e1, if_false, isCorner_s hi, Option.bind_some, if_neg h, if_true, Int32.add_zero, Nat.add_zero, nI_1, crn, decide_eq_false h, Bool.false_eq_true])
    (fun N a ha => by simp only [fBoard_countFields_L4, le42, if_true])
  subst ha
  unfold fBoard_countFields
  try rw [nI_0] at e
  rw [e]
  rfl
theorem allFields_s {F : Nat} (hF : 42 < F) (s : Nat → Int32) : fM_allFields F s = some (nI (fb_ct (fun k => decide (s (42 + k) = nI (k + 1))) 42)) := by
  obtain ⟨a, ha, e⟩ := lp0 42 hF (fun N i (a : Int32) => fM_allFields_L4 F s N a (nI i)) (fun a => (a, nI 42)) (fun i a => a = nI (fb_ct (fun k => decide (s (42 + k) = nI (k + 1))) i)) (a := 0)
    rfl
    (fun i a hi ha => by
      have e1 := ge42 hi
      have e2 : o_rd 84 s (nI (42 + i)) = some (s (42 + i)) := o_rd_s (by omega) (by decide)
      subst ha
      refine ⟨_, rfl, fun N => ?_⟩
      rw [fb_ct_succ]
      by_cases h : s (42 + i) = nI (i + 1)
      · simp only [fM_allFields_L4, e1, if_false, a42, e2, Option.bind_some, nI_1, h, not_true_eq_false, decide_true, if_true]
      · simp only [fM_allFields_L4, e1, if_false, a42, e2, Option.bind_some, nI_1, h, not_false_eq_true, decide_false, if_true, Int32.add_zero, Nat.add_zero, Bool.false_eq_true])
    (fun N a ha => by simp only [fM_allFields_L4, le42, if_true])
  subst ha
  unfold fM_allFields
  try rw [nI_0] at e
  rw [e]
  rfl
theorem BR.count {F : Nat} (hF : 42 < F) {nu inF fi la s : Nat → Int32} (h : BR nu inF fi la s 0) : ∃ n, n ≤ 42 ∧ fBoard_countFields F inF fi = some (nI n) ∧ fM_allFields F s = some (nI n) := by
  refine ⟨_, fb_ct_le _ _, countFields_s hF inF fi, ?_⟩
  rw [allFields_s hF]
  refine congrArg (fun z => some (nI z)) (fb_ct_cong (fun k hk => ?_))
  unfold crn
  obtain ⟨-, -, h0 | ⟨hf, a, b, hr, hi, ha, hb, hs, hj⟩⟩ := h k hk
  · rw [Nat.zero_add] at h0
    have w1 : ¬ ((0 : Int32) ≠ 0 ∧ fi k = nI k) := fun e => e.1 rfl
    have w2 : ¬ (0 : Int32) = nI (k + 1) := fun e => by
      have := nI_inj (a := 0) (b := k + 1) (by decide) (by omega) e
      omega
    rw [h0.1, h0.2, decide_eq_false w1, decide_eq_false w2]
  · rw [Nat.zero_add] at hs
    have hr' := hr
    unfold RC at hr'
    rw [hf, ha, hs]
    by_cases e : a = k
    · subst e
      rw [decide_eq_true rfl, decide_eq_true ⟨by decide, rfl⟩]
    · rw [decide_eq_false (fun q => e (by have := nI_inj (by omega) (by omega) q; omega)), decide_eq_false (fun q => e (nI_inj (by omega) (by omega) q.2))]
def isum (f : Nat → Int32) : Nat → Int32
  | 0 => 0
  | n + 1 => isum f n + f n
theorem isum_cong {f g : Nat → Int32} : ∀ {n : Nat}, (∀ k, k < n → f k = g k) → isum f n = isum g n
  | 0, _ => rfl
  | n + 1, h => by
    show isum f n + f n = isum g n + g n
    rw [isum_cong (fun k hk => h k (by omega)), h n (by omega)]
theorem sumIn_s {F : Nat} (hF : 42 < F) (x : Int64) (nu : Nat → Int32) : fBoard_sumIn F x nu = some (isum (fun k => if tb x k = true then nu k else 0) 42) := by
  obtain ⟨a, ha, e⟩ := lp0 42 hF (fun N i (a : Int32) => fBoard_sumIn_L5 F x nu N a (nI i)) (fun a => (a, nI 42)) (fun i a => a = isum (fun k => if tb x k = true then nu k else 0) i) (a := 0)
    rfl
    (fun i a hi ha => by
      have e1 := ge42 hi
      subst ha
      refine ⟨_, rfl, fun N => ?_⟩
      show _ = fBoard_sumIn_L5 F x nu N (isum (fun k => if tb x k = true then nu k else 0) i + (if tb x i = true then nu i else 0)) (nI (i + 1))
      by_cases h : tb x i = true
      · simp only [fBoard_sumIn_L5, e1, if_false, fX_has_s hi, Option.bind_some, h, if_true, show ¬ (1 : Int32) = 0 by decide, o_rd_s hi (show 42 < 2 ^ 31 by decide), nI_1]
      · simp only [fBoard_sumIn_L5, e1, if_false, fX_has_s hi, Option.bind_some, h, if_true, nI_1, Bool.false_eq_true])
    (fun N a ha => by simp only [fBoard_sumIn_L5, le42, if_true])
  subst ha
  unfold fBoard_sumIn
  try rw [nI_0] at e
  rw [e]
  rfl
theorem total_s {F : Nat} (hF : 42 < F) (s : Nat → Int32) : fM_total F s = some (isum s 42) := by
  obtain ⟨a, ha, e⟩ := lp0 42 hF (fun N i (a : Int32) => fM_total_L4 F s N a (nI i)) (fun a => (a, nI 42)) (fun i a => a = isum s i) (a := 0)
    rfl
    (fun i a hi ha => by
      have e1 := ge42 hi
      subst ha
      refine ⟨_, rfl, fun N => ?_⟩
      show _ = fM_total_L4 F s N (isum s i + s i) (nI (i + 1))
      simp only [fM_total_L4, e1, if_false, o_rd_s (show i < 84 by omega) (show 84 < 2 ^ 31 by decide), Option.bind_some, nI_1])
    (fun N a ha => by simp only [fM_total_L4, le42, if_true])
  subst ha
  unfold fM_total
  try rw [nI_0] at e
  rw [e]
  rfl
def ALL : Int64 := 4398046511103
theorem tb_ALL (k : Nat) : tb ALL k = decide (k < 42) := by
  by_cases h : k < 64
  · have := (show ∀ i : Fin 64, tb ALL i.val = decide (i.val < 42) by decide +kernel) ⟨k, h⟩
    exact this
  · rw [tb_big (by omega), decide_eq_false (by omega)]
theorem BR.total {F : Nat} (hF : 42 < F) {nu inF fi la s : Nat → Int32} (h : BR nu inF fi la s 0) : fBoard_sumIn F ALL nu = some (isum nu 42) ∧ fM_total F s = some (isum nu 42) := by
  constructor
  · rw [sumIn_s hF]
    exact congrArg some (isum_cong (fun k hk => by rw [tb_ALL, decide_eq_true hk, if_pos rfl]))
  · rw [total_s hF]
    exact congrArg some (isum_cong (fun k hk => by have := (h k hk).2.1; rw [Nat.zero_add] at this; exact this))
