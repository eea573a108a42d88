/-! THE MATHEMATICS: rectangles as sets of cells; drawing them. Own text. -/
theorem nI_lt42 {a b : Nat} (ha : a < 2 ^ 31) (hb : b < 2 ^ 31) : (nI a < nI b) = (a < b) := propext (nI_ltI ha hb)
theorem isInside_s {k a b : Nat} (hk : k < 42) (ha : a < 42) (hb : b < 42) : fX_isInside (nI k) (nI a) (nI b) = some (if inb a b k = true then 1 else 0) := by
  unfold fX_isInside
  rw [nI_r7 (by omega), nI_r7 (by omega), nI_r7 (by omega)]
  simp only [nI_lt42 (show k < 2 ^ 31 by omega) (show a < 2 ^ 31 by omega), nI_lt42 (show b < 2 ^ 31 by omega) (show k < 2 ^ 31 by omega), nI_lt42 (show k % 7 < 2 ^ 31 by omega) (show a % 7 < 2 ^ 31 by omega), nI_lt42 (show b % 7 < 2 ^ 31 by omega) (show k % 7 < 2 ^ 31 by omega)]
  by_cases h1 : k < a
  · rw [if_pos h1, if_neg (fun e => by have := inb_iff.mp e; unfold IN at this; omega)]
  · rw [if_neg h1]
    by_cases h2 : b < k
    · rw [if_pos h2, if_neg (fun e => by have := inb_iff.mp e; unfold IN at this; omega)]
    · rw [if_neg h2]
      by_cases h3 : k % 7 < a % 7
      · rw [if_pos h3, if_neg (fun e => by have := inb_iff.mp e; unfold IN at this; omega)]
      · rw [if_neg h3]
        by_cases h4 : b % 7 < k % 7
        · rw [if_pos h4, if_neg (fun e => by have := inb_iff.mp e; unfold IN at this; omega)]
        · rw [if_neg h4, if_pos (inb_iff.mpr (by unfold IN; omega))]
theorem cellsOf_s {F : Nat} (hF : 42 < F) {a b : Nat} (ha : a < 42) (hb : b < 42) : ∃ x, fX_cellsOf F (nI a) (nI b) = some x ∧ ∀ k, tb x k = (decide (k < 42) && inb a b k) := by
  obtain ⟨x, hx, e⟩ := lp0 42 hF (fun N i (x : Int64) => fX_cellsOf_L5 F (nI a) (nI b) N x (nI i)) (fun x => (x, nI 42)) (fun i x => ∀ k, tb x k = (decide (k < i) && inb a b k)) (a := 0)
    (fun k => by rw [tb_0]; simp)
    (fun i x hi hx => by
      have e1 := ge42 hi
      by_cases h : inb a b i = true
      · refine ⟨x ||| ((1 : Int64) <<< ((nI i).toInt64 &&& 63)), fun k => ?_, fun N => ?_⟩
        · rw [tb_or, tb_bit (by omega), hx k]
          by_cases q : k = i
          · subst q; simp [h]
          · rw [dec_succ k i q]; simp [q]
        · simp only [fX_cellsOf_L5, e1, if_false, isInside_s hi ha hb, Option.bind_some, h, if_true, show ¬ (1 : Int32) = 0 by decide, fX_bit_s hi, nI_1]
      · refine ⟨x, fun k => ?_, fun N => ?_⟩
        · rw [hx k]
          by_cases q : k = i
          · subst q; simp [h]
          · rw [dec_succ k i q]
        · simp only [fX_cellsOf_L5, e1, if_false, isInside_s hi ha hb, Option.bind_some, h, if_true, Int64.or_zero, nI_1, Bool.false_eq_true])
    (fun N x hx => by simp only [fX_cellsOf_L5, le42, if_true])
  refine ⟨x, ?_, hx⟩
  unfold fX_cellsOf
  try rw [nI_0] at e
  rw [e]
  rfl
theorem nI_lt_false {a b : Nat} (h : b ≤ a) (ha : a < 2 ^ 31) : ¬ nI a < nI b := nI_nlt h ha
/-- the reference's rectangle, a row -/
theorem rect_row {F : Nat} (hF : 42 < F) {l r row : Nat} (hl : l ≤ r) (hr : r < 7) (hrow : row < 6) (x0 : Int64) : ∃ x, fM_rectangle_L15 F (nI r) (nI row) F x0 (nI l) = some (x, nI (r + 1)) ∧ ∀ k, tb x k = (tb x0 k || (decide (7 * row + l ≤ k) && decide (k ≤ 7 * row + r))) := by
  obtain ⟨x, ⟨-, hx⟩, e⟩ := lp (r + 1) (fun N i (x : Int64) => fM_rectangle_L15 F (nI r) (nI row) N x (nI i)) (fun x => (x, nI (r + 1))) (fun i x => l ≤ i ∧ ∀ k, tb x k = (tb x0 k || (decide (7 * row + l ≤ k) && decide (k < 7 * row + i))))
    (fun i x hi hx => by
      obtain ⟨hli, hx⟩ := hx
      have e1 : ¬ nI r < nI i := nI_nlt (by omega) (by omega)
      have e2 : ((7 : Int32) * nI row) + nI i = nI (7 * row + i) := by rw [show (7 : Int32) = nI 7 from rfl, nI_mul, nI_add]
      refine ⟨x ||| ((1 : Int64) <<< ((nI (7 * row + i)).toInt64 &&& 63)), ⟨by omega, fun k => ?_⟩, fun N => ?_⟩
      · rw [tb_or, tb_bit (by omega), hx k]
        by_cases q : k = 7 * row + i
        · subst q
          have h1 : 7 * row + l ≤ 7 * row + i := by omega
          have h2 : 7 * row + i < 7 * row + (i + 1) := by omega
          simp [h1, h2]
        · have : (k < 7 * row + (i + 1)) ↔ (k < 7 * row + i) := by omega
          simp only [this, q, decide_false, Bool.or_false]
      · simp only [fM_rectangle_L15, e1, if_false, e2, nI_1])
    (fun N x hx => by
      have e1 : nI r < nI (r + 1) := nI_lt (by omega) (by omega)
      simp only [fM_rectangle_L15, e1, if_true]) (r + 1 - l) l F x0 (by omega) (by omega) ⟨Nat.le_refl _, fun k => by
        have : ¬ (7 * row + l ≤ k ∧ k < 7 * row + l) := by omega
        by_cases q : 7 * row + l ≤ k
        · simp [q, show ¬ k < 7 * row + l by omega]
        · simp [q]⟩
  refine ⟨x, e, fun k => ?_⟩
  rw [hx k]
  have : (k < 7 * row + (r + 1)) ↔ (k ≤ 7 * row + r) := by omega
  simp only [this]
theorem rectangle_s {F : Nat} (hF : 42 < F) {t l b r : Nat} (htb : t ≤ b) (hb : b < 6) (hlr : l ≤ r) (hr : r < 7) : ∃ x, fM_rectangle F (nI t) (nI l) (nI b) (nI r) = some x ∧ ∀ k, tb x k = (decide (k < 42) && inb (7 * t + l) (7 * b + r) k) := by
  obtain ⟨x, ⟨-, hx⟩, e⟩ := lp (b + 1) (fun N i (x : Int64) => fM_rectangle_L6 F (nI l) (nI b) (nI r) N x (nI i)) (fun x => (x, nI (b + 1))) (fun i x => t ≤ i ∧ ∀ k, tb x k = (decide (7 * t ≤ k) && (decide (k < 7 * i) && (decide (l ≤ k % 7) && decide (k % 7 ≤ r)))))
    (fun i x hi hx => by
      obtain ⟨hti, hx⟩ := hx
      have e1 : ¬ nI b < nI i := nI_nlt (by omega) (by omega)
      obtain ⟨y, e2, hy⟩ := rect_row hF hlr hr (by omega : i < 6) x
      refine ⟨y, ⟨by omega, fun k => ?_⟩, fun N => ?_⟩
      · rw [hy k, hx k]
        by_cases q1 : k < 7 * i
        · have h1 : ¬ 7 * i + l ≤ k := by omega
          have h2 : k < 7 * (i + 1) := by omega
          simp [q1, h1, h2]
        · by_cases q2 : k < 7 * (i + 1)
          · have h1 : 7 * t ≤ k := by omega
            have h2 : (7 * i + l ≤ k) ↔ (l ≤ k % 7) := by omega
            have h3 : (k ≤ 7 * i + r) ↔ (k % 7 ≤ r) := by omega
            simp [q1, q2, h1, h2, h3]
          · have h1 : ¬ k ≤ 7 * i + r := by omega
            simp [q1, q2, h1]
      · simp only [fM_rectangle_L6, e1, if_false, e2, Option.bind_some, nI_1])
    (fun N x hx => by
      have e1 : nI b < nI (b + 1) := nI_lt (by omega) (by omega)
      simp only [fM_rectangle_L6, e1, if_true]) (b + 1 - t) t F 0 (by omega) (by omega) ⟨Nat.le_refl _, fun k => by
        rw [tb_0]
        by_cases q : 7 * t ≤ k
        · simp [show ¬ k < 7 * t by omega]
        · simp [q]⟩
  refine ⟨x, ?_, fun k => ?_⟩
  · unfold fM_rectangle
    rw [e]
    rfl
  · rw [hx k]
    unfold inb
    have h1 : (7 * t + l) % 7 = l := by omega
    have h2 : (7 * b + r) % 7 = r := by omega
    rw [h1, h2]
    by_cases q3 : l ≤ k % 7 ∧ k % 7 ≤ r
    · have a1 : (7 * t ≤ k) ↔ (7 * t + l ≤ k) := by omega
      have a2 : (k < 7 * (b + 1)) ↔ (k ≤ 7 * b + r) := by omega
      by_cases q4 : k ≤ 7 * b + r
      · simp only [a1, a2, show k < 42 by omega, decide_true, Bool.true_and]
      · simp only [a2, q4, decide_false, Bool.false_and, Bool.and_false]
    · by_cases q5 : l ≤ k % 7
      · have q6 : ¬ k % 7 ≤ r := fun e => q3 ⟨q5, e⟩
        simp [q6]
      · simp [q5]
theorem lowest_s {F : Nat} (hF : 42 < F) (x : Int64) : ∃ j, j ≤ 42 ∧ fM_lowest F x = some (nI j) ∧ (∀ i, i < j → tb x i = false) ∧ (j < 42 → tb x j = true) := by
  have key : ∀ (m i N : Nat), i + m = 42 → m < N → (∀ k, k < i → tb x k = false) → ∃ j, j ≤ 42 ∧ fM_lowest_L2 F x N (nI i) = some (nI j) ∧ (∀ k, k < j → tb x k = false) ∧ (j < 42 → tb x j = true) := by
    intro m
    induction m with
    | zero =>
      intro i N hi hN h
      obtain ⟨M, rfl⟩ : ∃ M, N = M + 1 := ⟨N - 1, by omega⟩
      have hi : i = 42 := by omega
      subst hi
      exact ⟨42, Nat.le_refl _, by simp only [fM_lowest_L2, le42, if_true], h, fun q => absurd q (by decide)⟩
    | succ m ih =>
      intro i N hi hN h
      obtain ⟨M, rfl⟩ : ∃ M, N = M + 1 := ⟨N - 1, by omega⟩
      have hi42 : i < 42 := by omega
      have e1 := ge42 hi42
      by_cases q : tb x i = true
      · exact ⟨i, by omega, by simp only [fM_lowest_L2, e1, if_false, fM_has_s (show i < 64 by omega), Option.bind_some, q, if_true, show ¬ (1 : Int32) = 0 by decide, not_false_eq_true], h, fun _ => q⟩
      · obtain ⟨j, h1, h2, h3, h4⟩ := ih (i + 1) M (by omega) (by omega) (fun k hk => by
          by_cases e : k = i
          · subst e; simpa using q
          · exact h k (by omega))
        exact ⟨j, h1, by simp only [fM_lowest_L2, e1, if_false, fM_has_s (show i < 64 by omega), Option.bind_some, q, not_true_eq_false, nI_1, h2, Bool.false_eq_true], h3, h4⟩
  obtain ⟨j, h1, h2, h3, h4⟩ := key 42 0 F rfl hF (fun k hk => by omega)
  refine ⟨j, h1, ?_, h3, h4⟩
  unfold fM_lowest
  try rw [nI_0] at h2
  rw [h2]
  rfl
theorem lowest_rect {F : Nat} (hF : 42 < F) {x : Int64} {a b : Nat} (h : RC a b) (hx : ∀ k, tb x k = (decide (k < 42) && inb a b k)) : fM_lowest F x = some (nI a) := by
  obtain ⟨j, h1, h2, h3, h4⟩ := lowest_s hF x
  have ha : tb x a = true := by
    rw [hx a, decide_eq_true h.1, inb_iff.mpr (IN_a h)]
    rfl
  have hj : j ≤ a := Nat.not_lt.mp (fun q => by rw [h3 a q] at ha; cases ha)
  have hj2 : a ≤ j := by
    by_cases q : j < 42
    · have := h4 q
      rw [hx j, decide_eq_true q, Bool.true_and] at this
      have := inb_iff.mp this
      unfold IN at this
      omega
    · have := h.1
      omega
  rw [h2, show j = a by omega]
theorem place_s {F : Nat} (hF : 42 < F) {a b : Nat} (ha : a < 42) (hb : b < 42) (inF fi la : Nat → Int32) : ∃ i' f' l', fBoard_place F (nI a) (nI b) inF fi la = some (i', f', l') ∧ ∀ k, k < 42 → (i' k = if inb a b k = true then 1 else inF k) ∧ (f' k = if inb a b k = true then nI a else fi k) ∧ (l' k = if inb a b k = true then nI b else la k) := by
  obtain ⟨x, hx, e⟩ := lp0 42 hF (fun N i (x : (Nat → Int32) × (Nat → Int32) × (Nat → Int32)) => fBoard_place_L2 F (nI a) (nI b) N (nI i) x.1 x.2.1 x.2.2) (fun x => (nI 42, x.1, x.2.1, x.2.2)) (fun i x => ∀ k, (x.1 k = if inb a b k = true ∧ k < i then 1 else inF k) ∧ (x.2.1 k = if inb a b k = true ∧ k < i then nI a else fi k) ∧ (x.2.2 k = if inb a b k = true ∧ k < i then nI b else la k)) (a := (inF, fi, la))
    (fun k => by
      have : ¬ (inb a b k = true ∧ k < 0) := fun e => absurd e.2 (by omega)
      simp only [if_neg this, and_self])
    (fun i x hi hx => by
      have e1 := ge42 hi
      by_cases h : inb a b i = true
      · refine ⟨(upd x.1 i 1, upd x.2.1 i (nI a), upd x.2.2 i (nI b)), fun k => ?_, fun N => ?_⟩
        · by_cases q : k = i
          · subst q
            have : inb a b k = true ∧ k < k + 1 := ⟨h, by omega⟩
            simp only [if_pos this, upd_at, and_self]
          · have : (inb a b k = true ∧ k < i + 1) ↔ (inb a b k = true ∧ k < i) := by
              constructor <;> (intro z; exact ⟨z.1, by omega⟩)
            simp only [upd_off _ _ q, this]
            exact hx k
        · simp only [fBoard_place_L2, e1, if_false, isInside_s hi ha hb, Option.bind_some, h, if_true, show ¬ (1 : Int32) = 0 by decide, o_wrZ_s1 hi (show 42 < 2 ^ 31 by decide), o_wrI_s hi (show 42 < 2 ^ 31 by decide), nI_1]
      · refine ⟨x, fun k => ?_, fun N => ?_⟩
        · have : (inb a b k = true ∧ k < i + 1) ↔ (inb a b k = true ∧ k < i) := by
            constructor
            · intro z
              refine ⟨z.1, ?_⟩
              have : k ≠ i := fun e => h (e ▸ z.1)
              omega
            · intro z
              exact ⟨z.1, by omega⟩
          simp only [this]
          exact hx k
        · simp only [fBoard_place_L2, e1, if_false, isInside_s hi ha hb, Option.bind_some, h, if_true, nI_1, Bool.false_eq_true])
    (fun N x hx => by simp only [fBoard_place_L2, le42, if_true])
  refine ⟨x.1, x.2.1, x.2.2, ?_, fun k hk => ?_⟩
  · unfold fBoard_place
    try rw [nI_0] at e
    rw [e]
    rfl
  · have : (inb a b k = true ∧ k < 42) ↔ (inb a b k = true) := ⟨fun z => z.1, fun z => ⟨z, hk⟩⟩
    have h := hx k
    simp only [this] at h
    exact h
theorem draws_s {F : Nat} (hF : 42 < F) {x : Int64} {a b : Nat} (h : RC a b) (hx : ∀ k, tb x k = (decide (k < 42) && inb a b k)) (s : Nat → Int32) : ∃ s', fM_draws F x s = some s' ∧ (∀ k, k < 42 → s' (42 + k) = if inb a b k = true then nI (a + 1) else s (42 + k)) ∧ ∀ k, (k < 42 ∨ 84 ≤ k) → s' k = s k := by
  obtain ⟨t, ht, e⟩ := lp0 42 hF (fun N i (t : Nat → Int32) => fM_draws_L8 F x (nI a) N (nI i) t) (fun t => (nI 42, t)) (fun i t => (∀ k, k < 42 → t (42 + k) = if inb a b k = true ∧ k < i then nI (a + 1) else s (42 + k)) ∧ ∀ k, (k < 42 ∨ 84 ≤ k) → t k = s k) (a := s)
    ⟨fun k _ => by rw [if_neg (fun e => absurd e.2 (by omega))], fun k _ => rfl⟩
    (fun i t hi ht => by
      have e1 := ge42 hi
      have e2 : o_rd 84 t (nI (42 + i)) = some (t (42 + i)) := o_rd_s (by omega) (by decide)
      have e3 : ∀ v, o_wrI 84 t (nI (42 + i)) v = some (upd t (42 + i) v) := fun v => o_wrI_s (by omega) (by decide)
      have hxi : tb x i = inb a b i := by rw [hx i, decide_eq_true hi, Bool.true_and]
      refine ⟨upd t (42 + i) (if inb a b i = true then nI (a + 1) else t (42 + i)), ⟨fun k hk => ?_, fun k hk => ?_⟩, fun N => ?_⟩
      · by_cases q : k = i
        · subst q
          rw [upd_at]
          by_cases h : inb a b k = true
          · rw [if_pos h, if_pos ⟨h, by omega⟩]
          · rw [if_neg h, if_neg (fun e => h e.1), ht.1 k hk, if_neg (fun e => h e.1)]
        · rw [upd_off _ _ (by omega), ht.1 k hk]
          have : (inb a b k = true ∧ k < i + 1) ↔ (inb a b k = true ∧ k < i) := by
            constructor <;> (intro z; exact ⟨z.1, by omega⟩)
          simp only [this]
      · rw [upd_off _ _ (by omega)]
        exact ht.2 k hk
      · by_cases h : inb a b i = true
        · simp only [fM_draws_L8, e1, if_false, fM_has_s (show i < 64 by omega), Option.bind_some, hxi, h, if_true, show ¬ (1 : Int32) = 0 by decide, a42, e3, nI_1]
        · simp only [fM_draws_L8, e1, if_false, fM_has_s (show i < 64 by omega), Option.bind_some, hxi, h, if_true, a42, e2, e3, nI_1, Bool.false_eq_true])
    (fun N t ht => by simp only [fM_draws_L8, le42, if_true])
  refine ⟨t, ?_, fun k hk => ?_, ht.2⟩
  · unfold fM_draws
    try rw [nI_0] at e
    rw [lowest_rect hF h hx, Option.bind_some, e]
    rfl
  · rw [ht.1 k hk]
    have : (inb a b k = true ∧ k < 42) ↔ (inb a b k = true) := ⟨fun z => z.1, fun z => ⟨z, hk⟩⟩
    simp only [this]
/-- a field drawn where there is none: the two agree again -/
theorem BR.place {nu inF fi la s i' f' l' s' : Nat → Int32} (h : BR nu inF fi la s 0) {a b : Nat} (hr : RC a b) (hfree : ∀ k, IN k a b → inF k = 0) (hX : ∀ k, k < 42 → (i' k = if inb a b k = true then 1 else inF k) ∧ (f' k = if inb a b k = true then nI a else fi k) ∧ (l' k = if inb a b k = true then nI b else la k)) (hM : ∀ k, k < 42 → s' (42 + k) = if inb a b k = true then nI (a + 1) else s (42 + k)) (hM0 : ∀ k, k < 42 → s' k = s k) : BR nu i' f' l' s' 0 := fun k hk => by
  obtain ⟨hv, hs, hf⟩ := h k hk
  obtain ⟨x1, x2, x3⟩ := hX k hk
  have m1 := hM k hk
  refine ⟨hv, by rw [Nat.zero_add] at hs ⊢; rw [hM0 k hk]; exact hs, ?_⟩
  rw [Nat.zero_add]
  rw [Nat.zero_add] at hf
  by_cases q : inb a b k = true
  · rw [if_pos q] at x1 x2 x3 m1
    refine Or.inr ⟨x1, a, b, hr, inb_iff.mp q, x2, x3, m1, fun j hj => ?_⟩
    obtain ⟨y1, y2, y3⟩ := hX j (IN_lt hr hj)
    have hj2 := inb_iff.mpr hj
    rw [if_pos hj2] at y1 y2 y3
    exact ⟨y1, y2, y3⟩
  · rw [if_neg q] at x1 x2 x3 m1
    rw [x1, x2, x3, m1]
    rcases hf with hf | ⟨hf, a', b', gr, gi, ga, gb, gs, gj⟩
    · exact Or.inl hf
    · refine Or.inr ⟨hf, a', b', gr, gi, ga, gb, gs, fun j hj => ?_⟩
      obtain ⟨y1, y2, y3⟩ := hX j (IN_lt gr hj)
      have hj1 := gj j hj
      have hn : ¬ inb a b j = true := fun e => by
        have := hfree j (inb_iff.mp e)
        rw [hj1.1] at this
        cases this
      rw [if_neg hn] at y1 y2 y3
      rw [y1, y2, y3]
      exact hj1
